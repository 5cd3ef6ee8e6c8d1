/-- where isSound ends -/
def QS (dC : Nat → ClassId) (dI : Nat → Nat → Nat) (cI cV : ClassId) (P F G T za zb : Nat) (fa ia vd ra rb xa ya xb yb : Nat → Nat) (A : Nat → Prop) (s : State) (args : Array Value) (below : List Frame) (w : Nat → Nat → Int32) (NP NJ NV : Nat) (ck : Int32) (vv : Nat → Nat → Int32) (R : Nat → List Int32) : State → Prop :=
  vx_MQ below (va_Qi (fun (r : Int32) (u : va_W) => r = 1 ∧ ∃ vv' : Nat → Nat → Int32, (∀ n k, k ≠ 7 → vv' n k = vv n k) ∧ dgF NP NJ NV w ck vv' R (sS vv') = dgF NP NJ NV w ck vv R (sS vv) ∧ WOK cI cV P F G T za zb fa ia vd ra rb xa ya xb yb w NP NJ NV ck vv' R u) (QB (dC, dI) (fun (u : va_W) => u) (TY cI cV) A) A) (vx_X (fun _ : Unit => False) (fun _ _ _ => True) A) args s 2000 12100 A
section SoundEnd
variable {p : Program} {l : Launch} {e : Env} {R0 : Room} {s : State} {m : MethodId} {args : Array Value} {below : List Frame} {meth : Method} {c : Code} {cells slots : Nat} {Q : State → Prop}
variable {cc : ByteArray} {nL : Nat} {c0 : Cond} {pc : Nat} {A : Nat → Prop}
variable {dC : Nat → ClassId} {dI : Nat → Nat → Nat} {cI cV : ClassId} {P F G T za zb : Nat} {fa ia vd ra rb xa ya xb yb : Nat → Nat}
variable {w : Nat → Nat → Int32} {NP NJ NV : Nat} {ck : Int32} {vv : Nat → Nat → Int32} {R : Nat → List Int32} {N : Nat → List Nat}
set_option maxHeartbeats 4000000 in
set_option maxRecDepth 100000 in
theorem so_400 (hlT : l.stackTraces = false) (CF : CallFix p m c cL_isSound 8 s args (c0 :: TB) RL) (L : LF dC dI cI cV A s) (I : IV NP NJ NV w vv R) (C : pC NP NJ NV w vv N R) (hRm : 9 ≤ R0.frames ∧ 250 ≤ R0.locals) {cb sb : Nat} (hcb : cb ≤ R0.cells ∧ sb ≤ R0.slots) {sn0 : Nat} {sm0 : Int32} (hr : meth.sig.returnType = some .boolean) (hlocks : meth.locks = false) (hs : sm0.toInt = csI w vv NV N) {H : Heap} {locs : List Loc} {ls : Array Slot} {cn sl : Nat} (GG : GS dC dI cI cV P F G T za zb fa ia vd ra rb xa ya xb yb A s [(sn0, .inl (cI, 9, .inl (fun J9 => nI (sn N NV 0 J9))))] w NP NJ NV ck vv R H locs) (hl : lv_has ls 8 [(3, .ref sn0), (2, .int (nI 0)), (1, .int sm0), (0, .ref P)]) (hc : cn + 4 ≤ cb ∧ sl + 24 ≤ sb) (hcb9 : cb ≤ 2000 ∧ sb ≤ 12100) : W p l e R0 s m args below meth c H locs cn sl (QS dC dI cI cV P F G T za zb fa ia vd ra rb xa ya xb yb A s args below w NP NJ NV ck vv R) (F0 m 400 ls []) := by
  obtain ⟨hx, hb, hml, hown, hts⟩ := id CF
  refine lv_iconst (v := 0) hx hb dL_isSound_400 (by decide) ?_
  refine lv_istore (lv' := [(4, .int 0), (3, .ref sn0), (2, .int (nI 0)), (1, .int sm0), (0, .ref P)]) hx hb dL_isSound_401 hl (by decide) rfl (fun ls hl => ?_)
  have hl : lv_has ls 8 [(4, .int (nI 0)), (3, .ref sn0), (2, .int (nI 0)), (1, .int sm0), (0, .ref P)] := hl
  refine lv_iload hx hb dL_isSound_403 (lv_at hl 0 rfl) ?_
  refine lv_iconst (v := 4) hx hb dL_isSound_405 (by decide) ?_
  refine lv_icmp_ge (tgt := 426) hx hb dL_isSound_406 (by decide) (fun c_1 => ?_) (fun c_1 => ?_)
  · exact absurd c_1 (by decide)
  · refine lv_aload_n hx hb dL_isSound_409 rfl (lv_at hl 4 rfl) ?_
    refine lv_iload hx hb dL_isSound_410 (lv_at hl 0 rfl) ?_
    refine gs_gain hlT (kd := 0) (by decide) (Nat.le_of_ble_eq_true rfl) CF L I GG hRm hl.1 dL_isSound_412 ⟨by omega, by omega⟩ (fun r_2 a_2 H locs h7_2 hq_2 hg_2 hd_2 G_2 => ?_)
    have I_2 := iv_7 I h7_2
    have e7_2 := h7_2
    have ed_2 := hd_2
    refine lv_if_ge (tgt := 420) hx hb dL_isSound_415 (by decide) (fun c_3 => ?_) (fun c_3 => ?_)
    · refine lv_iinc (v := nI 1) (lv' := [(4, .int (nI 1)), (3, .ref sn0), (2, .int (nI 0)), (1, .int sm0), (0, .ref P)]) hx hb dL_isSound_420 hl (k := 0) rfl (rfl) (by decide) rfl (fun ls hl => ?_)
      refine lv_goto (tgt := 403) hx hb dL_isSound_423 (by decide) ?_
      refine lv_iload hx hb dL_isSound_403 (lv_at hl 0 rfl) ?_
      refine lv_iconst (v := 4) hx hb dL_isSound_405 (by decide) ?_
      refine lv_icmp_ge (tgt := 426) hx hb dL_isSound_406 (by decide) (fun c_4 => ?_) (fun c_4 => ?_)
      · exact absurd c_4 (by decide)
      · refine lv_aload_n hx hb dL_isSound_409 rfl (lv_at hl 4 rfl) ?_
        refine lv_iload hx hb dL_isSound_410 (lv_at hl 0 rfl) ?_
        refine gs_gain hlT (kd := 1) (by decide) (Nat.le_of_ble_eq_true rfl) CF L I_2 G_2 hRm hl.1 dL_isSound_412 ⟨by omega, by omega⟩ (fun r_5 a_5 H locs h7_5 hq_5 hg_5 hd_5 G_5 => ?_)
        have I_5 := iv_7 I_2 h7_5
        have e7_5 : ∀ n k9, k9 ≠ 7 → a_5 n k9 = vv n k9 := fun n k9 q => (h7_5 n k9 q).trans (e7_2 n k9 q)
        have ed_5 := hd_5.trans ed_2
        refine lv_if_ge (tgt := 420) hx hb dL_isSound_415 (by decide) (fun c_6 => ?_) (fun c_6 => ?_)
        · refine lv_iinc (v := nI 2) (lv' := [(4, .int (nI 2)), (3, .ref sn0), (2, .int (nI 0)), (1, .int sm0), (0, .ref P)]) hx hb dL_isSound_420 hl (k := 0) rfl (rfl) (by decide) rfl (fun ls hl => ?_)
          refine lv_goto (tgt := 403) hx hb dL_isSound_423 (by decide) ?_
          refine lv_iload hx hb dL_isSound_403 (lv_at hl 0 rfl) ?_
          refine lv_iconst (v := 4) hx hb dL_isSound_405 (by decide) ?_
          refine lv_icmp_ge (tgt := 426) hx hb dL_isSound_406 (by decide) (fun c_7 => ?_) (fun c_7 => ?_)
          · exact absurd c_7 (by decide)
          · refine lv_aload_n hx hb dL_isSound_409 rfl (lv_at hl 4 rfl) ?_
            refine lv_iload hx hb dL_isSound_410 (lv_at hl 0 rfl) ?_
            refine gs_gain hlT (kd := 2) (by decide) (Nat.le_of_ble_eq_true rfl) CF L I_5 G_5 hRm hl.1 dL_isSound_412 ⟨by omega, by omega⟩ (fun r_8 a_8 H locs h7_8 hq_8 hg_8 hd_8 G_8 => ?_)
            have I_8 := iv_7 I_5 h7_8
            have e7_8 : ∀ n k9, k9 ≠ 7 → a_8 n k9 = vv n k9 := fun n k9 q => (h7_8 n k9 q).trans (e7_5 n k9 q)
            have ed_8 := hd_8.trans ed_5
            refine lv_if_ge (tgt := 420) hx hb dL_isSound_415 (by decide) (fun c_9 => ?_) (fun c_9 => ?_)
            · refine lv_iinc (v := nI 3) (lv' := [(4, .int (nI 3)), (3, .ref sn0), (2, .int (nI 0)), (1, .int sm0), (0, .ref P)]) hx hb dL_isSound_420 hl (k := 0) rfl (rfl) (by decide) rfl (fun ls hl => ?_)
              refine lv_goto (tgt := 403) hx hb dL_isSound_423 (by decide) ?_
              refine lv_iload hx hb dL_isSound_403 (lv_at hl 0 rfl) ?_
              refine lv_iconst (v := 4) hx hb dL_isSound_405 (by decide) ?_
              refine lv_icmp_ge (tgt := 426) hx hb dL_isSound_406 (by decide) (fun c_10 => ?_) (fun c_10 => ?_)
              · exact absurd c_10 (by decide)
              · refine lv_aload_n hx hb dL_isSound_409 rfl (lv_at hl 4 rfl) ?_
                refine lv_iload hx hb dL_isSound_410 (lv_at hl 0 rfl) ?_
                refine gs_gain hlT (kd := 3) (by decide) (Nat.le_of_ble_eq_true rfl) CF L I_8 G_8 hRm hl.1 dL_isSound_412 ⟨by omega, by omega⟩ (fun r_11 a_11 H locs h7_11 hq_11 hg_11 hd_11 G_11 => ?_)
                have I_11 := iv_7 I_8 h7_11
                have e7_11 : ∀ n k9, k9 ≠ 7 → a_11 n k9 = vv n k9 := fun n k9 q => (h7_11 n k9 q).trans (e7_8 n k9 q)
                have ed_11 := hd_11.trans ed_8
                refine lv_if_ge (tgt := 420) hx hb dL_isSound_415 (by decide) (fun c_12 => ?_) (fun c_12 => ?_)
                · refine lv_iinc (v := nI 4) (lv' := [(4, .int (nI 4)), (3, .ref sn0), (2, .int (nI 0)), (1, .int sm0), (0, .ref P)]) hx hb dL_isSound_420 hl (k := 0) rfl (rfl) (by decide) rfl (fun ls hl => ?_)
                  refine lv_goto (tgt := 403) hx hb dL_isSound_423 (by decide) ?_
                  refine lv_iload hx hb dL_isSound_403 (lv_at hl 0 rfl) ?_
                  refine lv_iconst (v := 4) hx hb dL_isSound_405 (by decide) ?_
                  refine lv_icmp_ge (tgt := 426) hx hb dL_isSound_406 (by decide) (fun c_13 => ?_) (fun c_13 => ?_)
                  · refine lv_iload_n hx hb dL_isSound_426 rfl (lv_at hl 2 rfl) ?_
                    refine lv_if_ne (tgt := 460) hx hb dL_isSound_427 (by decide) (fun c_14 => ?_) (fun c_14 => ?_)
                    · exact absurd rfl c_14
                    · refine lv_aload_n hx hb dL_isSound_430 rfl (lv_at hl 4 rfl) ?_
                      refine gs_cost hlT (Nat.le_of_ble_eq_true rfl) CF L I_11 G_11 hRm hl.1 dL_isSound_431 ⟨by omega, by omega⟩ (fun r_15 H locs hq_15 G_15 => ?_)
                      refine lv_iload_n hx hb dL_isSound_434 rfl (lv_at hl 3 rfl) ?_
                      refine lv_icmp_lt (tgt := 460) hx hb dL_isSound_435 (by decide) (fun c_16 => ?_) (fun c_16 => ?_)
                      · exact absurd c_16 (by rw [hq_15, iv_cost7 I e7_11]; exact cost_ge C hs)
                      · refine lv_aload_n hx hb dL_isSound_438 rfl (lv_at hl 4 rfl) ?_
                        refine gs_fullness hlT (Nat.le_of_ble_eq_true rfl) CF L I_11 G_15 hRm hl.1 dL_isSound_439 ⟨by omega, by omega⟩ (fun r_17 H locs hq_17 G_17 => ?_)
                        refine lv_dconst0 hx hb dL_isSound_442 ?_
                        refine lv_dcmp hx hb dL_isSound_443 ?_
                        refine lv_if_lt (tgt := 460) hx hb dL_isSound_444 (by decide) (fun c_18 => ?_) (fun c_18 => ?_)
                        · exact absurd c_18 (by rw [hq_17]; exact (fu_end (pC_7 C e7_11)).1)
                        · refine lv_aload_n hx hb dL_isSound_447 rfl (lv_at hl 4 rfl) ?_
                          refine gs_fullness hlT (Nat.le_of_ble_eq_true rfl) CF L I_11 G_17 hRm hl.1 dL_isSound_448 ⟨by omega, by omega⟩ (fun r_19 H locs hq_19 G_19 => ?_)
                          refine lv_dconst1 hx hb dL_isSound_451 ?_
                          refine lv_dcmp hx hb dL_isSound_452 ?_
                          refine lv_if_gt (tgt := 460) hx hb dL_isSound_453 (by decide) (fun c_20 => ?_) (fun c_20 => ?_)
                          · exact absurd c_20 (by rw [hq_19]; exact (fu_end (pC_7 C e7_11)).2)
                          · refine lv_iconst (v := 1) hx hb dL_isSound_456 (by decide) ?_
                            refine lv_goto (tgt := 461) hx hb dL_isSound_457 (by decide) ?_
                            obtain ⟨hK, hN9, hXs, hZs, hA⟩ := L
                            obtain ⟨hS, ws, hw, hP, hD⟩ := G_19
                            refine k_wid (k := 2000) (n := 12100) (by omega) (by omega) (vx_ret ?_)
                            have hP9 : va_P (dC, dI) cls ws H := hP.by (fun k => k) (fun k q hk => by rw [List.getElem?_append_left (List.getElem?_eq_some_iff.mp hk).1]; exact hk)
                            have hD9 : va_D A ws := ⟨fun i j p q h1 h2 h3 => hD.1 i j p q (by rw [List.getElem?_append_left (List.getElem?_eq_some_iff.mp h1).1]; exact h1) (by rw [List.getElem?_append_left (List.getElem?_eq_some_iff.mp h2).1]; exact h2) h3, fun k q hk => hD.2 k q (by rw [List.getElem?_append_left (List.getElem?_eq_some_iff.mp hk).1]; exact hk)⟩
                            exact W.zret (v := 1) hx hb hr rfl (fun t9 ht9 hW9 => ⟨⟨_, ws, rfl, ⟨rfl, a_11, e7_11, ed_11, hw⟩, by rw [ht9]; exact hP9, va_K.moved hW9.alike hK, hD9⟩, hS.F ht9⟩) hS.2.2 dL_isSound_461
                  · exact absurd (by decide) c_13
                · exact absurd (Int32.not_lt.mp (gain_neg I_8 hq_11)) c_12
            · exact absurd (Int32.not_lt.mp (gain_neg I_5 hq_8)) c_9
        · exact absurd (Int32.not_lt.mp (gain_neg I_2 hq_5)) c_6
    · exact absurd (Int32.not_lt.mp (gain_neg I hq_2)) c_3
end SoundEnd
set_option maxHeartbeats 4000000 in
set_option maxRecDepth 100000 in
theorem c_L_isSound (l : Launch) (hlT : l.stackTraces = false) (dC : Nat → ClassId) (dI : Nat → Nat → Nat) (cI cV : ClassId) (P F G T za zb : Nat) (fa ia vd ra rb xa ya xb yb : Nat → Nat) (w : Nat → Nat → Int32) (NP NJ NV : Nat) (ck : Int32) (vv : Nat → Nat → Int32) (R : Nat → List Int32) (I : IV NP NJ NV w vv R) (ws : va_W) (hw : WOK cI cV P F G T za zb fa ia vd ra rb xa ya xb yb w NP NJ NV ck vv R ws) (sz : Nat) : vx_Met l yL_isSound (Cond.code yL_isSound cL_isSound 8 (some .boolean) :: TB) ({ frames := 9, cells := 2000, slots := 12100, locals := 250 } : Room) (PXw [.ref P] (dC, dI) ws (TY cI cV) sz) (va_Qi (fun (r : Int32) (u : va_W) => r = 1 ∧ ∃ vv' : Nat → Nat → Int32, (∀ n k, k ≠ 7 → vv' n k = vv n k) ∧ dgF NP NJ NV w ck vv' R (sS vv') = dgF NP NJ NV w ck vv R (sS vv) ∧ WOK cI cV P F G T za zb fa ia vd ra rb xa ya xb yb w NP NJ NV ck vv' R u) (QB (dC, dI) (fun (u : va_W) => u) (TY cI cV) (va_A ws sz)) (va_A ws sz)) (vx_X (fun _ : Unit => False) (fun _ _ _ => True) (va_A ws sz)) 2000 12100 (va_A ws sz) := by
  refine vx_ofW (cc := cL_isSound) (maxL := 8) (ret := (some .boolean)) (by decide) rfl ?_
  intro p e s m args below meth c s₁ B hml htb hv
  obtain ⟨rfl, hsz, hP, hK, hD0, hN, hXs, hZs⟩ := hv
  have hx := B.exec
  have hb := B.bytes
  have hr := B.returns
  have hts := atoms_spec (ws := (Cond.code yL_isSound cL_isSound 8 (some .boolean) :: TB)) B.pre
  have hown : s.vm.findClass RL = some m.cls := findClass_of_methodNamed B.named
  have hlocks := B.notSynchronized
  subst hsz
  have hD := hD0.self (sz := s.heap.size)
  generalize hAe : va_A ws s.heap.size = A at hD hZs ⊢
  have hA : ∀ q : Nat, s.heap.size ≤ q → A q := fun q h => by rw [← hAe]; exact Or.inr h
  have hS : va_S A s.heap s.heap [] := va_S.rf
  have CF : CallFix p m c cL_isSound 8 s ([.ref P] : List Value).toArray (Cond.code yL_isSound cL_isSound 8 (some .boolean) :: TB) RL := ⟨hx, hb, hml, hown, hts⟩
  have L : LF dC dI cI cV A s := ⟨hK, hN, hXs, hZs, hA⟩
  have hP0 := hP
  have hD0 := hD
  obtain ⟨⟨N, C⟩, -, -⟩ := id I
  have hRm : 9 ≤ (headSpec (Cond.code yL_isSound cL_isSound 8 (some .boolean) :: TB) ({ frames := 9, cells := 2000, slots := 12100, locals := 250 } : Room)).room.frames ∧ 250 ≤ (headSpec (Cond.code yL_isSound cL_isSound 8 (some .boolean) :: TB) ({ frames := 9, cells := 2000, slots := 12100, locals := 250 } : Room)).room.locals := ⟨Nat.le_of_ble_eq_true rfl, Nat.le_of_ble_eq_true rfl⟩
  have hRc : 2000 ≤ (headSpec (Cond.code yL_isSound cL_isSound 8 (some .boolean) :: TB) ({ frames := 9, cells := 2000, slots := 12100, locals := 250 } : Room)).room.cells ∧ 12100 ≤ (headSpec (Cond.code yL_isSound cL_isSound 8 (some .boolean) :: TB) ({ frames := 9, cells := 2000, slots := 12100, locals := 250 } : Room)).room.slots := ⟨Nat.le_of_ble_eq_true rfl, Nat.le_of_ble_eq_true rfl⟩
  have hl := lv_entry ([.ref P]) (n := 8) (Nat.le_of_ble_eq_true rfl)
  rw [lg_entry_eq]
  generalize (lg_sl ([.ref P]) ++ List.replicate (8 - (lg_sl ([.ref P])).length) Slot.unset).toArray = ls at hl ⊢
  have hl : lv_has ls 8 [(0, .ref P)] := hl
  generalize (headSpec (Cond.code yL_isSound cL_isSound 8 (some .boolean) :: TB) ({ frames := 9, cells := 2000, slots := 12100, locals := 250 } : Room)).room = R0 at hRm hRc ⊢
  show W p l e R0 s m ([.ref P] : List Value).toArray below meth c s.heap [] 0 0 (QS dC dI cI cV P F G T za zb fa ia vd ra rb xa ya xb yb A s ([.ref P] : List Value).toArray below w NP NJ NV ck vv R) (F0 m 0 ls [])
  refine lv_iconst (v := 0) hx hb dL_isSound_0 (by decide) ?_
  refine lv_istore_n (lv' := [(1, .int 0), (0, .ref P)]) hx hb dL_isSound_1 rfl hl (by decide) rfl (fun ls hl => ?_)
  refine lv_iconst (v := 0) hx hb dL_isSound_2 (by decide) ?_
  refine lv_istore_n (lv' := [(2, .int 0), (1, .int 0), (0, .ref P)]) hx hb dL_isSound_3 rfl hl (by decide) rfl (fun ls hl => ?_)
  refine lv_bipush (v := 9) hx hb dL_isSound_4 (by decide) ?_
  refine k_newI hx hb (hts _ (tb_in q_ac_int)) hK hP0 hD0 hS hA 0 rfl (n := 9) (N' := 9) (by decide) rfl (by decide) (by omega) (by omega) dL_isSound_6 (fun sn0 H hP1 hD1 hS => ?_)
  have GG : GS dC dI cI cV P F G T za zb fa ia vd ra rb xa ya xb yb A s [(sn0, .inl (cI, 9, .inl (fun _ => 0)))] w NP NJ NV ck vv R H [] := ⟨hS, ws, hw, hP1, hD1⟩
  have e0 : (fun _ : Nat => (0 : Int32)) = fun J9 => nI (sn N 0 0 J9) := rfl
  rw [e0] at GG
  refine lv_astore_n (lv' := [(3, .ref sn0), (2, .int 0), (1, .int 0), (0, .ref P)]) hx hb dL_isSound_8 rfl hl (by decide) rfl (fun ls hl => ?_)
  refine lv_iconst (v := 0) hx hb dL_isSound_9 (by decide) ?_
  refine lv_istore (lv' := [(4, .int 0), (3, .ref sn0), (2, .int 0), (1, .int 0), (0, .ref P)]) hx hb dL_isSound_10 hl (by decide) rfl (fun ls hl => ?_)
  have hl : lv_has ls 8 [(4, .int (nI 0)), (3, .ref sn0), (2, .int (nI (pl N 0))), (1, .int 0), (0, .ref P)] := lv_sub hl [0, 1, 2, 3, 4] rfl
  have hcb : 2000 ≤ R0.cells ∧ 12100 ≤ R0.slots := hRc
  have h3 := C.2.2.1.1
  have h9 := C.2.1.1
  refine so_12 hlT CF L I C hRm hcb NV 0 0 _ _ H _ ls (by omega) rfl (by omega) (by omega) GG hl (fun sm9 cn9 sl9 H locs ls hs h1 h2 g h => ?_)
  have hx9 := hx
  refine lv_iconst (v := 0) hx hb dL_isSound_319 (by decide) ?_
  refine lv_istore (lv' := [(4, .int (nI 0)), (3, .ref sn0), (2, .int (nI (pl N NV - sm (fun J => sn N NV 0 J) 0))), (1, .int sm9), (0, .ref P)]) hx hb dL_isSound_320 h (by decide) rfl (fun ls hl => ?_)
  refine so_322 hlT CF L I C hRm hcb NJ 0 cn9 sl9 H locs ls (by omega) (by omega) (by omega) g hl (fun a b H locs ls h3 h4 g h => ?_)
  rw [so_zero C] at h
  exact so_400 hlT CF L I C hRm hcb hr hlocks hs g h (by omega) (by omega)
