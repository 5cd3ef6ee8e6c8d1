section
variable {NP NJ NV : Nat} {w vv : Nat → Nat → Int32} {ck : Int32} {N : Nat → List Nat} {R : Nat → List Int32}
theorem nI_leK {a b : Nat} (ha : a < 1000) (hb : b < 1000) : nI a ≤ nI b ↔ a ≤ b := by
  rw [i_le (nI_toInt (n := a) (by omega)) (nI_toInt (n := b) (by omega))]; omega
theorem nI_le0 {a : Nat} (ha : a < 1000) : nI a ≤ 0 ↔ a = 0 := by
  have h := nI_leK (a := a) (b := 0) ha (by decide)
  have e : nI 0 = 0 := rfl
  rw [e] at h
  rw [h]; omega
theorem nI_e0 {a : Nat} (ha : a < 1000) : nI a = 0 ↔ a = 0 := by
  have z0 : (0 : Int32).toInt = (0 : Int) := rfl
  rw [i_eq (nI_toInt (n := a) (by omega)) z0]; omega
theorem so_carr (C : pC NP NJ NV w vv N R) {v k : Nat} (hv : v < NV) (hk : k < (N v).length) : carrF NV R (nI ((N v)[k] / 2)) = nI v := carr_at C hv (List.getElem_mem hk)
theorem so_lt (C : pC NP NJ NV w vv N R) {v k : Nat} (hv : v < NV) (hk : k < (N v).length) : (N v)[k] / 2 < NJ ∧ (N v)[k] / 2 < 9 := by
  have h := (C.2.2.2.1.2 v hv).1 _ (List.getElem_mem hk)
  have h9 := C.2.1.1
  omega
theorem ze_b01 {b : Bool} (h : b01 b = 0) : b = false := by cases b <;> simp_all [b01]
theorem nz_b01 {b : Bool} (h : ¬ b01 b = 0) : b = true := by cases b <;> simp_all [b01]
/-- what was seen of the stop's job, by whether it is fetched there -/
theorem so_seen0 (C : pC NP NJ NV w vv N R) {v k : Nat} (hv : v < NV) (hk : k < (N v).length) {r : Int32} (hr : r = b01 (isF (rAt (R v) (nI k)))) (h : ¬ r = 0) : nI (sn N v k ((N v)[k] / 2)) = 0 := by
  rw [hr, so_isF C hv hk] at h
  rw [sn_check C hv hk, if_pos (of_decide_eq_true (nz_b01 h))]
  rfl
theorem so_seen1 (C : pC NP NJ NV w vv N R) {v k : Nat} (hv : v < NV) (hk : k < (N v).length) {r : Int32} (hr : r = b01 (isF (rAt (R v) (nI k)))) (h : r = 0) : nI (sn N v k ((N v)[k] / 2)) = 1 := by
  rw [hr, so_isF C hv hk] at h
  rw [sn_check C hv hk, if_neg (of_decide_eq_false (ze_b01 h))]
  rfl
/-- whether the stop is set, by whether it is fetched there -/
theorem so_set (C : pC NP NJ NV w vv N R) {v k : Nat} (hv : v < NV) (hk : k < (N v).length) {r : Int32} (hr : r = b01 (isF (rAt (R v) (nI k)))) (h : ¬ r = 0) {q : Int32} (hq : q = b01 (boundF NV R vv (nI ((N v)[k] / 2)))) {y : Int32} (hy : y = vv v 6) : (y ≤ nI k → q = 0) ∧ (¬ y ≤ nI k → q = 1) := by
  rw [hr, so_isF C hv hk] at h
  rw [hq, bound_k C hv hk (of_decide_eq_true (nz_b01 h)), hy]
  refine ⟨fun c => ?_, fun c => ?_⟩
  · rw [decide_eq_false (Int32.not_lt.mpr c)]; rfl
  · rw [decide_eq_true (Int32.not_le.mp c)]; rfl
/-- what was seen of a job in the end, by who carries it -/
theorem so_end2 (C : pC NP NJ NV w vv N R) {j : Nat} (hj : j < NJ) {r : Int32} (hr : r = carrF NV R (nI j)) (h : 0 ≤ r) : nI (sn N NV 0 j) = 2 := by
  have h9 := C.2.1.1
  rw [sn_end C (by omega), if_neg (fun q => by rw [hr, q] at h; exact absurd h (by decide))]
  rfl
theorem so_open (C : pC NP NJ NV w vv N R) {j : Nat} (hj : j < NJ) {r : Int32} (hr : r = carrF NV R (nI j)) (h : ¬ 0 ≤ r) : carrF NV R (nI j) = -1 := by
  have h9 := C.2.1.1
  have h3 := C.2.2.1.1
  rcases C.carr (J := j) (by omega) with ⟨n, hn, hm, h1, -⟩ | ⟨h0, h1⟩
  · exact absurd (by rw [hr, h1]; exact Int32.not_lt.mp (nI_ge0 (by omega))) h
  · exact h1
theorem so_end0 (C : pC NP NJ NV w vv N R) {j : Nat} (hj : j < NJ) {r : Int32} (hr : r = carrF NV R (nI j)) (h : ¬ 0 ≤ r) : nI (sn N NV 0 j) = 0 := by
  have h9 := C.2.1.1
  rw [sn_end C (by omega), if_pos (so_open C hj hr h)]
  rfl
theorem fu_end (C : pC NP NJ NV w vv N R) : ¬ Op.cmpValue (FP.dcmp (fuD (fuFrom NP NJ NV w ck vv R 0 (0, 0))) FP.dconst0) .l < 0 ∧ ¬ 0 < Op.cmpValue (FP.dcmp (fuD (fuFrom NP NJ NV w ck vv R 0 (0, 0))) FP.dconst1) .g := by
  obtain ⟨h1, h2, h3⟩ := fu_good (ck := ck) C
  generalize fuFrom NP NJ NV w ck vv R 0 (0, 0) = q at h1 h2 h3 ⊢
  unfold fuD
  by_cases c : q.2 = 0
  · rw [if_pos c]
    exact ⟨by decide +kernel, by decide +kernel⟩
  · rw [if_neg c]
    have c2 : 0 < q.2.toInt := by
      have : ¬ q.2.toInt = 0 := fun h => c (Int32.toInt_inj.mp h)
      omega
    obtain ⟨-, a1, a2⟩ := full_d h1 h2 c2
    refine ⟨?_, ?_⟩
    · rcases a1 with a | a
      · have a9 : FP.dcmp (FP.ddiv (FP.i2d q.1) (FP.i2d q.2)) FP.dconst0 = some .gt := a
        rw [a9]; decide
      · have a9 : FP.dcmp (FP.ddiv (FP.i2d q.1) (FP.i2d q.2)) FP.dconst0 = some .eq := a
        rw [a9]; decide
    · rcases a2 with a | a
      · have a9 : FP.dcmp (FP.ddiv (FP.i2d q.1) (FP.i2d q.2)) FP.dconst1 = some .lt := a
        rw [a9]; decide
      · have a9 : FP.dcmp (FP.ddiv (FP.i2d q.1) (FP.i2d q.2)) FP.dconst1 = some .eq := a
        rw [a9]; decide
end
section Rows9
variable {p : Program} {l : Launch} {e : Env} {R0 : Room} {s : State} {m : MethodId} {args : Array Value} {below : List Frame} {meth : Method} {c : Code} {H : Heap} {locs : List Loc} {cells slots : Nat} {Q : State → Prop}
variable {cc : ByteArray} {nL : Nat} {c0 : Cond} {pc : Nat} {A : Nat → Prop}
variable {dC : Nat → ClassId} {dI : Nat → Nat → Nat} {cI cV : ClassId} {P F G T za zb : Nat} {fa ia vd ra rb xa ya xb yb : Nat → Nat}
variable {w : Nat → Nat → Int32} {NP NJ NV : Nat} {ck : Int32} {vv : Nat → Nat → Int32} {R : Nat → List Int32} {sn0 : Nat} {sf : Nat → Int32}
/-- a number of the row beside -/
theorem gs_ald {ls : Array Slot} {rest : List Value} (hx : p.tables.exec = Jvm.exec) (hb : c.code = cc) (L : LF dC dI cI cV A s) (GG : GS dC dI cI cV P F G T za zb fa ia vd ra rb xa ya xb yb A s [(sn0, .inl (cI, 9, .inl sf))] w NP NJ NV ck vv R H locs) {j : Nat} (hj : j < 9) (hdg : decode cc pc = .ok (.iaload, 1)) (kk : W p l e R0 s m args below meth c H locs cells slots Q (F0 m (pc + 1) ls (.int (sf j) :: rest))) : W p l e R0 s m args below meth c H locs cells slots Q (F0 m pc ls (.int (nI j) :: .ref sn0 :: rest)) := by
  obtain ⟨hK, hN, hXs, hZs, hA⟩ := L
  obtain ⟨hS, ws0, ⟨bg, rf, X, xf, Y, yf, Z, zf, t, fd, bo, co, hR, hX, hY, hZ, rfl⟩, hP, hD⟩ := GG
  refine va_iald (D := (dC, dI)) hx hb hK hP 39 0 rfl rfl (n := 9) (vp_in_nI hj (by omega)) hdg ?_
  rw [nI_clamp (n := j) (by omega)]
  exact kk
theorem gs_ast {ls : Array Slot} {rest : List Value} (hx : p.tables.exec = Jvm.exec) (hb : c.code = cc) (L : LF dC dI cI cV A s) (GG : GS dC dI cI cV P F G T za zb fa ia vd ra rb xa ya xb yb A s [(sn0, .inl (cI, 9, .inl sf))] w NP NJ NV ck vv R H locs) {j : Nat} (hj : j < 9) {y : Int32} (hdg : decode cc pc = .ok (.iastore, 1)) (kk : ∀ (H1 : Heap) (locs1 : List Loc), GS dC dI cI cV P F G T za zb fa ia vd ra rb xa ya xb yb A s [(sn0, .inl (cI, 9, .inl (upd sf j y)))] w NP NJ NV ck vv R H1 locs1 → W p l e R0 s m args below meth c H1 locs1 cells slots Q (F0 m (pc + 1) ls rest)) : W p l e R0 s m args below meth c H locs cells slots Q (F0 m pc ls (.int y :: .int (nI j) :: .ref sn0 :: rest)) := by
  obtain ⟨hK, hN, hXs, hZs, hA⟩ := L
  obtain ⟨hS, ws0, ⟨bg, rf, X, xf, Y, yf, Z, zf, t, fd, bo, co, hR, hX, hY, hZ, rfl⟩, hP, hD⟩ := GG
  refine va_iast (D := (dC, dI)) hx hb hK hP hD hS 39 0 rfl rfl (n := 9) (vp_in_nI hj (by omega)) hdg (fun H1 locs1 hP hD hS => ?_)
  rw [nI_clamp (n := j) (by omega)] at hP hD
  exact kk H1 locs1 ⟨hS, _, ⟨bg, rf, X, xf, Y, yf, Z, zf, t, fd, bo, co, hR, hX, hY, hZ, rfl⟩, hP, hD⟩
end Rows9
section Sound
variable {p : Program} {l : Launch} {e : Env} {R0 : Room} {s : State} {m : MethodId} {args : Array Value} {below : List Frame} {meth : Method} {c : Code} {cells slots : Nat} {Q : State → Prop}
variable {cc : ByteArray} {nL : Nat} {c0 : Cond} {pc : Nat} {A : Nat → Prop}
variable {dC : Nat → ClassId} {dI : Nat → Nat → Nat} {cI cV : ClassId} {P F G T za zb : Nat} {fa ia vd ra rb xa ya xb yb : Nat → Nat}
variable {w : Nat → Nat → Int32} {NP NJ NV : Nat} {ck : Int32} {vv : Nat → Nat → Int32} {R : Nat → List Int32} {N : Nat → List Nat}
set_option maxHeartbeats 4000000 in
set_option maxRecDepth 100000 in
theorem so_166 (hlT : l.stackTraces = false) (CF : CallFix p m c cL_isSound 8 s args (c0 :: TB) RL) (L : LF dC dI cI cV A s) (I : IV NP NJ NV w vv R) (C : pC NP NJ NV w vv N R) (hRm : 9 ≤ R0.frames ∧ 250 ≤ R0.locals) {cb sb : Nat} (hcb : cb ≤ R0.cells ∧ sb ≤ R0.slots) {v i J sn0 : Nat} {now pl0 sm0 : Int32} (hv : v < NV) (hi : i < (N v).length) (hJ : (N v)[i] / 2 = J) {H : Heap} {locs : List Loc} {ls : Array Slot} {cn sl : Nat} {sf : Nat → Int32} (GG : GS dC dI cI cV P F G T za zb fa ia vd ra rb xa ya xb yb A s [(sn0, .inl (cI, 9, .inl sf))] w NP NJ NV ck vv R H locs) (hl : lv_has ls 8 [(7, .int (nI J)), (6, .int (nI i)), (5, .int now), (4, .int (nI v)), (3, .ref sn0), (2, .int pl0), (1, .int sm0), (0, .ref P)]) (hc : cn + 6 ≤ cb ∧ sl + 36 ≤ sb) (kk : ∀ (cn9 sl9 : Nat) (H : Heap) (locs : List Loc) (ls : Array Slot), cn9 ≤ cn + 6 → sl9 ≤ sl + 36 → GS dC dI cI cV P F G T za zb fa ia vd ra rb xa ya xb yb A s [(sn0, .inl (cI, 9, .inl sf))] w NP NJ NV ck vv R H locs → lv_has ls 8 [(6, .int (nI (i + 1))), (5, .int (nowF NP NJ w ck (vv v) (R v) (i + 1))), (4, .int (nI v)), (3, .ref sn0), (2, .int pl0), (1, .int sm0), (0, .ref P)] → W p l e R0 s m args below meth c H locs cn9 sl9 Q (F0 m 36 ls [])) : W p l e R0 s m args below meth c H locs cn sl Q (F0 m 166 ls []) := by
  obtain ⟨hx, hb, hml, hown, hts⟩ := id CF
  have h39 := C.2.2.1.1
  have hl18 := C.len hv
  have hlR := so_len C hv
  have hkR : i < (R v).length := by omega
  obtain ⟨hj, hj9⟩ : J < NJ ∧ J < 9 := by rw [← hJ]; exact so_lt C hv hi
  refine lv_aload_n hx hb dL_isSound_166 rfl (lv_at hl 7 rfl) ?_
  refine lv_iload hx hb dL_isSound_167 (lv_at hl 0 rfl) ?_
  refine gs_isSet hlT hj (Nat.le_of_ble_eq_true rfl) CF L I GG hRm hl.1 dL_isSound_169 ⟨by omega, by omega⟩ (fun r_1 H locs hq_1 G_1 => ?_)
  refine lv_aload_n hx hb dL_isSound_172 rfl (lv_at hl 7 rfl) ?_
  refine lv_iload hx hb dL_isSound_173 (lv_at hl 3 rfl) ?_
  refine lv_iload hx hb dL_isSound_175 (lv_at hl 1 rfl) ?_
  refine gs_isFetched hlT hv hkR (Nat.le_of_ble_eq_true rfl) CF L I G_1 hRm hl.1 dL_isSound_177 ⟨by omega, by omega⟩ (fun r_2 H locs hq_2 G_2 => ?_)
  refine lv_if_eq (tgt := 202) hx hb dL_isSound_180 (by decide) (fun c_3 => ?_) (fun c_3 => ?_)
  · refine lv_aload_n hx hb dL_isSound_202 rfl (lv_at hl 7 rfl) ?_
    refine lv_iload hx hb dL_isSound_203 (lv_at hl 0 rfl) ?_
    refine gs_isSet hlT hj (Nat.le_of_ble_eq_true rfl) CF L I G_2 hRm hl.1 dL_isSound_205 ⟨by omega, by omega⟩ (fun r_4 H locs hq_4 G_4 => ?_)
    refine lv_icmp_eq (tgt := 213) hx hb dL_isSound_208 (by decide) (fun c_5 => ?_) (fun c_5 => ?_)
    · refine lv_aload_n hx hb dL_isSound_213 rfl (lv_at hl 7 rfl) ?_
      refine lv_iload hx hb dL_isSound_214 (lv_at hl 3 rfl) ?_
      refine lv_iload hx hb dL_isSound_216 (lv_at hl 1 rfl) ?_
      refine gs_begins hlT hv hkR (Nat.le_of_ble_eq_true rfl) CF L I G_4 hRm hl.1 dL_isSound_218 ⟨by omega, by omega⟩ (fun r_6 H locs hq_6 G_6 => ?_)
      rw [so_now1] at hq_6
      subst hq_6
      refine lv_istore (lv' := [(5, .int (nowF NP NJ w ck (vv v) (R v) (i + 1))), (7, .int (nI J)), (6, .int (nI i)), (4, .int (nI v)), (3, .ref sn0), (2, .int pl0), (1, .int sm0), (0, .ref P)]) hx hb dL_isSound_221 hl (by decide) rfl (fun ls hl => ?_)
      refine lv_iinc (v := nI (i + 1)) (lv' := [(6, .int (nI (i + 1))), (5, .int (nowF NP NJ w ck (vv v) (R v) (i + 1))), (7, .int (nI J)), (4, .int (nI v)), (3, .ref sn0), (2, .int pl0), (1, .int sm0), (0, .ref P)]) hx hb dL_isSound_223 hl (k := 2) rfl (nI_1 _) (by decide) rfl (fun ls hl => ?_)
      refine lv_goto (tgt := 36) hx hb dL_isSound_226 (by decide) ?_
      exact kk _ _ H locs ls (by omega) (by omega) G_6 (lv_sub hl [0, 1, 3, 4, 5, 6, 7] rfl)
    · exact absurd (hq_1.trans hq_4.symm) c_5
  · refine lv_iload hx hb dL_isSound_183 (lv_at hl 1 rfl) ?_
    refine lv_aload_n hx hb dL_isSound_185 rfl (lv_at hl 7 rfl) ?_
    refine lv_iload hx hb dL_isSound_186 (lv_at hl 3 rfl) ?_
    refine gs_setStops hlT hv (Nat.le_of_ble_eq_true rfl) CF L I G_2 hRm hl.1 dL_isSound_188 ⟨by omega, by omega⟩ (fun r_7 H locs hq_7 G_7 => ?_)
    refine lv_icmp_ge (tgt := 198) hx hb dL_isSound_191 (by decide) (fun c_8 => ?_) (fun c_8 => ?_)
    · refine lv_iconst (v := 0) hx hb dL_isSound_198 (by decide) ?_
      refine lv_goto (tgt := 208) hx hb dL_isSound_199 (by decide) ?_
      refine lv_icmp_eq (tgt := 213) hx hb dL_isSound_208 (by decide) (fun c_9 => ?_) (fun c_9 => ?_)
      · refine lv_aload_n hx hb dL_isSound_213 rfl (lv_at hl 7 rfl) ?_
        refine lv_iload hx hb dL_isSound_214 (lv_at hl 3 rfl) ?_
        refine lv_iload hx hb dL_isSound_216 (lv_at hl 1 rfl) ?_
        refine gs_begins hlT hv hkR (Nat.le_of_ble_eq_true rfl) CF L I G_7 hRm hl.1 dL_isSound_218 ⟨by omega, by omega⟩ (fun r_10 H locs hq_10 G_10 => ?_)
        rw [so_now1] at hq_10
        subst hq_10
        refine lv_istore (lv' := [(5, .int (nowF NP NJ w ck (vv v) (R v) (i + 1))), (7, .int (nI J)), (6, .int (nI i)), (4, .int (nI v)), (3, .ref sn0), (2, .int pl0), (1, .int sm0), (0, .ref P)]) hx hb dL_isSound_221 hl (by decide) rfl (fun ls hl => ?_)
        refine lv_iinc (v := nI (i + 1)) (lv' := [(6, .int (nI (i + 1))), (5, .int (nowF NP NJ w ck (vv v) (R v) (i + 1))), (7, .int (nI J)), (4, .int (nI v)), (3, .ref sn0), (2, .int pl0), (1, .int sm0), (0, .ref P)]) hx hb dL_isSound_223 hl (k := 2) rfl (nI_1 _) (by decide) rfl (fun ls hl => ?_)
        refine lv_goto (tgt := 36) hx hb dL_isSound_226 (by decide) ?_
        exact kk _ _ H locs ls (by omega) (by omega) G_10 (lv_sub hl [0, 1, 3, 4, 5, 6, 7] rfl)
      · exact absurd ((so_set C hv hi hq_2 c_3 (by rw [hq_1, hJ]) hq_7).1 c_8) c_9
    · refine lv_iconst (v := 1) hx hb dL_isSound_194 (by decide) ?_
      refine lv_goto (tgt := 208) hx hb dL_isSound_195 (by decide) ?_
      refine lv_icmp_eq (tgt := 213) hx hb dL_isSound_208 (by decide) (fun c_11 => ?_) (fun c_11 => ?_)
      · refine lv_aload_n hx hb dL_isSound_213 rfl (lv_at hl 7 rfl) ?_
        refine lv_iload hx hb dL_isSound_214 (lv_at hl 3 rfl) ?_
        refine lv_iload hx hb dL_isSound_216 (lv_at hl 1 rfl) ?_
        refine gs_begins hlT hv hkR (Nat.le_of_ble_eq_true rfl) CF L I G_7 hRm hl.1 dL_isSound_218 ⟨by omega, by omega⟩ (fun r_12 H locs hq_12 G_12 => ?_)
        rw [so_now1] at hq_12
        subst hq_12
        refine lv_istore (lv' := [(5, .int (nowF NP NJ w ck (vv v) (R v) (i + 1))), (7, .int (nI J)), (6, .int (nI i)), (4, .int (nI v)), (3, .ref sn0), (2, .int pl0), (1, .int sm0), (0, .ref P)]) hx hb dL_isSound_221 hl (by decide) rfl (fun ls hl => ?_)
        refine lv_iinc (v := nI (i + 1)) (lv' := [(6, .int (nI (i + 1))), (5, .int (nowF NP NJ w ck (vv v) (R v) (i + 1))), (7, .int (nI J)), (4, .int (nI v)), (3, .ref sn0), (2, .int pl0), (1, .int sm0), (0, .ref P)]) hx hb dL_isSound_223 hl (k := 2) rfl (nI_1 _) (by decide) rfl (fun ls hl => ?_)
        refine lv_goto (tgt := 36) hx hb dL_isSound_226 (by decide) ?_
        exact kk _ _ H locs ls (by omega) (by omega) G_12 (lv_sub hl [0, 1, 3, 4, 5, 6, 7] rfl)
      · exact absurd ((so_set C hv hi hq_2 c_3 (by rw [hq_1, hJ]) hq_7).2 c_8) c_11
set_option maxHeartbeats 4000000 in
set_option maxRecDepth 100000 in
theorem so_93 (hlT : l.stackTraces = false) (CF : CallFix p m c cL_isSound 8 s args (c0 :: TB) RL) (L : LF dC dI cI cV A s) (I : IV NP NJ NV w vv R) (C : pC NP NJ NV w vv N R) (hRm : 9 ≤ R0.frames ∧ 250 ≤ R0.locals) {cb sb : Nat} (hcb : cb ≤ R0.cells ∧ sb ≤ R0.slots) {v i J sn0 : Nat} {now pl0 sm0 : Int32} (hv : v < NV) (hi : i < (N v).length) (hJ : (N v)[i] / 2 = J) {H : Heap} {locs : List Loc} {ls : Array Slot} {cn sl : Nat} (hnow : now = nowF NP NJ w ck (vv v) (R v) i) (GG : GS dC dI cI cV P F G T za zb fa ia vd ra rb xa ya xb yb A s [(sn0, .inl (cI, 9, .inl (fun J9 => nI (sn N v i J9))))] w NP NJ NV ck vv R H locs) (hl : lv_has ls 8 [(7, .int (nI J)), (6, .int (nI i)), (5, .int now), (4, .int (nI v)), (3, .ref sn0), (2, .int pl0), (1, .int sm0), (0, .ref P)]) (hc : cn + 17 ≤ cb ∧ sl + 102 ≤ sb) (kk : ∀ (cn9 sl9 : Nat) (H : Heap) (locs : List Loc) (ls : Array Slot), cn9 ≤ cn + 17 → sl9 ≤ sl + 102 → GS dC dI cI cV P F G T za zb fa ia vd ra rb xa ya xb yb A s [(sn0, .inl (cI, 9, .inl (fun J9 => nI (sn N v (i + 1) J9))))] w NP NJ NV ck vv R H locs → lv_has ls 8 [(6, .int (nI (i + 1))), (5, .int (nowF NP NJ w ck (vv v) (R v) (i + 1))), (4, .int (nI v)), (3, .ref sn0), (2, .int pl0), (1, .int sm0), (0, .ref P)] → W p l e R0 s m args below meth c H locs cn9 sl9 Q (F0 m 36 ls [])) : W p l e R0 s m args below meth c H locs cn sl Q (F0 m 93 ls []) := by
  obtain ⟨hx, hb, hml, hown, hts⟩ := id CF
  have h39 := C.2.2.1.1
  have hl18 := C.len hv
  have hlR := so_len C hv
  have hkR : i < (R v).length := by omega
  obtain ⟨hj, hj9⟩ : J < NJ ∧ J < 9 := by rw [← hJ]; exact so_lt C hv hi
  refine lv_aload_n hx hb dL_isSound_93 rfl (lv_at hl 4 rfl) ?_
  refine lv_iload hx hb dL_isSound_94 (lv_at hl 0 rfl) ?_
  refine lv_dup2_11 hx hb dL_isSound_96 rfl rfl ?_
  refine gs_ald hx hb L GG (j := J) hj9 dL_isSound_97 ?_
  refine k_st1 (y := nI (sn N v i J)) rfl ?_
  refine lv_iconst (v := 1) hx hb dL_isSound_98 (by decide) ?_
  refine lv_iadd hx hb dL_isSound_99 ?_
  refine gs_ast hx hb L GG (j := J) hj9 dL_isSound_100 (fun H locs G_1 => ?_)
  have eU : upd (fun J9 => nI (sn N v i J9)) J (nI (sn N v i J) + 1) = fun J9 => nI (sn N v (i + 1) J9) := by rw [← hJ]; exact so_upd hi
  rw [eU] at G_1
  refine lv_aload_n hx hb dL_isSound_101 rfl (lv_at hl 7 rfl) ?_
  refine lv_iload hx hb dL_isSound_102 (lv_at hl 3 rfl) ?_
  refine lv_iload hx hb dL_isSound_104 (lv_at hl 1 rfl) ?_
  refine gs_arrives hlT hv hkR (Nat.le_of_ble_eq_true rfl) CF L I G_1 hRm hl.1 dL_isSound_106 ⟨by omega, by omega⟩ (fun r_2 H locs hq_2 G_2 => ?_)
  refine lv_iload hx hb dL_isSound_109 (lv_at hl 2 rfl) ?_
  refine lv_icmp_lt (tgt := 164) hx hb dL_isSound_111 (by decide) (fun c_3 => ?_) (fun c_3 => ?_)
  · exact absurd c_3 (by rw [hq_2, hnow]; exact so_now C hv hi)
  · refine lv_aload_n hx hb dL_isSound_114 rfl (lv_at hl 7 rfl) ?_
    refine lv_iload hx hb dL_isSound_115 (lv_at hl 3 rfl) ?_
    refine lv_iload hx hb dL_isSound_117 (lv_at hl 1 rfl) ?_
    refine gs_begins hlT hv hkR (Nat.le_of_ble_eq_true rfl) CF L I G_2 hRm hl.1 dL_isSound_119 ⟨by omega, by omega⟩ (fun r_4 H locs hq_4 G_4 => ?_)
    refine lv_aload_n hx hb dL_isSound_122 rfl (lv_at hl 7 rfl) ?_
    refine lv_iload hx hb dL_isSound_123 (lv_at hl 3 rfl) ?_
    refine lv_iload hx hb dL_isSound_125 (lv_at hl 1 rfl) ?_
    refine gs_arrives hlT hv hkR (Nat.le_of_ble_eq_true rfl) CF L I G_4 hRm hl.1 dL_isSound_127 ⟨by omega, by omega⟩ (fun r_5 H locs hq_5 G_5 => ?_)
    refine lv_icmp_lt (tgt := 164) hx hb dL_isSound_130 (by decide) (fun c_6 => ?_) (fun c_6 => ?_)
    · exact absurd c_6 (by rw [hq_4, hq_5]; exact beg_arr C hv hi)
    · refine lv_aload_n hx hb dL_isSound_133 rfl (lv_at hl 7 rfl) ?_
      refine lv_iload hx hb dL_isSound_134 (lv_at hl 3 rfl) ?_
      refine lv_iload hx hb dL_isSound_136 (lv_at hl 1 rfl) ?_
      refine gs_loadBehind hlT hv hkR (Nat.le_of_ble_eq_true rfl) CF L I G_5 hRm hl.1 dL_isSound_138 ⟨by omega, by omega⟩ (fun r_7 H locs hq_7 G_7 => ?_)
      refine lv_if_lt (tgt := 164) hx hb dL_isSound_141 (by decide) (fun c_8 => ?_) (fun c_8 => ?_)
      · exact absurd c_8 (by rw [hq_7]; exact load_ge C hv hi)
      · refine lv_aload_n hx hb dL_isSound_144 rfl (lv_at hl 7 rfl) ?_
        refine lv_iload hx hb dL_isSound_145 (lv_at hl 3 rfl) ?_
        refine gs_isRight hlT hv (Nat.le_of_ble_eq_true rfl) CF L I G_7 hRm hl.1 dL_isSound_147 ⟨by omega, by omega⟩ (fun r_9 H locs hq_9 G_9 => ?_)
        refine lv_if_eq (tgt := 166) hx hb dL_isSound_150 (by decide) (fun c_10 => ?_) (fun c_10 => ?_)
        · exact so_166 hlT CF L I C hRm hcb hv hi hJ G_9 (lv_sub hl [0, 1, 2, 3, 4, 5, 6, 7] rfl) (by omega) (fun cn9 sl9 H locs ls h1 h2 g h => kk cn9 sl9 H locs ls (by omega) (by omega) g h)
        · refine lv_aload_n hx hb dL_isSound_153 rfl (lv_at hl 7 rfl) ?_
          refine lv_iload hx hb dL_isSound_154 (lv_at hl 3 rfl) ?_
          refine lv_iload hx hb dL_isSound_156 (lv_at hl 1 rfl) ?_
          refine gs_slack hlT hv hkR (Nat.le_of_ble_eq_true rfl) CF L I G_9 hRm hl.1 dL_isSound_158 ⟨by omega, by omega⟩ (fun r_11 H locs hq_11 G_11 => ?_)
          refine lv_if_ge (tgt := 166) hx hb dL_isSound_161 (by decide) (fun c_12 => ?_) (fun c_12 => ?_)
          · exact so_166 hlT CF L I C hRm hcb hv hi hJ G_11 (lv_sub hl [0, 1, 2, 3, 4, 5, 6, 7] rfl) (by omega) (fun cn9 sl9 H locs ls h1 h2 g h => kk cn9 sl9 H locs ls (by omega) (by omega) g h)
          · exact absurd c_12 (fun q => q (Int32.not_lt.mp (by rw [hq_11]; exact slack_ge C hv hi (by rw [← hq_9]; exact c_10))))
set_option maxHeartbeats 4000000 in
set_option maxRecDepth 100000 in
theorem so_36 (hlT : l.stackTraces = false) (CF : CallFix p m c cL_isSound 8 s args (c0 :: TB) RL) (L : LF dC dI cI cV A s) (I : IV NP NJ NV w vv R) (C : pC NP NJ NV w vv N R) (hRm : 9 ≤ R0.frames ∧ 250 ≤ R0.locals) {cb sb : Nat} (hcb : cb ≤ R0.cells ∧ sb ≤ R0.slots) {v sn0 : Nat} {pl0 sm0 : Int32} (hv : v < NV) : ∀ (n i cn sl : Nat) (H : Heap) (locs : List Loc) (ls : Array Slot), i + n = (N v).length → cn + 24 * n + 1 ≤ cb → sl + 144 * n + 6 ≤ sb → GS dC dI cI cV P F G T za zb fa ia vd ra rb xa ya xb yb A s [(sn0, .inl (cI, 9, .inl (fun J9 => nI (sn N v i J9))))] w NP NJ NV ck vv R H locs → lv_has ls 8 [(6, .int (nI i)), (5, .int (nowF NP NJ w ck (vv v) (R v) i)), (4, .int (nI v)), (3, .ref sn0), (2, .int pl0), (1, .int sm0), (0, .ref P)] → (∀ (cn9 sl9 : Nat) (H : Heap) (locs : List Loc) (ls : Array Slot), cn9 ≤ cn + 24 * n + 1 → sl9 ≤ sl + 144 * n + 6 → GS dC dI cI cV P F G T za zb fa ia vd ra rb xa ya xb yb A s [(sn0, .inl (cI, 9, .inl (fun J9 => nI (sn N v (N v).length J9))))] w NP NJ NV ck vv R H locs → lv_has ls 8 [(5, .int (nowF NP NJ w ck (vv v) (R v) (N v).length)), (4, .int (nI v)), (3, .ref sn0), (2, .int pl0), (1, .int sm0), (0, .ref P)] → W p l e R0 s m args below meth c H locs cn9 sl9 Q (F0 m 229 ls [])) → W p l e R0 s m args below meth c H locs cn sl Q (F0 m 36 ls []) := by
  obtain ⟨hx, hb, hml, hown, hts⟩ := id CF
  have h39 := C.2.2.1.1
  have hl18 := C.len hv
  have hlR := so_len C hv
  intro n
  induction n with
  | zero =>
    intro i cn sl H locs ls e1 e2 e3 GG hl kk
    obtain rfl : i = (N v).length := by omega
    refine lv_iload hx hb dL_isSound_36 (lv_at hl 0 rfl) ?_
    refine lv_aload_n hx hb dL_isSound_38 rfl (lv_at hl 6 rfl) ?_
    refine lv_iload hx hb dL_isSound_39 (lv_at hl 2 rfl) ?_
    refine gs_stops hlT hv (Nat.le_of_ble_eq_true rfl) CF L I GG hRm hl.1 dL_isSound_41 ⟨by omega, by omega⟩ (fun r_1 H locs hq_1 G_1 => ?_)
    rw [so_len C hv] at hq_1
    subst hq_1
    refine lv_icmp_ge (tgt := 229) hx hb dL_isSound_44 (by decide) (fun c_2 => ?_) (fun c_2 => ?_)
    · exact kk _ _ H locs ls (by omega) (by omega) G_1 (lv_sub hl [1, 2, 3, 4, 5, 6] rfl)
    · exact absurd ((nI_leK (by omega) (by omega)).mpr (Nat.le_refl _)) c_2
  | succ n ih =>
    intro i cn sl H locs ls e1 e2 e3 GG hl kk
    have hi : i < (N v).length := by omega
    have hkR : i < (R v).length := by omega
    obtain ⟨J, hJ⟩ : ∃ J, (N v)[i] / 2 = J := ⟨_, rfl⟩
    obtain ⟨hj, hj9⟩ : J < NJ ∧ J < 9 := by rw [← hJ]; exact so_lt C hv hi
    refine lv_iload hx hb dL_isSound_36 (lv_at hl 0 rfl) ?_
    refine lv_aload_n hx hb dL_isSound_38 rfl (lv_at hl 6 rfl) ?_
    refine lv_iload hx hb dL_isSound_39 (lv_at hl 2 rfl) ?_
    refine gs_stops hlT hv (Nat.le_of_ble_eq_true rfl) CF L I GG hRm hl.1 dL_isSound_41 ⟨by omega, by omega⟩ (fun r_1 H locs hq_1 G_1 => ?_)
    rw [so_len C hv] at hq_1
    subst hq_1
    refine lv_icmp_ge (tgt := 229) hx hb dL_isSound_44 (by decide) (fun c_2 => ?_) (fun c_2 => ?_)
    · exact absurd ((nI_leK (by omega) (by omega)).mp c_2) (by omega)
    · refine lv_aload_n hx hb dL_isSound_47 rfl (lv_at hl 6 rfl) ?_
      refine lv_iload hx hb dL_isSound_48 (lv_at hl 2 rfl) ?_
      refine lv_iload hx hb dL_isSound_50 (lv_at hl 0 rfl) ?_
      refine gs_jobAt hlT hv hkR (Nat.le_of_ble_eq_true rfl) CF L I G_1 hRm hl.1 dL_isSound_52 ⟨by omega, by omega⟩ (fun r_3 H locs hq_3 G_3 => ?_)
      rw [so_jOf C hv hi, hJ] at hq_3
      subst hq_3
      refine lv_istore (lv' := [(7, .int (nI J)), (6, .int (nI i)), (5, .int (nowF NP NJ w ck (vv v) (R v) i)), (4, .int (nI v)), (3, .ref sn0), (2, .int pl0), (1, .int sm0), (0, .ref P)]) hx hb dL_isSound_55 hl (by decide) rfl (fun ls hl => ?_)
      refine lv_aload_n hx hb dL_isSound_57 rfl (lv_at hl 7 rfl) ?_
      refine lv_iload hx hb dL_isSound_58 (lv_at hl 0 rfl) ?_
      refine gs_vehicleOf hlT hj (Nat.le_of_ble_eq_true rfl) CF L I G_3 hRm hl.1 dL_isSound_60 ⟨by omega, by omega⟩ (fun r_4 H locs hq_4 G_4 => ?_)
      refine lv_iload hx hb dL_isSound_63 (lv_at hl 3 rfl) ?_
      refine lv_icmp_ne (tgt := 91) hx hb dL_isSound_65 (by decide) (fun c_5 => ?_) (fun c_5 => ?_)
      · exact absurd (by rw [hq_4, ← hJ]; exact so_carr C hv hi) c_5
      · refine lv_aload_n hx hb dL_isSound_68 rfl (lv_at hl 4 rfl) ?_
        refine lv_iload hx hb dL_isSound_69 (lv_at hl 0 rfl) ?_
        refine gs_ald hx hb L G_4 (j := J) hj9 dL_isSound_71 ?_
        refine k_st1 (y := nI (sn N v i J)) rfl ?_
        refine lv_aload_n hx hb dL_isSound_72 rfl (lv_at hl 7 rfl) ?_
        refine lv_iload hx hb dL_isSound_73 (lv_at hl 3 rfl) ?_
        refine lv_iload hx hb dL_isSound_75 (lv_at hl 1 rfl) ?_
        refine gs_isFetched hlT hv hkR (Nat.le_of_ble_eq_true rfl) CF L I G_4 hRm hl.1 dL_isSound_77 ⟨by omega, by omega⟩ (fun r_6 H locs hq_6 G_6 => ?_)
        refine lv_if_eq (tgt := 87) hx hb dL_isSound_80 (by decide) (fun c_7 => ?_) (fun c_7 => ?_)
        · refine lv_iconst (v := 1) hx hb dL_isSound_87 (by decide) ?_
          refine lv_icmp_eq (tgt := 93) hx hb dL_isSound_88 (by decide) (fun c_8 => ?_) (fun c_8 => ?_)
          · exact so_93 hlT CF L I C hRm hcb hv hi hJ rfl G_6 (lv_sub hl [0, 1, 2, 3, 4, 5, 6, 7] rfl) (by omega) (fun cn9 sl9 H locs ls h1 h2 g h => ih (i + 1) cn9 sl9 H locs ls (by omega) (by omega) (by omega) g h (fun a b H locs ls h3 h4 g h => kk a b H locs ls (by omega) (by omega) g h))
          · exact absurd (by rw [← hJ]; exact so_seen1 C hv hi hq_6 c_7) c_8
        · refine lv_iconst (v := 0) hx hb dL_isSound_83 (by decide) ?_
          refine lv_goto (tgt := 88) hx hb dL_isSound_84 (by decide) ?_
          refine lv_icmp_eq (tgt := 93) hx hb dL_isSound_88 (by decide) (fun c_9 => ?_) (fun c_9 => ?_)
          · exact so_93 hlT CF L I C hRm hcb hv hi hJ rfl G_6 (lv_sub hl [0, 1, 2, 3, 4, 5, 6, 7] rfl) (by omega) (fun cn9 sl9 H locs ls h1 h2 g h => ih (i + 1) cn9 sl9 H locs ls (by omega) (by omega) (by omega) g h (fun a b H locs ls h3 h4 g h => kk a b H locs ls (by omega) (by omega) g h))
          · exact absurd (by rw [← hJ]; exact so_seen0 C hv hi hq_6 c_7) c_9
set_option maxHeartbeats 4000000 in
set_option maxRecDepth 100000 in
theorem so_293 (hlT : l.stackTraces = false) (CF : CallFix p m c cL_isSound 8 s args (c0 :: TB) RL) (L : LF dC dI cI cV A s) (I : IV NP NJ NV w vv R) (C : pC NP NJ NV w vv N R) (hRm : 9 ≤ R0.frames ∧ 250 ≤ R0.locals) {cb sb : Nat} (hcb : cb ≤ R0.cells ∧ sb ≤ R0.slots) {v sn0 : Nat} {sm0 : Int32} (hv : v < NV) {H : Heap} {locs : List Loc} {ls : Array Slot} {cn sl : Nat} {sf : Nat → Int32} (GG : GS dC dI cI cV P F G T za zb fa ia vd ra rb xa ya xb yb A s [(sn0, .inl (cI, 9, .inl sf))] w NP NJ NV ck vv R H locs) (hl : lv_has ls 8 [(4, .int (nI v)), (3, .ref sn0), (2, .int (nI (pl N v))), (1, .int sm0), (0, .ref P)]) (hc : cn + 2 ≤ cb ∧ sl + 12 ≤ sb) (kk : ∀ (cn9 sl9 : Nat) (H : Heap) (locs : List Loc) (ls : Array Slot), cn9 ≤ cn + 2 → sl9 ≤ sl + 12 → GS dC dI cI cV P F G T za zb fa ia vd ra rb xa ya xb yb A s [(sn0, .inl (cI, 9, .inl sf))] w NP NJ NV ck vv R H locs → lv_has ls 8 [(4, .int (nI (v + 1))), (3, .ref sn0), (2, .int (nI (pl N (v + 1)))), (1, .int sm0), (0, .ref P)] → W p l e R0 s m args below meth c H locs cn9 sl9 Q (F0 m 12 ls [])) : W p l e R0 s m args below meth c H locs cn sl Q (F0 m 293 ls []) := by
  obtain ⟨hx, hb, hml, hown, hts⟩ := id CF
  have h39 := C.2.2.1.1
  have hl18 := C.len hv
  have hlR := so_len C hv
  refine lv_aload_n hx hb dL_isSound_293 rfl (lv_at hl 4 rfl) ?_
  refine lv_iload hx hb dL_isSound_294 (lv_at hl 0 rfl) ?_
  refine gs_waits hlT hv (Nat.le_of_ble_eq_true rfl) CF L I GG hRm hl.1 dL_isSound_296 ⟨by omega, by omega⟩ (fun r_1 H locs hq_1 G_1 => ?_)
  refine lv_if_ge (tgt := 304) hx hb dL_isSound_299 (by decide) (fun c_2 => ?_) (fun c_2 => ?_)
  · refine lv_iload_n hx hb dL_isSound_304 rfl (lv_at hl 2 rfl) ?_
    refine lv_aload_n hx hb dL_isSound_305 rfl (lv_at hl 4 rfl) ?_
    refine lv_iload hx hb dL_isSound_306 (lv_at hl 0 rfl) ?_
    refine gs_stops hlT hv (Nat.le_of_ble_eq_true rfl) CF L I G_1 hRm hl.1 dL_isSound_308 ⟨by omega, by omega⟩ (fun r_3 H locs hq_3 G_3 => ?_)
    rw [so_len C hv] at hq_3
    subst hq_3
    refine lv_iadd hx hb dL_isSound_311 ?_
    refine k_st1 (y := nI (pl N (v + 1))) (nI_add _ _) ?_
    refine lv_istore_n (lv' := [(2, .int (nI (pl N (v + 1)))), (4, .int (nI v)), (3, .ref sn0), (1, .int sm0), (0, .ref P)]) hx hb dL_isSound_312 rfl hl (by decide) rfl (fun ls hl => ?_)
    refine lv_iinc (v := nI (v + 1)) (lv' := [(4, .int (nI (v + 1))), (2, .int (nI (pl N (v + 1)))), (3, .ref sn0), (1, .int sm0), (0, .ref P)]) hx hb dL_isSound_313 hl (k := 1) rfl (nI_1 _) (by decide) rfl (fun ls hl => ?_)
    refine lv_goto (tgt := 12) hx hb dL_isSound_316 (by decide) ?_
    exact kk _ _ H locs ls (by omega) (by omega) G_3 (lv_sub hl [0, 2, 1, 3, 4] rfl)
  · exact absurd c_2 (fun q => q (Int32.not_lt.mp (by rw [hq_1]; exact waits_ge C hv)))
set_option maxHeartbeats 4000000 in
set_option maxRecDepth 100000 in
theorem so_266 (hlT : l.stackTraces = false) (CF : CallFix p m c cL_isSound 8 s args (c0 :: TB) RL) (L : LF dC dI cI cV A s) (I : IV NP NJ NV w vv R) (C : pC NP NJ NV w vv N R) (hRm : 9 ≤ R0.frames ∧ 250 ≤ R0.locals) {cb sb : Nat} (hcb : cb ≤ R0.cells ∧ sb ≤ R0.slots) {v sn0 : Nat} {sm0 : Int32} (hv : v < NV) {H : Heap} {locs : List Loc} {ls : Array Slot} {cn sl : Nat} {sf : Nat → Int32} (GG : GS dC dI cI cV P F G T za zb fa ia vd ra rb xa ya xb yb A s [(sn0, .inl (cI, 9, .inl sf))] w NP NJ NV ck vv R H locs) (hl : lv_has ls 8 [(4, .int (nI v)), (3, .ref sn0), (2, .int (nI (pl N v))), (1, .int sm0), (0, .ref P)]) (hc : cn + 5 ≤ cb ∧ sl + 30 ≤ sb) (kk : ∀ (cn9 sl9 : Nat) (H : Heap) (locs : List Loc) (ls : Array Slot), cn9 ≤ cn + 5 → sl9 ≤ sl + 30 → GS dC dI cI cV P F G T za zb fa ia vd ra rb xa ya xb yb A s [(sn0, .inl (cI, 9, .inl sf))] w NP NJ NV ck vv R H locs → lv_has ls 8 [(4, .int (nI (v + 1))), (3, .ref sn0), (2, .int (nI (pl N (v + 1)))), (1, .int sm0), (0, .ref P)] → W p l e R0 s m args below meth c H locs cn9 sl9 Q (F0 m 12 ls [])) : W p l e R0 s m args below meth c H locs cn sl Q (F0 m 266 ls []) := by
  obtain ⟨hx, hb, hml, hown, hts⟩ := id CF
  have h39 := C.2.2.1.1
  have hl18 := C.len hv
  have hlR := so_len C hv
  refine lv_aload_n hx hb dL_isSound_266 rfl (lv_at hl 4 rfl) ?_
  refine lv_iload hx hb dL_isSound_267 (lv_at hl 0 rfl) ?_
  refine gs_stops hlT hv (Nat.le_of_ble_eq_true rfl) CF L I GG hRm hl.1 dL_isSound_269 ⟨by omega, by omega⟩ (fun r_1 H locs hq_1 G_1 => ?_)
  rw [so_len C hv] at hq_1
  subst hq_1
  refine lv_if_ne (tgt := 293) hx hb dL_isSound_272 (by decide) (fun c_2 => ?_) (fun c_2 => ?_)
  · exact so_293 hlT CF L I C hRm hcb hv G_1 (lv_sub hl [0, 1, 2, 3, 4] rfl) (by omega) (fun cn9 sl9 H locs ls h1 h2 g h => kk cn9 sl9 H locs ls (by omega) (by omega) g h)
  · have hN0 : N v = [] := List.eq_nil_of_length_eq_zero ((nI_e0 (by omega)).mp c_2)
    obtain ⟨hE1, hE2⟩ := empty_ok (ck := ck) C hv hN0
    refine lv_aload_n hx hb dL_isSound_275 rfl (lv_at hl 4 rfl) ?_
    refine lv_iload hx hb dL_isSound_276 (lv_at hl 0 rfl) ?_
    refine gs_costOf hlT hv (Nat.le_of_ble_eq_true rfl) CF L I G_1 hRm hl.1 dL_isSound_278 ⟨by omega, by omega⟩ (fun r_3 H locs hq_3 G_3 => ?_)
    refine lv_if_ne (tgt := 302) hx hb dL_isSound_281 (by decide) (fun c_4 => ?_) (fun c_4 => ?_)
    · exact absurd (hq_3.trans hE1) c_4
    · refine lv_aload_n hx hb dL_isSound_284 rfl (lv_at hl 4 rfl) ?_
      refine lv_iload hx hb dL_isSound_285 (lv_at hl 0 rfl) ?_
      refine gs_isRight hlT hv (Nat.le_of_ble_eq_true rfl) CF L I G_3 hRm hl.1 dL_isSound_287 ⟨by omega, by omega⟩ (fun r_5 H locs hq_5 G_5 => ?_)
      refine lv_if_eq (tgt := 302) hx hb dL_isSound_290 (by decide) (fun c_6 => ?_) (fun c_6 => ?_)
      · exact absurd (hq_5.symm.trans c_6) hE2
      · exact so_293 hlT CF L I C hRm hcb hv G_5 (lv_sub hl [0, 1, 2, 3, 4] rfl) (by omega) (fun cn9 sl9 H locs ls h1 h2 g h => kk cn9 sl9 H locs ls (by omega) (by omega) g h)
set_option maxHeartbeats 4000000 in
set_option maxRecDepth 100000 in
theorem so_229 (hlT : l.stackTraces = false) (CF : CallFix p m c cL_isSound 8 s args (c0 :: TB) RL) (L : LF dC dI cI cV A s) (I : IV NP NJ NV w vv R) (C : pC NP NJ NV w vv N R) (hRm : 9 ≤ R0.frames ∧ 250 ≤ R0.locals) {cb sb : Nat} (hcb : cb ≤ R0.cells ∧ sb ≤ R0.slots) {v sn0 : Nat} {sm0 : Int32} (hv : v < NV) {H : Heap} {locs : List Loc} {ls : Array Slot} {cn sl : Nat} {sf : Nat → Int32} (GG : GS dC dI cI cV P F G T za zb fa ia vd ra rb xa ya xb yb A s [(sn0, .inl (cI, 9, .inl sf))] w NP NJ NV ck vv R H locs) (hl : lv_has ls 8 [(5, .int (nowF NP NJ w ck (vv v) (R v) (N v).length)), (4, .int (nI v)), (3, .ref sn0), (2, .int (nI (pl N v))), (1, .int sm0), (0, .ref P)]) (hc : cn + 10 ≤ cb ∧ sl + 60 ≤ sb) (kk : ∀ (cn9 sl9 : Nat) (H : Heap) (locs : List Loc) (ls : Array Slot), cn9 ≤ cn + 10 → sl9 ≤ sl + 60 → GS dC dI cI cV P F G T za zb fa ia vd ra rb xa ya xb yb A s [(sn0, .inl (cI, 9, .inl sf))] w NP NJ NV ck vv R H locs → lv_has ls 8 [(4, .int (nI (v + 1))), (3, .ref sn0), (2, .int (nI (pl N (v + 1)))), (1, .int sm0), (0, .ref P)] → W p l e R0 s m args below meth c H locs cn9 sl9 Q (F0 m 12 ls [])) : W p l e R0 s m args below meth c H locs cn sl Q (F0 m 229 ls []) := by
  obtain ⟨hx, hb, hml, hown, hts⟩ := id CF
  have h39 := C.2.2.1.1
  have hl18 := C.len hv
  have hlR := so_len C hv
  refine lv_aload_n hx hb dL_isSound_229 rfl (lv_at hl 5 rfl) ?_
  refine lv_iload hx hb dL_isSound_230 (lv_at hl 1 rfl) ?_
  refine gs_stops hlT hv (Nat.le_of_ble_eq_true rfl) CF L I GG hRm hl.1 dL_isSound_232 ⟨by omega, by omega⟩ (fun r_1 H locs hq_1 G_1 => ?_)
  rw [so_len C hv] at hq_1
  subst hq_1
  refine lv_if_le (tgt := 266) hx hb dL_isSound_235 (by decide) (fun c_2 => ?_) (fun c_2 => ?_)
  · exact so_266 hlT CF L I C hRm hcb hv G_1 (lv_sub hl [1, 2, 3, 4, 5] rfl) (by omega) (fun cn9 sl9 H locs ls h1 h2 g h => kk cn9 sl9 H locs ls (by omega) (by omega) g h)
  · have h0 : 0 < (N v).length := Nat.pos_of_ne_zero (fun q => c_2 ((nI_le0 (by omega)).mpr q))
    refine lv_aload_n hx hb dL_isSound_238 rfl (lv_at hl 5 rfl) ?_
    refine lv_iload hx hb dL_isSound_239 (lv_at hl 1 rfl) ?_
    refine lv_aload_n hx hb dL_isSound_241 rfl (lv_at hl 5 rfl) ?_
    refine lv_iload hx hb dL_isSound_242 (lv_at hl 1 rfl) ?_
    refine gs_stops hlT hv (Nat.le_of_ble_eq_true rfl) CF L I G_1 hRm hl.1 dL_isSound_244 ⟨by omega, by omega⟩ (fun r_3 H locs hq_3 G_3 => ?_)
    rw [so_len C hv] at hq_3
    subst hq_3
    refine lv_iconst (v := 1) hx hb dL_isSound_247 (by decide) ?_
    refine lv_isub hx hb dL_isSound_248 ?_
    refine k_st1 (y := nI ((N v).length - 1)) (nI_less (a := (N v).length) (b := 1) (by omega) (by omega)) ?_
    refine gs_loadBehind hlT hv (by omega) (Nat.le_of_ble_eq_true rfl) CF L I G_3 hRm hl.1 dL_isSound_249 ⟨by omega, by omega⟩ (fun r_4 H locs hq_4 G_4 => ?_)
    refine lv_if_ne (tgt := 302) hx hb dL_isSound_252 (by decide) (fun c_5 => ?_) (fun c_5 => ?_)
    · exact absurd (hq_4.trans (load_last C hv h0)) c_5
    · refine lv_aload_n hx hb dL_isSound_255 rfl (lv_at hl 5 rfl) ?_
      refine lv_iload hx hb dL_isSound_256 (lv_at hl 1 rfl) ?_
      refine gs_back hlT hv (Nat.le_of_ble_eq_true rfl) CF L I G_4 hRm hl.1 dL_isSound_258 ⟨by omega, by omega⟩ (fun r_6 H locs hq_6 G_6 => ?_)
      refine lv_iload hx hb dL_isSound_261 (lv_at hl 0 rfl) ?_
      refine lv_icmp_lt (tgt := 302) hx hb dL_isSound_263 (by decide) (fun c_7 => ?_) (fun c_7 => ?_)
      · exact absurd c_7 (by rw [hq_6]; exact so_back C hv h0)
      · exact so_266 hlT CF L I C hRm hcb hv G_6 (lv_sub hl [1, 2, 3, 4, 5] rfl) (by omega) (fun cn9 sl9 H locs ls h1 h2 g h => kk cn9 sl9 H locs ls (by omega) (by omega) g h)
set_option maxHeartbeats 4000000 in
set_option maxRecDepth 100000 in
theorem so_12 (hlT : l.stackTraces = false) (CF : CallFix p m c cL_isSound 8 s args (c0 :: TB) RL) (L : LF dC dI cI cV A s) (I : IV NP NJ NV w vv R) (C : pC NP NJ NV w vv N R) (hRm : 9 ≤ R0.frames ∧ 250 ≤ R0.locals) {cb sb : Nat} (hcb : cb ≤ R0.cells ∧ sb ≤ R0.slots) {sn0 : Nat} : ∀ (n v : Nat) (sm0 : Int32) (cn sl : Nat) (H : Heap) (locs : List Loc) (ls : Array Slot), v + n = NV → sm0.toInt = csI w vv v N → cn + 450 * n ≤ cb → sl + 2700 * n ≤ sb → GS dC dI cI cV P F G T za zb fa ia vd ra rb xa ya xb yb A s [(sn0, .inl (cI, 9, .inl (fun J9 => nI (sn N v 0 J9))))] w NP NJ NV ck vv R H locs → lv_has ls 8 [(4, .int (nI v)), (3, .ref sn0), (2, .int (nI (pl N v))), (1, .int sm0), (0, .ref P)] → (∀ (sm9 : Int32) (cn9 sl9 : Nat) (H : Heap) (locs : List Loc) (ls : Array Slot), sm9.toInt = csI w vv NV N → cn9 ≤ cn + 450 * n → sl9 ≤ sl + 2700 * n → GS dC dI cI cV P F G T za zb fa ia vd ra rb xa ya xb yb A s [(sn0, .inl (cI, 9, .inl (fun J9 => nI (sn N NV 0 J9))))] w NP NJ NV ck vv R H locs → lv_has ls 8 [(3, .ref sn0), (2, .int (nI (pl N NV))), (1, .int sm9), (0, .ref P)] → W p l e R0 s m args below meth c H locs cn9 sl9 Q (F0 m 319 ls [])) → W p l e R0 s m args below meth c H locs cn sl Q (F0 m 12 ls []) := by
  obtain ⟨hx, hb, hml, hown, hts⟩ := id CF
  have h39 := C.2.2.1.1
  intro n
  induction n with
  | zero =>
    intro v sm0 cn sl H locs ls e1 hs e2 e3 GG hl kk
    obtain rfl : v = NV := by omega
    refine lv_iload hx hb dL_isSound_12 (lv_at hl 0 rfl) ?_
    refine lv_aload_n hx hb dL_isSound_14 rfl (lv_at hl 4 rfl) ?_
    refine gs_vehicles hlT (Nat.le_of_ble_eq_true rfl) CF L I GG hRm hl.1 dL_isSound_15 ⟨by omega, by omega⟩ (fun r_1 H locs hq_1 G_1 => ?_)
    subst hq_1
    refine lv_icmp_ge (tgt := 319) hx hb dL_isSound_18 (by decide) (fun c_2 => ?_) (fun c_2 => ?_)
    · exact kk sm0 _ _ H locs ls hs (by omega) (by omega) G_1 (lv_sub hl [1, 2, 3, 4] rfl)
    · exact absurd ((nI_leK (by omega) (by omega)).mpr (Nat.le_refl _)) c_2
  | succ n ih =>
    intro v sm0 cn sl H locs ls e1 hs e2 e3 GG hl kk
    have hv : v < NV := by omega
    have hl18 := C.len hv
    have hlR := so_len C hv
    refine lv_iload hx hb dL_isSound_12 (lv_at hl 0 rfl) ?_
    refine lv_aload_n hx hb dL_isSound_14 rfl (lv_at hl 4 rfl) ?_
    refine gs_vehicles hlT (Nat.le_of_ble_eq_true rfl) CF L I GG hRm hl.1 dL_isSound_15 ⟨by omega, by omega⟩ (fun r_1 H locs hq_1 G_1 => ?_)
    subst hq_1
    refine lv_icmp_ge (tgt := 319) hx hb dL_isSound_18 (by decide) (fun c_2 => ?_) (fun c_2 => ?_)
    · exact absurd ((nI_leK (by omega) (by omega)).mp c_2) (by omega)
    · refine lv_iload_n hx hb dL_isSound_21 rfl (lv_at hl 3 rfl) ?_
      refine lv_aload_n hx hb dL_isSound_22 rfl (lv_at hl 4 rfl) ?_
      refine lv_iload hx hb dL_isSound_23 (lv_at hl 0 rfl) ?_
      refine gs_costOf hlT hv (Nat.le_of_ble_eq_true rfl) CF L I G_1 hRm hl.1 dL_isSound_25 ⟨by omega, by omega⟩ (fun r_3 H locs hq_3 G_3 => ?_)
      refine lv_iadd hx hb dL_isSound_28 ?_
      refine lv_istore_n (lv' := [(1, .int (sm0 + r_3)), (4, .int (nI v)), (3, .ref sn0), (2, .int (nI (pl N v))), (0, .ref P)]) hx hb dL_isSound_29 rfl hl (by decide) rfl (fun ls hl => ?_)
      refine lv_iconst (v := (-1)) hx hb dL_isSound_30 (by decide) ?_
      refine lv_istore (lv' := [(5, .int ((-1))), (1, .int (sm0 + r_3)), (4, .int (nI v)), (3, .ref sn0), (2, .int (nI (pl N v))), (0, .ref P)]) hx hb dL_isSound_31 hl (by decide) rfl (fun ls hl => ?_)
      refine lv_iconst (v := 0) hx hb dL_isSound_33 (by decide) ?_
      refine lv_istore (lv' := [(6, .int 0), (5, .int ((-1))), (1, .int (sm0 + r_3)), (4, .int (nI v)), (3, .ref sn0), (2, .int (nI (pl N v))), (0, .ref P)]) hx hb dL_isSound_34 hl (by decide) rfl (fun ls hl => ?_)
      have hs1 : (sm0 + r_3).toInt = csI w vv (v + 1) N := by rw [hq_3]; exact sum_step C hv hs
      have hl : lv_has ls 8 [(6, .int (nI 0)), (5, .int (nowF NP NJ w ck (vv v) (R v) 0)), (4, .int (nI v)), (3, .ref sn0), (2, .int (nI (pl N v))), (1, .int (sm0 + r_3)), (0, .ref P)] := lv_sub hl [0, 1, 3, 4, 5, 2, 6] rfl
      refine so_36 hlT CF L I C hRm hcb hv (N v).length 0 _ _ H locs ls (by omega) (by omega) (by omega) G_3 hl (fun a b H locs ls h1 h2 g h => ?_)
      refine so_229 hlT CF L I C hRm hcb hv g h (by omega) (fun a9 b9 H locs ls h3 h4 g h => ?_)
      have eS : (fun J9 => nI (sn N v (N v).length J9)) = fun J9 => nI (sn N (v + 1) 0 J9) := by funext J9; rw [sn_next]
      rw [eS] at g
      exact ih (v + 1) _ a9 b9 H locs ls (by omega) hs1 (by omega) (by omega) g h (fun sm9 c9 d9 H locs ls q h5 h6 g h => kk sm9 c9 d9 H locs ls q (by omega) (by omega) g h)
set_option maxHeartbeats 4000000 in
set_option maxRecDepth 100000 in
theorem so_322 (hlT : l.stackTraces = false) (CF : CallFix p m c cL_isSound 8 s args (c0 :: TB) RL) (L : LF dC dI cI cV A s) (I : IV NP NJ NV w vv R) (C : pC NP NJ NV w vv N R) (hRm : 9 ≤ R0.frames ∧ 250 ≤ R0.locals) {cb sb : Nat} (hcb : cb ≤ R0.cells ∧ sb ≤ R0.slots) {sn0 : Nat} {sm0 : Int32} : ∀ (n j : Nat) (cn sl : Nat) (H : Heap) (locs : List Loc) (ls : Array Slot), j + n = NJ → cn + 4 * n ≤ cb → sl + 24 * n ≤ sb → GS dC dI cI cV P F G T za zb fa ia vd ra rb xa ya xb yb A s [(sn0, .inl (cI, 9, .inl (fun J9 => nI (sn N NV 0 J9))))] w NP NJ NV ck vv R H locs → lv_has ls 8 [(4, .int (nI j)), (3, .ref sn0), (2, .int (nI (pl N NV - sm (fun J => sn N NV 0 J) j))), (1, .int sm0), (0, .ref P)] → (∀ (cn9 sl9 : Nat) (H : Heap) (locs : List Loc) (ls : Array Slot), cn9 ≤ cn + 4 * n → sl9 ≤ sl + 24 * n → GS dC dI cI cV P F G T za zb fa ia vd ra rb xa ya xb yb A s [(sn0, .inl (cI, 9, .inl (fun J9 => nI (sn N NV 0 J9))))] w NP NJ NV ck vv R H locs → lv_has ls 8 [(3, .ref sn0), (2, .int (nI (pl N NV - sm (fun J => sn N NV 0 J) NJ))), (1, .int sm0), (0, .ref P)] → W p l e R0 s m args below meth c H locs cn9 sl9 Q (F0 m 400 ls [])) → W p l e R0 s m args below meth c H locs cn sl Q (F0 m 322 ls []) := by
  obtain ⟨hx, hb, hml, hown, hts⟩ := id CF
  have h39 := C.2.1.1
  intro n
  induction n with
  | zero =>
    intro j cn sl H locs ls e1 e2 e3 GG hl kk
    obtain rfl : j = NJ := by omega
    refine lv_iload hx hb dL_isSound_322 (lv_at hl 0 rfl) ?_
    refine lv_aload_n hx hb dL_isSound_324 rfl (lv_at hl 4 rfl) ?_
    refine gs_jobs hlT (Nat.le_of_ble_eq_true rfl) CF L I GG hRm hl.1 dL_isSound_325 ⟨by omega, by omega⟩ (fun r_1 H locs hq_1 G_1 => ?_)
    subst hq_1
    refine lv_icmp_ge (tgt := 400) hx hb dL_isSound_328 (by decide) (fun c_2 => ?_) (fun c_2 => ?_)
    · exact kk _ _ H locs ls (by omega) (by omega) G_1 (lv_sub hl [1, 2, 3, 4] rfl)
    · exact absurd ((nI_leK (by omega) (by omega)).mpr (Nat.le_refl _)) c_2
  | succ n ih =>
    intro j cn sl H locs ls e1 e2 e3 GG hl kk
    have hj : j < NJ := by omega
    refine lv_iload hx hb dL_isSound_322 (lv_at hl 0 rfl) ?_
    refine lv_aload_n hx hb dL_isSound_324 rfl (lv_at hl 4 rfl) ?_
    refine gs_jobs hlT (Nat.le_of_ble_eq_true rfl) CF L I GG hRm hl.1 dL_isSound_325 ⟨by omega, by omega⟩ (fun r_1 H locs hq_1 G_1 => ?_)
    subst hq_1
    refine lv_icmp_ge (tgt := 400) hx hb dL_isSound_328 (by decide) (fun c_2 => ?_) (fun c_2 => ?_)
    · exact absurd ((nI_leK (by omega) (by omega)).mp c_2) (by omega)
    · refine lv_aload_n hx hb dL_isSound_331 rfl (lv_at hl 1 rfl) ?_
      refine lv_iload hx hb dL_isSound_332 (lv_at hl 0 rfl) ?_
      refine gs_ald hx hb L G_1 (j := j) (by omega) dL_isSound_334 ?_
      refine k_st1 (y := nI (sn N NV 0 j)) rfl ?_
      refine lv_aload_n hx hb dL_isSound_335 rfl (lv_at hl 4 rfl) ?_
      refine lv_iload hx hb dL_isSound_336 (lv_at hl 0 rfl) ?_
      refine gs_vehicleOf hlT hj (Nat.le_of_ble_eq_true rfl) CF L I G_1 hRm hl.1 dL_isSound_338 ⟨by omega, by omega⟩ (fun r_3 H locs hq_3 G_3 => ?_)
      refine lv_if_ge (tgt := 348) hx hb dL_isSound_341 (by decide) (fun c_4 => ?_) (fun c_4 => ?_)
      · refine lv_iconst (v := 2) hx hb dL_isSound_348 (by decide) ?_
        refine lv_icmp_eq (tgt := 354) hx hb dL_isSound_349 (by decide) (fun c_5 => ?_) (fun c_5 => ?_)
        · refine lv_iload_n hx hb dL_isSound_354 rfl (lv_at hl 2 rfl) ?_
          refine lv_aload_n hx hb dL_isSound_355 rfl (lv_at hl 1 rfl) ?_
          refine lv_iload hx hb dL_isSound_356 (lv_at hl 0 rfl) ?_
          refine gs_ald hx hb L G_3 (j := j) (by omega) dL_isSound_358 ?_
          refine k_st1 (y := nI (sn N NV 0 j)) rfl ?_
          refine lv_isub hx hb dL_isSound_359 ?_
          refine k_st1 (y := nI (pl N NV - sm (fun J => sn N NV 0 J) (j + 1))) (so_minus C hj) ?_
          refine lv_istore_n (lv' := [(2, .int (nI (pl N NV - sm (fun J => sn N NV 0 J) (j + 1)))), (4, .int (nI j)), (3, .ref sn0), (1, .int sm0), (0, .ref P)]) hx hb dL_isSound_360 rfl hl (by decide) rfl (fun ls hl => ?_)
          refine lv_aload_n hx hb dL_isSound_361 rfl (lv_at hl 4 rfl) ?_
          refine lv_iload hx hb dL_isSound_362 (lv_at hl 1 rfl) ?_
          refine gs_costWithout hlT hj (Nat.le_of_ble_eq_true rfl) CF L I G_3 hRm hl.1 dL_isSound_364 ⟨by omega, by omega⟩ (fun r_6 H locs hq_6 G_6 => ?_)
          refine lv_aload_n hx hb dL_isSound_367 rfl (lv_at hl 4 rfl) ?_
          refine gs_cost hlT (Nat.le_of_ble_eq_true rfl) CF L I G_6 hRm hl.1 dL_isSound_368 ⟨by omega, by omega⟩ (fun r_7 H locs hq_7 G_7 => ?_)
          refine lv_icmp_gt (tgt := 392) hx hb dL_isSound_371 (by decide) (fun c_8 => ?_) (fun c_8 => ?_)
          · exact absurd c_8 (by rw [hq_7, hq_6]; exact costWithout_le C hj)
          · refine lv_aload_n hx hb dL_isSound_374 rfl (lv_at hl 4 rfl) ?_
            refine lv_iload hx hb dL_isSound_375 (lv_at hl 1 rfl) ?_
            refine gs_vehicleOf hlT hj (Nat.le_of_ble_eq_true rfl) CF L I G_7 hRm hl.1 dL_isSound_377 ⟨by omega, by omega⟩ (fun r_9 H locs hq_9 G_9 => ?_)
            refine lv_if_ge (tgt := 394) hx hb dL_isSound_380 (by decide) (fun c_10 => ?_) (fun c_10 => ?_)
            · refine lv_iinc (v := nI (j + 1)) (lv' := [(4, .int (nI (j + 1))), (2, .int (nI (pl N NV - sm (fun J => sn N NV 0 J) (j + 1)))), (3, .ref sn0), (1, .int sm0), (0, .ref P)]) hx hb dL_isSound_394 hl (k := 1) rfl (nI_1 _) (by decide) rfl (fun ls hl => ?_)
              refine lv_goto (tgt := 322) hx hb dL_isSound_397 (by decide) ?_
              exact ih (j + 1) _ _ H locs ls (by omega) (by omega) (by omega) G_9 (lv_sub hl [0, 2, 1, 3, 4] rfl) (fun a b H locs ls h1 h2 g h => kk a b H locs ls (by omega) (by omega) g h)
            · refine lv_aload_n hx hb dL_isSound_383 rfl (lv_at hl 4 rfl) ?_
              refine lv_iload hx hb dL_isSound_384 (lv_at hl 1 rfl) ?_
              refine gs_isSet hlT hj (Nat.le_of_ble_eq_true rfl) CF L I G_9 hRm hl.1 dL_isSound_386 ⟨by omega, by omega⟩ (fun r_11 H locs hq_11 G_11 => ?_)
              refine lv_if_eq (tgt := 394) hx hb dL_isSound_389 (by decide) (fun c_12 => ?_) (fun c_12 => ?_)
              · refine lv_iinc (v := nI (j + 1)) (lv' := [(4, .int (nI (j + 1))), (2, .int (nI (pl N NV - sm (fun J => sn N NV 0 J) (j + 1)))), (3, .ref sn0), (1, .int sm0), (0, .ref P)]) hx hb dL_isSound_394 hl (k := 1) rfl (nI_1 _) (by decide) rfl (fun ls hl => ?_)
                refine lv_goto (tgt := 322) hx hb dL_isSound_397 (by decide) ?_
                exact ih (j + 1) _ _ H locs ls (by omega) (by omega) (by omega) G_11 (lv_sub hl [0, 2, 1, 3, 4] rfl) (fun a b H locs ls h1 h2 g h => kk a b H locs ls (by omega) (by omega) g h)
              · exact absurd (by rw [hq_11, bound_open C (by omega) (so_open C hj hq_9 c_10)]; rfl) c_12
        · exact absurd (so_end2 C hj hq_3 c_4) c_5
      · refine lv_iconst (v := 0) hx hb dL_isSound_344 (by decide) ?_
        refine lv_goto (tgt := 349) hx hb dL_isSound_345 (by decide) ?_
        refine lv_icmp_eq (tgt := 354) hx hb dL_isSound_349 (by decide) (fun c_13 => ?_) (fun c_13 => ?_)
        · refine lv_iload_n hx hb dL_isSound_354 rfl (lv_at hl 2 rfl) ?_
          refine lv_aload_n hx hb dL_isSound_355 rfl (lv_at hl 1 rfl) ?_
          refine lv_iload hx hb dL_isSound_356 (lv_at hl 0 rfl) ?_
          refine gs_ald hx hb L G_3 (j := j) (by omega) dL_isSound_358 ?_
          refine k_st1 (y := nI (sn N NV 0 j)) rfl ?_
          refine lv_isub hx hb dL_isSound_359 ?_
          refine k_st1 (y := nI (pl N NV - sm (fun J => sn N NV 0 J) (j + 1))) (so_minus C hj) ?_
          refine lv_istore_n (lv' := [(2, .int (nI (pl N NV - sm (fun J => sn N NV 0 J) (j + 1)))), (4, .int (nI j)), (3, .ref sn0), (1, .int sm0), (0, .ref P)]) hx hb dL_isSound_360 rfl hl (by decide) rfl (fun ls hl => ?_)
          refine lv_aload_n hx hb dL_isSound_361 rfl (lv_at hl 4 rfl) ?_
          refine lv_iload hx hb dL_isSound_362 (lv_at hl 1 rfl) ?_
          refine gs_costWithout hlT hj (Nat.le_of_ble_eq_true rfl) CF L I G_3 hRm hl.1 dL_isSound_364 ⟨by omega, by omega⟩ (fun r_14 H locs hq_14 G_14 => ?_)
          refine lv_aload_n hx hb dL_isSound_367 rfl (lv_at hl 4 rfl) ?_
          refine gs_cost hlT (Nat.le_of_ble_eq_true rfl) CF L I G_14 hRm hl.1 dL_isSound_368 ⟨by omega, by omega⟩ (fun r_15 H locs hq_15 G_15 => ?_)
          refine lv_icmp_gt (tgt := 392) hx hb dL_isSound_371 (by decide) (fun c_16 => ?_) (fun c_16 => ?_)
          · exact absurd c_16 (by rw [hq_15, hq_14]; exact costWithout_le C hj)
          · refine lv_aload_n hx hb dL_isSound_374 rfl (lv_at hl 4 rfl) ?_
            refine lv_iload hx hb dL_isSound_375 (lv_at hl 1 rfl) ?_
            refine gs_vehicleOf hlT hj (Nat.le_of_ble_eq_true rfl) CF L I G_15 hRm hl.1 dL_isSound_377 ⟨by omega, by omega⟩ (fun r_17 H locs hq_17 G_17 => ?_)
            refine lv_if_ge (tgt := 394) hx hb dL_isSound_380 (by decide) (fun c_18 => ?_) (fun c_18 => ?_)
            · refine lv_iinc (v := nI (j + 1)) (lv' := [(4, .int (nI (j + 1))), (2, .int (nI (pl N NV - sm (fun J => sn N NV 0 J) (j + 1)))), (3, .ref sn0), (1, .int sm0), (0, .ref P)]) hx hb dL_isSound_394 hl (k := 1) rfl (nI_1 _) (by decide) rfl (fun ls hl => ?_)
              refine lv_goto (tgt := 322) hx hb dL_isSound_397 (by decide) ?_
              exact ih (j + 1) _ _ H locs ls (by omega) (by omega) (by omega) G_17 (lv_sub hl [0, 2, 1, 3, 4] rfl) (fun a b H locs ls h1 h2 g h => kk a b H locs ls (by omega) (by omega) g h)
            · refine lv_aload_n hx hb dL_isSound_383 rfl (lv_at hl 4 rfl) ?_
              refine lv_iload hx hb dL_isSound_384 (lv_at hl 1 rfl) ?_
              refine gs_isSet hlT hj (Nat.le_of_ble_eq_true rfl) CF L I G_17 hRm hl.1 dL_isSound_386 ⟨by omega, by omega⟩ (fun r_19 H locs hq_19 G_19 => ?_)
              refine lv_if_eq (tgt := 394) hx hb dL_isSound_389 (by decide) (fun c_20 => ?_) (fun c_20 => ?_)
              · refine lv_iinc (v := nI (j + 1)) (lv' := [(4, .int (nI (j + 1))), (2, .int (nI (pl N NV - sm (fun J => sn N NV 0 J) (j + 1)))), (3, .ref sn0), (1, .int sm0), (0, .ref P)]) hx hb dL_isSound_394 hl (k := 1) rfl (nI_1 _) (by decide) rfl (fun ls hl => ?_)
                refine lv_goto (tgt := 322) hx hb dL_isSound_397 (by decide) ?_
                exact ih (j + 1) _ _ H locs ls (by omega) (by omega) (by omega) G_19 (lv_sub hl [0, 2, 1, 3, 4] rfl) (fun a b H locs ls h1 h2 g h => kk a b H locs ls (by omega) (by omega) g h)
              · exact absurd (by rw [hq_19, bound_open C (by omega) (so_open C hj hq_17 c_18)]; rfl) c_20
        · exact absurd (so_end0 C hj hq_3 c_4) c_13
end Sound
