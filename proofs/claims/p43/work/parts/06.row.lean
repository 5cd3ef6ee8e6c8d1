set_option maxHeartbeats 4000000 in
set_option maxRecDepth 100000 in
theorem c_X5_fetchOf (l : Launch) (x : Int32) : Met l yX5_fetchOf (Cond.code yX5_fetchOf cX5_fetchOf 1 (some .int) :: TB) ({ frames := 0, cells := 0, slots := 0, locals := 0 } : Room) (va_Pc [.int x] (fun _ => True)) (vp_Si (fun r => r = fOf x)) 0 0 (fun _ => False) := by
  refine Met.ofW (cc := cX5_fetchOf) (maxL := 1) (ret := (some .int)) (by decide) rfl ?_
  intro p e s m args below meth c s₁ B hml hv
  obtain ⟨rfl, -⟩ := hv
  have hx := B.exec
  have hb := B.bytes
  have hr := B.returns
  have hts := atoms_spec (ws := (Cond.code yX5_fetchOf cX5_fetchOf 1 (some .int) :: TB)) B.pre
  have hown : s.vm.findClass RX5 = some m.cls := findClass_of_methodNamed B.named
  have hlocks := B.notSynchronized
  have hl := lv_entry ([.int x]) (n := 1) (Nat.le_of_ble_eq_true rfl)
  rw [lg_entry_eq]
  generalize (lg_sl ([.int x]) ++ List.replicate (1 - (lg_sl ([.int x])).length) Slot.unset).toArray = ls at hl ⊢
  have hl : lv_has ls 1 [(0, .int x)] := hl
  refine lv_iconst (v := 2) hx hb dX5_fetchOf_0 (by decide) ?_
  refine lv_iload_n hx hb dX5_fetchOf_1 rfl (lv_at hl 0 rfl) ?_
  refine lv_imul hx hb dX5_fetchOf_2 ?_
  exact W.iret (v := 2 * x) hx hb hr (fun t9 ht9 hW9 => ⟨_, rfl, rfl, ht9⟩) (fun _ h9 => absurd h9 List.not_mem_nil) dX5_fetchOf_3
set_option maxHeartbeats 4000000 in
set_option maxRecDepth 100000 in
theorem c_X5_bringOf (l : Launch) (x : Int32) : Met l yX5_bringOf (Cond.code yX5_bringOf cX5_bringOf 1 (some .int) :: TB) ({ frames := 0, cells := 0, slots := 0, locals := 0 } : Room) (va_Pc [.int x] (fun _ => True)) (vp_Si (fun r => r = bOf x)) 0 0 (fun _ => False) := by
  refine Met.ofW (cc := cX5_bringOf) (maxL := 1) (ret := (some .int)) (by decide) rfl ?_
  intro p e s m args below meth c s₁ B hml hv
  obtain ⟨rfl, -⟩ := hv
  have hx := B.exec
  have hb := B.bytes
  have hr := B.returns
  have hts := atoms_spec (ws := (Cond.code yX5_bringOf cX5_bringOf 1 (some .int) :: TB)) B.pre
  have hown : s.vm.findClass RX5 = some m.cls := findClass_of_methodNamed B.named
  have hlocks := B.notSynchronized
  have hl := lv_entry ([.int x]) (n := 1) (Nat.le_of_ble_eq_true rfl)
  rw [lg_entry_eq]
  generalize (lg_sl ([.int x]) ++ List.replicate (1 - (lg_sl ([.int x])).length) Slot.unset).toArray = ls at hl ⊢
  have hl : lv_has ls 1 [(0, .int x)] := hl
  refine lv_iconst (v := 2) hx hb dX5_bringOf_0 (by decide) ?_
  refine lv_iload_n hx hb dX5_bringOf_1 rfl (lv_at hl 0 rfl) ?_
  refine lv_imul hx hb dX5_bringOf_2 ?_
  refine lv_iconst (v := 1) hx hb dX5_bringOf_3 (by decide) ?_
  refine lv_iadd hx hb dX5_bringOf_4 ?_
  exact W.iret (v := (2 * x) + 1) hx hb hr (fun t9 ht9 hW9 => ⟨_, rfl, rfl, ht9⟩) (fun _ h9 => absurd h9 List.not_mem_nil) dX5_bringOf_5
set_option maxHeartbeats 4000000 in
set_option maxRecDepth 100000 in
theorem c_X5_jobOf (l : Launch) (x : Int32) : Met l yX5_jobOf (Cond.code yX5_jobOf cX5_jobOf 1 (some .int) :: TB) ({ frames := 0, cells := 0, slots := 0, locals := 0 } : Room) (va_Pc [.int x] (fun _ => True)) (vp_Si (fun r => r = jOf x)) 0 0 (fun _ => False) := by
  refine Met.ofW (cc := cX5_jobOf) (maxL := 1) (ret := (some .int)) (by decide) rfl ?_
  intro p e s m args below meth c s₁ B hml hv
  obtain ⟨rfl, -⟩ := hv
  have hx := B.exec
  have hb := B.bytes
  have hr := B.returns
  have hts := atoms_spec (ws := (Cond.code yX5_jobOf cX5_jobOf 1 (some .int) :: TB)) B.pre
  have hown : s.vm.findClass RX5 = some m.cls := findClass_of_methodNamed B.named
  have hlocks := B.notSynchronized
  have hl := lv_entry ([.int x]) (n := 1) (Nat.le_of_ble_eq_true rfl)
  rw [lg_entry_eq]
  generalize (lg_sl ([.int x]) ++ List.replicate (1 - (lg_sl ([.int x])).length) Slot.unset).toArray = ls at hl ⊢
  have hl : lv_has ls 1 [(0, .int x)] := hl
  refine lv_iload_n hx hb dX5_jobOf_0 rfl (lv_at hl 0 rfl) ?_
  refine lv_iconst (v := 1) hx hb dX5_jobOf_1 (by decide) ?_
  refine lv_ishr hx hb dX5_jobOf_2 ?_
  exact W.iret (v := x >>> (1 &&& 31)) hx hb hr (fun t9 ht9 hW9 => ⟨_, rfl, rfl, ht9⟩) (fun _ h9 => absurd h9 List.not_mem_nil) dX5_jobOf_3
set_option maxHeartbeats 4000000 in
set_option maxRecDepth 100000 in
theorem c_X5_isFetch (l : Launch) (x : Int32) : Met l yX5_isFetch (Cond.code yX5_isFetch cX5_isFetch 1 (some .boolean) :: TB) ({ frames := 0, cells := 0, slots := 0, locals := 0 } : Room) (va_Pc [.int x] (fun _ => True)) (vp_Si (fun r => r = b01 (isF x))) 0 0 (fun _ => False) := by
  refine Met.ofW (cc := cX5_isFetch) (maxL := 1) (ret := (some .boolean)) (by decide) rfl ?_
  intro p e s m args below meth c s₁ B hml hv
  obtain ⟨rfl, -⟩ := hv
  have hx := B.exec
  have hb := B.bytes
  have hr := B.returns
  have hts := atoms_spec (ws := (Cond.code yX5_isFetch cX5_isFetch 1 (some .boolean) :: TB)) B.pre
  have hown : s.vm.findClass RX5 = some m.cls := findClass_of_methodNamed B.named
  have hlocks := B.notSynchronized
  have hl := lv_entry ([.int x]) (n := 1) (Nat.le_of_ble_eq_true rfl)
  rw [lg_entry_eq]
  generalize (lg_sl ([.int x]) ++ List.replicate (1 - (lg_sl ([.int x])).length) Slot.unset).toArray = ls at hl ⊢
  have hl : lv_has ls 1 [(0, .int x)] := hl
  refine lv_iload_n hx hb dX5_isFetch_0 rfl (lv_at hl 0 rfl) ?_
  refine lv_iconst (v := 1) hx hb dX5_isFetch_1 (by decide) ?_
  refine lv_iand hx hb dX5_isFetch_2 ?_
  refine lv_if_ne (tgt := 10) hx hb dX5_isFetch_3 (by decide) (fun c_1 => ?_) (fun c_1 => ?_)
  · refine lv_iconst (v := 0) hx hb dX5_isFetch_10 (by decide) ?_
    exact W.zret (v := 0) hx hb hr rfl (fun t9 ht9 hW9 => ⟨_, rfl, by simp [isF, b01, c_1], ht9⟩) (fun _ h9 => absurd h9 List.not_mem_nil) dX5_isFetch_11
  · refine lv_iconst (v := 1) hx hb dX5_isFetch_6 (by decide) ?_
    refine lv_goto (tgt := 11) hx hb dX5_isFetch_7 (by decide) ?_
    exact W.zret (v := 1) hx hb hr rfl (fun t9 ht9 hW9 => ⟨_, rfl, by simp [isF, b01, c_1], ht9⟩) (fun _ h9 => absurd h9 List.not_mem_nil) dX5_isFetch_11
set_option maxHeartbeats 4000000 in
set_option maxRecDepth 100000 in
theorem c_X5_isOutside (l : Launch) (x y z : Int32) : Met l yX5_isOutside (Cond.code yX5_isOutside cX5_isOutside 3 (some .boolean) :: TB) ({ frames := 0, cells := 0, slots := 0, locals := 0 } : Room) (va_Pc [.int x, .int y, .int z] (fun _ => True)) (vp_Si (fun r => r = b01 (decide (x < y) || !decide (x ≤ z)))) 0 0 (fun _ => False) := by
  refine Met.ofW (cc := cX5_isOutside) (maxL := 3) (ret := (some .boolean)) (by decide) rfl ?_
  intro p e s m args below meth c s₁ B hml hv
  obtain ⟨rfl, -⟩ := hv
  have hx := B.exec
  have hb := B.bytes
  have hr := B.returns
  have hts := atoms_spec (ws := (Cond.code yX5_isOutside cX5_isOutside 3 (some .boolean) :: TB)) B.pre
  have hown : s.vm.findClass RX5 = some m.cls := findClass_of_methodNamed B.named
  have hlocks := B.notSynchronized
  have hl := lv_entry ([.int x, .int y, .int z]) (n := 3) (Nat.le_of_ble_eq_true rfl)
  rw [lg_entry_eq]
  generalize (lg_sl ([.int x, .int y, .int z]) ++ List.replicate (3 - (lg_sl ([.int x, .int y, .int z])).length) Slot.unset).toArray = ls at hl ⊢
  have hl : lv_has ls 3 [(0, .int x), (1, .int y), (2, .int z)] := hl
  refine lv_iload_n hx hb dX5_isOutside_0 rfl (lv_at hl 0 rfl) ?_
  refine lv_iload_n hx hb dX5_isOutside_1 rfl (lv_at hl 1 rfl) ?_
  refine lv_icmp_lt (tgt := 10) hx hb dX5_isOutside_2 (by decide) (fun c_1 => ?_) (fun c_1 => ?_)
  · refine lv_iconst (v := 1) hx hb dX5_isOutside_10 (by decide) ?_
    refine lv_goto (tgt := 15) hx hb dX5_isOutside_11 (by decide) ?_
    exact W.zret (v := 1) hx hb hr rfl (fun t9 ht9 hW9 => ⟨_, rfl, by simp [b01, c_1], ht9⟩) (fun _ h9 => absurd h9 List.not_mem_nil) dX5_isOutside_15
  · refine lv_iload_n hx hb dX5_isOutside_5 rfl (lv_at hl 0 rfl) ?_
    refine lv_iload_n hx hb dX5_isOutside_6 rfl (lv_at hl 2 rfl) ?_
    refine lv_icmp_le (tgt := 14) hx hb dX5_isOutside_7 (by decide) (fun c_2 => ?_) (fun c_2 => ?_)
    · refine lv_iconst (v := 0) hx hb dX5_isOutside_14 (by decide) ?_
      exact W.zret (v := 0) hx hb hr rfl (fun t9 ht9 hW9 => ⟨_, rfl, by simp [b01, c_1, c_2], ht9⟩) (fun _ h9 => absurd h9 List.not_mem_nil) dX5_isOutside_15
    · refine lv_iconst (v := 1) hx hb dX5_isOutside_10 (by decide) ?_
      refine lv_goto (tgt := 15) hx hb dX5_isOutside_11 (by decide) ?_
      exact W.zret (v := 1) hx hb hr rfl (fun t9 ht9 hW9 => ⟨_, rfl, by simp [b01, c_1, c_2], ht9⟩) (fun _ h9 => absurd h9 List.not_mem_nil) dX5_isOutside_15
set_option maxHeartbeats 4000000 in
set_option maxRecDepth 100000 in
theorem c_X2_at (l : Launch) (dC : Nat → ClassId) (dI : Nat → Nat → Nat) (cI cV : ClassId) (h a : Nat) (L : List Int32) (f : Nat → Int32) (hL : rw_ok L f) (x : Int32) : Met l yX2_at (Cond.code yX2_at cX2_at 2 (some .int) :: TB) ({ frames := 0, cells := 0, slots := 0, locals := 0 } : Room) (PR [.ref h, .int x] (dC, dI) [(h, .inr (2, [.ref a, .int (nI L.length)])), (a, .inl (cI, 18, .inl f))] (TY cI cV)) (vp_Si (fun r => r = rAt L x)) 0 0 (fun _ => False) := by
  refine Met.ofW (cc := cX2_at) (maxL := 2) (ret := (some .int)) (by decide) rfl ?_
  intro p e s m args below meth c s₁ B hml hv
  obtain ⟨rfl, hP, hK, hN⟩ := hv
  have hx := B.exec
  have hb := B.bytes
  have hr := B.returns
  have hts := atoms_spec (ws := (Cond.code yX2_at cX2_at 2 (some .int) :: TB)) B.pre
  have hown : s.vm.findClass RX2 = some m.cls := findClass_of_methodNamed B.named
  have hlocks := B.notSynchronized
  have hl := lv_entry ([.ref h, .int x]) (n := 2) (Nat.le_of_ble_eq_true rfl)
  rw [lg_entry_eq]
  generalize (lg_sl ([.ref h, .int x]) ++ List.replicate (2 - (lg_sl ([.ref h, .int x])).length) Slot.unset).toArray = ls at hl ⊢
  have hl : lv_has ls 2 [(0, .ref h), (1, .int x)] := hl
  refine lv_iload_n hx hb dX2_at_0 rfl (lv_at hl 1 rfl) ?_
  refine lv_if_lt (tgt := 21) hx hb dX2_at_1 (by decide) (fun c_1 => ?_) (fun c_1 => ?_)
  · refine lv_iconst (v := (-1)) hx hb dX2_at_21 (by decide) ?_
    exact W.iret (v := (-1)) hx hb hr (fun t9 ht9 hW9 => ⟨_, rfl, by rw [rAt, if_pos c_1], ht9⟩) (fun _ h9 => absurd h9 List.not_mem_nil) dX2_at_22
  · refine lv_iload_n hx hb dX2_at_4 rfl (lv_at hl 1 rfl) ?_
    refine lv_aload_n hx hb dX2_at_5 rfl (lv_at hl 0 rfl) ?_
    refine va_get (D := (dC, dI)) (ci := 2) (v := .int (nI L.length)) (C := RX2) (T := TX2) (N := 2) hx hb hts (fun w h => tb_in (inX2 w h)) hown hK hP 0 rfl rfl 1 (by decide) (hts _ (tb_in q_fl_X2_15)) (fun _ h9 => h9) rfl dX2_at_6 ?_
    refine lv_icmp_ge (tgt := 21) hx hb dX2_at_9 (by decide) (fun c_2 => ?_) (fun c_2 => ?_)
    · refine lv_iconst (v := (-1)) hx hb dX2_at_21 (by decide) ?_
      exact W.iret (v := (-1)) hx hb hr (fun t9 ht9 hW9 => ⟨_, rfl, by rw [rAt, if_neg c_1, if_pos c_2], ht9⟩) (fun _ h9 => absurd h9 List.not_mem_nil) dX2_at_22
    · refine lv_aload_n hx hb dX2_at_12 rfl (lv_at hl 0 rfl) ?_
      refine va_get (D := (dC, dI)) (ci := 2) (v := .ref a) (C := RX2) (T := TX2) (N := 2) hx hb hts (fun w h => tb_in (inX2 w h)) hown hK hP 0 rfl rfl 0 (by decide) (hts _ (tb_in q_fl_X2_9)) (fun _ h9 => h9) rfl dX2_at_13 ?_
      refine lv_iload_n hx hb dX2_at_16 rfl (lv_at hl 1 rfl) ?_
      refine va_iald (D := (dC, dI)) hx hb hK hP 1 0 rfl rfl (n := 18) (rw_at hL c_1 c_2).1 dX2_at_17 ?_
      refine lv_goto (tgt := 22) hx hb dX2_at_18 (by decide) ?_
      exact W.iret (v := f (x).toNatClampNeg) hx hb hr (fun t9 ht9 hW9 => ⟨_, rfl, (rw_at hL c_1 c_2).2, ht9⟩) (fun _ h9 => absurd h9 List.not_mem_nil) dX2_at_22
set_option maxHeartbeats 4000000 in
set_option maxRecDepth 100000 in
theorem c_X2_find (l : Launch) (dC : Nat → ClassId) (dI : Nat → Nat → Nat) (cI cV : ClassId) (h a : Nat) (L : List Int32) (f : Nat → Int32) (hL : rw_ok L f) (x : Int32) : Met l yX2_find (Cond.code yX2_find cX2_find 3 (some .int) :: TB) ({ frames := 0, cells := 0, slots := 0, locals := 0 } : Room) (PR [.ref h, .int x] (dC, dI) [(h, .inr (2, [.ref a, .int (nI L.length)])), (a, .inl (cI, 18, .inl f))] (TY cI cV)) (vp_Si (fun r => r = rFind L x)) 0 0 (fun _ => False) := by
  refine Met.ofW (cc := cX2_find) (maxL := 3) (ret := (some .int)) (by decide) rfl ?_
  intro p e s m args below meth c s₁ B hml hv
  obtain ⟨rfl, hP, hK, hN⟩ := hv
  have hx := B.exec
  have hb := B.bytes
  have hr := B.returns
  have hts := atoms_spec (ws := (Cond.code yX2_find cX2_find 3 (some .int) :: TB)) B.pre
  have hown : s.vm.findClass RX2 = some m.cls := findClass_of_methodNamed B.named
  have hlocks := B.notSynchronized
  have hl := lv_entry ([.ref h, .int x]) (n := 3) (Nat.le_of_ble_eq_true rfl)
  rw [lg_entry_eq]
  generalize (lg_sl ([.ref h, .int x]) ++ List.replicate (3 - (lg_sl ([.ref h, .int x])).length) Slot.unset).toArray = ls at hl ⊢
  have hl : lv_has ls 3 [(0, .ref h), (1, .int x)] := hl
  have hLl := hL.1
  refine lv_iconst (v := 0) hx hb dX2_find_0 (by decide) ?_
  refine lv_istore_n (lv' := [(2, .int 0), (0, .ref h), (1, .int x)]) hx hb dX2_find_1 rfl hl (by decide) rfl (fun ls hl => ?_)
  have loop : ∀ (k : Nat) (i : Nat) (ls : Array Slot), L.length + 1 ≤ i + k → i ≤ L.length → rFind L x = rOpt i (rIdx (L.drop i) x) → lv_has ls 3 [(2, .int (nI i)), (0, .ref h), (1, .int x)] → W p l e (headSpec (Cond.code yX2_find cX2_find 3 (some .int) :: TB) ({ frames := 0, cells := 0, slots := 0, locals := 0 } : Room)).room s m ([.ref h, .int x] : List Value).toArray below meth c s.heap [] 0 0 (MQ below (vp_Si (fun r => r = rFind L x)) ([.ref h, .int x] : List Value).toArray s 0 0 (fun _ => False)) (F0 m 2 ls []) := by
    intro k
    induction k with
    | zero =>
      intro i ls hk hi hF hl
      exact absurd hk (by omega)
    | succ k ih =>
      intro i ls hk hi hF hl
      refine lv_iload_n hx hb dX2_find_2 rfl (lv_at hl 0 rfl) ?_
      refine lv_aload_n hx hb dX2_find_3 rfl (lv_at hl 1 rfl) ?_
      refine va_get (D := (dC, dI)) (ci := 2) (v := .int (nI L.length)) (C := RX2) (T := TX2) (N := 2) hx hb hts (fun w h => tb_in (inX2 w h)) hown hK hP 0 rfl rfl 1 (by decide) (hts _ (tb_in q_fl_X2_15)) (fun _ h9 => h9) rfl dX2_find_4 ?_
      refine lv_icmp_ge (tgt := 28) hx hb dX2_find_7 (by decide) (fun c_1 => ?_) (fun c_1 => ?_)
      · refine lv_iconst (v := (-1)) hx hb dX2_find_28 (by decide) ?_
        exact W.iret (v := (-1)) hx hb hr (fun t9 ht9 hW9 => ⟨_, rfl, by rw [hF, List.drop_of_length_le (by have := (nI_leI (by omega) (by omega)).mp c_1; omega)]; rfl, ht9⟩) (fun _ h9 => absurd h9 List.not_mem_nil) dX2_find_29
      · have hlt : i < L.length := by
          rcases Nat.lt_or_ge i L.length with q | q
          · exact q
          · exact absurd ((nI_leI (by omega) (by omega)).mpr q) c_1
        refine lv_aload_n hx hb dX2_find_10 rfl (lv_at hl 1 rfl) ?_
        refine va_get (D := (dC, dI)) (ci := 2) (v := .ref a) (C := RX2) (T := TX2) (N := 2) hx hb hts (fun w h => tb_in (inX2 w h)) hown hK hP 0 rfl rfl 0 (by decide) (hts _ (tb_in q_fl_X2_9)) (fun _ h9 => h9) rfl dX2_find_11 ?_
        refine lv_iload_n hx hb dX2_find_14 rfl (lv_at hl 0 rfl) ?_
        refine va_iald (D := (dC, dI)) hx hb hK hP 1 0 rfl rfl (n := 18) (vp_in_nI (by omega) (by omega)) dX2_find_15 ?_
        refine lv_iload_n hx hb dX2_find_16 rfl (lv_at hl 2 rfl) ?_
        refine lv_icmp_ne (tgt := 22) hx hb dX2_find_17 (by decide) (fun c_2 => ?_) (fun c_2 => ?_)
        · refine lv_iinc (v := nI (i + 1)) (lv' := [(2, .int (nI (i + 1))), (0, .ref h), (1, .int x)]) hx hb dX2_find_22 hl (k := 0) rfl (nI_1 _) (by decide) rfl (fun ls hl => ?_)
          refine lv_goto (tgt := 2) hx hb dX2_find_25 (by decide) ?_
          exact ih (i + 1) ls (by omega) (by omega) (by rw [hF, rIdx_drop hlt, if_neg (by rw [← hL.2 i hlt, ← nI_clamp (n := i) (by omega)]; exact c_2), rOpt_map]) (lv_sub hl [0, 1, 2] rfl)
        · refine lv_iload_n hx hb dX2_find_20 rfl (lv_at hl 0 rfl) ?_
          exact W.iret (v := nI i) hx hb hr (fun t9 ht9 hW9 => ⟨_, rfl, by rw [hF, rIdx_drop hlt, if_pos (by rw [← hL.2 i hlt, ← nI_clamp (n := i) (by omega)]; exact c_2)]; rfl, ht9⟩) (fun _ h9 => absurd h9 List.not_mem_nil) dX2_find_21
  exact loop (L.length + 1) 0 ls (by omega) (by omega) (by rw [List.drop_zero]; rfl) (lv_sub hl [0, 1, 2] rfl)
set_option maxHeartbeats 4000000 in
set_option maxRecDepth 100000 in
theorem c_X2_add (l : Launch) (dC : Nat → ClassId) (dI : Nat → Nat → Nat) (cI cV : ClassId) (h a : Nat) (L : List Int32) (f : Nat → Int32) (hL : rw_ok L f) (x : Int32) (sz : Nat) : Met l yX2_add (Cond.code yX2_add cX2_add 2 none :: TB) ({ frames := 0, cells := 0, slots := 0, locals := 0 } : Room) (PW [.ref h, .int x] (dC, dI) [(h, .inr (2, [.ref a, .int (nI L.length)])), (a, .inl (cI, 18, .inl f))] (TY cI cV) sz) (va_Qv (fun u => rw_ok ((L ++ [x]).take 18) u) (QB (dC, dI) (fun u => [(h, .inr (2, [.ref a, .int (nI (((L ++ [x]).take 18)).length)])), (a, .inl (cI, 18, .inl u))]) (TY cI cV) (va_A [(h, .inr (2, [.ref a, .int (nI L.length)])), (a, .inl (cI, 18, .inl f))] sz)) (va_A [(h, .inr (2, [.ref a, .int (nI L.length)])), (a, .inl (cI, 18, .inl f))] sz)) 0 0 (va_A [(h, .inr (2, [.ref a, .int (nI L.length)])), (a, .inl (cI, 18, .inl f))] sz) := by
  refine Met.ofW (cc := cX2_add) (maxL := 2) (ret := none) (by decide) rfl ?_
  intro p e s m args below meth c s₁ B hml hv
  obtain ⟨rfl, hsz, hP, hK, hD0, hN⟩ := hv
  have hx := B.exec
  have hb := B.bytes
  have hr := B.returns
  have hts := atoms_spec (ws := (Cond.code yX2_add cX2_add 2 none :: TB)) B.pre
  have hown : s.vm.findClass RX2 = some m.cls := findClass_of_methodNamed B.named
  have hlocks := B.notSynchronized
  subst hsz
  have hD := hD0.self (sz := s.heap.size)
  generalize hAe : va_A [(h, .inr (2, [.ref a, .int (nI L.length)])), (a, .inl (cI, 18, .inl f))] s.heap.size = A at hD ⊢
  have hA : ∀ q : Nat, s.heap.size ≤ q → A q := fun q h => by rw [← hAe]; exact Or.inr h
  have hS : va_S A s.heap s.heap [] := va_S.rf
  have hl := lv_entry ([.ref h, .int x]) (n := 2) (Nat.le_of_ble_eq_true rfl)
  rw [lg_entry_eq]
  generalize (lg_sl ([.ref h, .int x]) ++ List.replicate (2 - (lg_sl ([.ref h, .int x])).length) Slot.unset).toArray = ls at hl ⊢
  have hl : lv_has ls 2 [(0, .ref h), (1, .int x)] := hl
  have hLl := hL.1
  refine lv_aload_n hx hb dX2_add_0 rfl (lv_at hl 0 rfl) ?_
  refine va_get (D := (dC, dI)) (ci := 2) (v := .int (nI L.length)) (C := RX2) (T := TX2) (N := 2) hx hb hts (fun w h => tb_in (inX2 w h)) hown hK hP 0 rfl rfl 1 (by decide) (hts _ (tb_in q_fl_X2_15)) (fun _ h9 => h9) rfl dX2_add_1 ?_
  refine lv_aload_n hx hb dX2_add_4 rfl (lv_at hl 0 rfl) ?_
  refine va_get (D := (dC, dI)) (ci := 2) (v := .ref a) (C := RX2) (T := TX2) (N := 2) hx hb hts (fun w h => tb_in (inX2 w h)) hown hK hP 0 rfl rfl 0 (by decide) (hts _ (tb_in q_fl_X2_9)) (fun _ h9 => h9) rfl dX2_add_5 ?_
  refine va_alen (D := (dC, dI)) (v := nI 18) hx hb hK hP 1 0 rfl rfl rfl dX2_add_8 ?_
  refine lv_icmp_ge (tgt := 32) hx hb dX2_add_9 (by decide) (fun c_1 => ?_) (fun c_1 => ?_)
  · have hge : 18 ≤ L.length := (nI_leI (by omega) (by omega)).mp c_1
    have e9 : (L ++ [x]).take 18 = L := by rw [List.take_append, show 18 - L.length = 0 by omega, List.take_zero, List.append_nil, List.take_of_length_le (by omega)]
    have hP : va_P (dC, dI) cls [(h, .inr (2, [.ref a, .int (nI (((L ++ [x]).take 18)).length)])), (a, .inl (cI, 18, .inl f))] s.heap := by rw [e9]; exact hP
    have hD : va_D A [(h, .inr (2, [.ref a, .int (nI (((L ++ [x]).take 18)).length)])), (a, .inl (cI, 18, .inl f))] := by rw [e9]; exact hD
    have hP9 := hP
    have hD9 := hD
    exact W.vret hx hb hr (fun t9 ht9 hW9 => ⟨⟨f, rfl, rw_full hL x hge, by rw [ht9]; exact hP9, va_K.moved hW9.alike hK, hD9⟩, hS.F ht9⟩) hS.2.2 dX2_add_32
  · have hlt : L.length < 18 := by
      rcases Nat.lt_or_ge L.length 18 with q | q
      · exact q
      · exact absurd ((nI_leI (a := 18) (by omega) (by omega)).mpr q) c_1
    refine lv_aload_n hx hb dX2_add_12 rfl (lv_at hl 0 rfl) ?_
    refine va_get (D := (dC, dI)) (ci := 2) (v := .ref a) (C := RX2) (T := TX2) (N := 2) hx hb hts (fun w h => tb_in (inX2 w h)) hown hK hP 0 rfl rfl 0 (by decide) (hts _ (tb_in q_fl_X2_9)) (fun _ h9 => h9) rfl dX2_add_13 ?_
    refine lv_aload_n hx hb dX2_add_16 rfl (lv_at hl 0 rfl) ?_
    refine va_get (D := (dC, dI)) (ci := 2) (v := .int (nI L.length)) (C := RX2) (T := TX2) (N := 2) hx hb hts (fun w h => tb_in (inX2 w h)) hown hK hP 0 rfl rfl 1 (by decide) (hts _ (tb_in q_fl_X2_15)) (fun _ h9 => h9) rfl dX2_add_17 ?_
    refine lv_iload_n hx hb dX2_add_20 rfl (lv_at hl 1 rfl) ?_
    refine va_iast (D := (dC, dI)) hx hb hK hP hD hS 1 0 rfl rfl (n := 18) (vp_in_nI hlt (by omega)) dX2_add_21 (fun H locs hP hD hS => ?_)
    have hP : va_P (dC, dI) cls [(h, .inr (2, [.ref a, .int (nI L.length)])), (a, .inl (cI, 18, .inl (upd f (nI L.length).toNatClampNeg x)))] H := hP
    have hD : va_D A [(h, .inr (2, [.ref a, .int (nI L.length)])), (a, .inl (cI, 18, .inl (upd f (nI L.length).toNatClampNeg x)))] := hD
    refine lv_aload_n hx hb dX2_add_22 rfl (lv_at hl 0 rfl) ?_
    refine lv_dup hx hb dX2_add_23 rfl ?_
    refine va_get (D := (dC, dI)) (ci := 2) (v := .int (nI L.length)) (C := RX2) (T := TX2) (N := 2) hx hb hts (fun w h => tb_in (inX2 w h)) hown hK hP 0 rfl rfl 1 (by decide) (hts _ (tb_in q_fl_X2_15)) (fun _ h9 => h9) rfl dX2_add_24 ?_
    refine lv_iconst (v := 1) hx hb dX2_add_27 (by decide) ?_
    refine lv_iadd hx hb dX2_add_28 ?_
    refine lv_topi (fun f_2 ef_2 => ?_)
    refine va_put (D := (dC, dI)) (ci := 2) (v := .int f_2) (ty := .int) (C := RX2) (T := TX2) (N := 2) hx hb hts (fun w h => tb_in (inX2 w h)) tyX2 tyX2_ok nmX2 hown hK hP hD hS 0 rfl rfl 1 (by decide) (hts _ (tb_in q_fl_X2_15)) (fun _ h9 => h9) rfl (by decide +kernel) rfl rfl (Nat.le_of_ble_eq_true rfl) dX2_add_29 (fun H locs hP hD hS => ?_)
    have hP : va_P (dC, dI) cls [(h, .inr (2, [.ref a, .int f_2])), (a, .inl (cI, 18, .inl (upd f (nI L.length).toNatClampNeg x)))] H := hP
    have hD : va_D A [(h, .inr (2, [.ref a, .int f_2])), (a, .inl (cI, 18, .inl (upd f (nI L.length).toNatClampNeg x)))] := hD
    have e9 : nI ((L ++ [x]).take 18).length = f_2 := by rw [ef_2, nI_1, List.take_of_length_le (by simp; omega)]; simp
    have hP : va_P (dC, dI) cls [(h, .inr (2, [.ref a, .int (nI (((L ++ [x]).take 18)).length)])), (a, .inl (cI, 18, .inl ((upd f (nI L.length).toNatClampNeg x))))] H := by rw [e9]; exact hP
    have hD : va_D A [(h, .inr (2, [.ref a, .int (nI (((L ++ [x]).take 18)).length)])), (a, .inl (cI, 18, .inl ((upd f (nI L.length).toNatClampNeg x))))] := by rw [e9]; exact hD
    have hP9 := hP
    have hD9 := hD
    exact W.vret hx hb hr (fun t9 ht9 hW9 => ⟨⟨(upd f (nI L.length).toNatClampNeg x), rfl, rw_add18 hL x hlt, by rw [ht9]; exact hP9, va_K.moved hW9.alike hK, hD9⟩, hS.F ht9⟩) hS.2.2 dX2_add_32
