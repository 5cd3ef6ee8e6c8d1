set_option maxHeartbeats 4000000 in
set_option maxRecDepth 100000 in
theorem c_X2_addPart (l : Launch) (dC : Nat → ClassId) (dI : Nat → Nat → Nat) (cI cV : ClassId) (h a : Nat) (L : List Int32) (f : Nat → Int32) (hL : rw_ok L f) (o b : Nat) (M : List Int32) (g : Nat → Int32) (hM : rw_ok M g) (i0 : Nat) (e0 : Int32) (hi0 : i0 ≤ M.length) (sz : Nat) : Met l yX2_addPart (Cond.code yX2_addPart cX2_addPart 5 none :: TB) ({ frames := 1, cells := 0, slots := 0, locals := 21 } : Room) (PW [.ref h, .ref o, .int (nI i0), .int e0] (dC, dI) [(h, .inr (2, [.ref a, .int (nI L.length)])), (a, .inl (cI, 18, .inl f)), (o, .inr (2, [.ref b, .int (nI M.length)])), (b, .inl (cI, 18, .inl g))] (TY cI cV) sz) (va_Qv (fun u => rw_ok ((L ++ (M.take e0.toNatClampNeg).drop i0).take 18) u) (QB (dC, dI) (fun u => [(h, .inr (2, [.ref a, .int (nI (((L ++ (M.take e0.toNatClampNeg).drop i0).take 18)).length)])), (a, .inl (cI, 18, .inl u)), (o, .inr (2, [.ref b, .int (nI M.length)])), (b, .inl (cI, 18, .inl g))]) (TY cI cV) (va_A [(h, .inr (2, [.ref a, .int (nI L.length)])), (a, .inl (cI, 18, .inl f)), (o, .inr (2, [.ref b, .int (nI M.length)])), (b, .inl (cI, 18, .inl g))] sz)) (va_A [(h, .inr (2, [.ref a, .int (nI L.length)])), (a, .inl (cI, 18, .inl f)), (o, .inr (2, [.ref b, .int (nI M.length)])), (b, .inl (cI, 18, .inl g))] sz)) 0 0 (va_A [(h, .inr (2, [.ref a, .int (nI L.length)])), (a, .inl (cI, 18, .inl f)), (o, .inr (2, [.ref b, .int (nI M.length)])), (b, .inl (cI, 18, .inl g))] sz) := by
  refine Met.ofW (cc := cX2_addPart) (maxL := 5) (ret := none) (by decide) rfl ?_
  intro p e s m args below meth c s₁ B hml hv
  obtain ⟨rfl, hsz, hP, hK, hD0, hN⟩ := hv
  have hx := B.exec
  have hb := B.bytes
  have hr := B.returns
  have hts := atoms_spec (ws := (Cond.code yX2_addPart cX2_addPart 5 none :: TB)) B.pre
  have hown : s.vm.findClass RX2 = some m.cls := findClass_of_methodNamed B.named
  have hlocks := B.notSynchronized
  subst hsz
  have hD := hD0.self (sz := s.heap.size)
  generalize hAe : va_A [(h, .inr (2, [.ref a, .int (nI L.length)])), (a, .inl (cI, 18, .inl f)), (o, .inr (2, [.ref b, .int (nI M.length)])), (b, .inl (cI, 18, .inl g))] s.heap.size = A at hD ⊢
  have hA : ∀ q : Nat, s.heap.size ≤ q → A q := fun q h => by rw [← hAe]; exact Or.inr h
  have hS : va_S A s.heap s.heap [] := va_S.rf
  have hl := lv_entry ([.ref h, .ref o, .int (nI i0), .int e0]) (n := 5) (Nat.le_of_ble_eq_true rfl)
  rw [lg_entry_eq]
  generalize (lg_sl ([.ref h, .ref o, .int (nI i0), .int e0]) ++ List.replicate (5 - (lg_sl ([.ref h, .ref o, .int (nI i0), .int e0])).length) Slot.unset).toArray = ls at hl ⊢
  have hl : lv_has ls 5 [(0, .ref h), (1, .ref o), (2, .int (nI i0)), (3, .int e0)] := hl
  have hLl := hL.1
  have hMl := hM.1
  refine lv_iload_n hx hb dX2_addPart_0 rfl (lv_at hl 2 rfl) ?_
  refine lv_istore (lv' := [(4, .int (nI i0)), (0, .ref h), (1, .ref o), (2, .int (nI i0)), (3, .int e0)]) hx hb dX2_addPart_1 hl (by decide) rfl (fun ls hl => ?_)
  have loop : ∀ (k : Nat) (i : Nat) (Lc : List Int32) (fc : Nat → Int32) (H : Heap) (locs : List Loc) (ls : Array Slot), M.length + 1 ≤ i + k → i ≤ M.length → (Lc ++ (M.take e0.toNatClampNeg).drop i).take 18 = ((L ++ (M.take e0.toNatClampNeg).drop i0).take 18) → rw_ok Lc fc → va_P (dC, dI) cls [(h, .inr (2, [.ref a, .int (nI Lc.length)])), (a, .inl (cI, 18, .inl fc)), (o, .inr (2, [.ref b, .int (nI M.length)])), (b, .inl (cI, 18, .inl g))] H → va_D A [(h, .inr (2, [.ref a, .int (nI Lc.length)])), (a, .inl (cI, 18, .inl fc)), (o, .inr (2, [.ref b, .int (nI M.length)])), (b, .inl (cI, 18, .inl g))] → va_S A s.heap H locs → lv_has ls 5 [(4, .int (nI i)), (0, .ref h), (1, .ref o), (2, .int (nI i0)), (3, .int e0)] → W p l e (headSpec (Cond.code yX2_addPart cX2_addPart 5 none :: TB) ({ frames := 1, cells := 0, slots := 0, locals := 21 } : Room)).room s m ([.ref h, .ref o, .int (nI i0), .int e0] : List Value).toArray below meth c H locs 0 0 (MQ below (va_Qv (fun u => rw_ok ((L ++ (M.take e0.toNatClampNeg).drop i0).take 18) u) (QB (dC, dI) (fun u => [(h, .inr (2, [.ref a, .int (nI (((L ++ (M.take e0.toNatClampNeg).drop i0).take 18)).length)])), (a, .inl (cI, 18, .inl u)), (o, .inr (2, [.ref b, .int (nI M.length)])), (b, .inl (cI, 18, .inl g))]) (TY cI cV) A) A) ([.ref h, .ref o, .int (nI i0), .int e0] : List Value).toArray s 0 0 A) (F0 m 3 ls []) := by
    intro k
    induction k with
    | zero =>
      intro i Lc fc H locs ls hk hi hG hLc hP hD hS hl
      exact absurd hk (by omega)
    | succ k ih =>
      intro i Lc fc H locs ls hk hi hG hLc hP hD hS hl
      refine lv_iload hx hb dX2_addPart_3 (lv_at hl 0 rfl) ?_
      refine lv_iload_n hx hb dX2_addPart_5 rfl (lv_at hl 4 rfl) ?_
      refine lv_icmp_ge (tgt := 34) hx hb dX2_addPart_6 (by decide) (fun c_1 => ?_) (fun c_1 => ?_)
      · have e9 : Lc = ((L ++ (M.take e0.toNatClampNeg).drop i0).take 18) := by rw [← hG, List.drop_of_length_le (by rw [List.length_take]; have := (le_clamp (by omega)).mp c_1; omega), List.append_nil, List.take_of_length_le hLc.1]
        have hP : va_P (dC, dI) cls [(h, .inr (2, [.ref a, .int (nI (((L ++ (M.take e0.toNatClampNeg).drop i0).take 18)).length)])), (a, .inl (cI, 18, .inl fc)), (o, .inr (2, [.ref b, .int (nI M.length)])), (b, .inl (cI, 18, .inl g))] H := by rw [← e9]; exact hP
        have hD : va_D A [(h, .inr (2, [.ref a, .int (nI (((L ++ (M.take e0.toNatClampNeg).drop i0).take 18)).length)])), (a, .inl (cI, 18, .inl fc)), (o, .inr (2, [.ref b, .int (nI M.length)])), (b, .inl (cI, 18, .inl g))] := by rw [← e9]; exact hD
        have hP9 := hP
        have hD9 := hD
        exact W.vret hx hb hr (fun t9 ht9 hW9 => ⟨⟨fc, rfl, by rw [← e9]; exact hLc, by rw [ht9]; exact hP9, va_K.moved hW9.alike hK, hD9⟩, hS.F ht9⟩) hS.2.2 dX2_addPart_34
      · refine lv_iload hx hb dX2_addPart_9 (lv_at hl 0 rfl) ?_
        refine lv_aload_n hx hb dX2_addPart_11 rfl (lv_at hl 2 rfl) ?_
        refine va_get (D := (dC, dI)) (ci := 2) (v := .int (nI M.length)) (C := RX2) (T := TX2) (N := 2) hx hb hts (fun w h => tb_in (inX2 w h)) hown hK hP 2 rfl rfl 1 (by decide) (hts _ (tb_in q_fl_X2_15)) (fun _ h9 => h9) rfl dX2_addPart_12 ?_
        refine lv_icmp_ge (tgt := 34) hx hb dX2_addPart_15 (by decide) (fun c_2 => ?_) (fun c_2 => ?_)
        · have e9 : Lc = ((L ++ (M.take e0.toNatClampNeg).drop i0).take 18) := by rw [← hG, List.drop_of_length_le (by rw [List.length_take]; have := (nI_leI (by omega) (by omega)).mp c_2; omega), List.append_nil, List.take_of_length_le hLc.1]
          have hP : va_P (dC, dI) cls [(h, .inr (2, [.ref a, .int (nI (((L ++ (M.take e0.toNatClampNeg).drop i0).take 18)).length)])), (a, .inl (cI, 18, .inl fc)), (o, .inr (2, [.ref b, .int (nI M.length)])), (b, .inl (cI, 18, .inl g))] H := by rw [← e9]; exact hP
          have hD : va_D A [(h, .inr (2, [.ref a, .int (nI (((L ++ (M.take e0.toNatClampNeg).drop i0).take 18)).length)])), (a, .inl (cI, 18, .inl fc)), (o, .inr (2, [.ref b, .int (nI M.length)])), (b, .inl (cI, 18, .inl g))] := by rw [← e9]; exact hD
          have hP9 := hP
          have hD9 := hD
          exact W.vret hx hb hr (fun t9 ht9 hW9 => ⟨⟨fc, rfl, by rw [← e9]; exact hLc, by rw [ht9]; exact hP9, va_K.moved hW9.alike hK, hD9⟩, hS.F ht9⟩) hS.2.2 dX2_addPart_34
        · have hlt : i < M.length := by
            rcases Nat.lt_or_ge i M.length with q | q
            · exact q
            · exact absurd ((nI_leI (by omega) (by omega)).mpr q) c_2
          refine lv_aload_n hx hb dX2_addPart_18 rfl (lv_at hl 1 rfl) ?_
          refine lv_aload_n hx hb dX2_addPart_19 rfl (lv_at hl 2 rfl) ?_
          refine lv_iload hx hb dX2_addPart_20 (lv_at hl 0 rfl) ?_
          refine k_Vi (ci := 2) (q0 := 0) [.int (nI i)] ⟨hx, hb, hml, hown, hts⟩ (c_X2_at l dC dI cI cV o b M g hM (nI i)) q_ml_X2_19 q_im_X2_at q_se_X2_at q_ini_X2 q_co_X2_at (n := 1) (by decide +kernel) rfl ⟨rfl, rfl⟩ ⟨Nat.le_of_ble_eq_true rfl, Nat.le_of_ble_eq_true rfl⟩ (hP.sub [2, 3] rfl) hK hN rfl rfl rfl hl.1 rfl (Nat.le_of_ble_eq_true rfl) dX2_addPart_22 ⟨Nat.le_of_ble_eq_true rfl, Nat.le_of_ble_eq_true rfl⟩ (fun r_3 hr_3 => ?_)
          refine k_Vv (ci := 2) (q0 := 0) (wc := [(h, .inr (2, [.ref a, .int (nI Lc.length)])), (a, .inl (cI, 18, .inl fc))]) (wr := [(o, .inr (2, [.ref b, .int (nI M.length)])), (b, .inl (cI, 18, .inl g))]) [.int r_3] [0, 1] [2, 3] ⟨hx, hb, hml, hown, hts⟩ (fun sz => c_X2_add l dC dI cI cV h a Lc fc hLc r_3 sz) q_ml_X2_36 q_im_X2_add q_se_X2_add q_ini_X2 q_co_X2_add (n := 1) (by decide +kernel) rfl ⟨rfl, rfl⟩ ⟨Nat.le_of_ble_eq_true rfl, Nat.le_of_ble_eq_true rfl⟩ hP hD hS hA hK hN rfl rfl (by decide) (by decide) (by decide) rfl rfl rfl hl.1 rfl (Nat.le_of_ble_eq_true rfl) dX2_addPart_25 ⟨Nat.le_of_ble_eq_true rfl, Nat.le_of_ble_eq_true rfl⟩ (fun u_4 H locs huu_4 hP hD hS => ?_)
          have hP := hP.sub (ws' := [(h, .inr (2, [.ref a, .int (nI (((Lc ++ [r_3]).take 18)).length)])), (a, .inl (cI, 18, .inl u_4)), (o, .inr (2, [.ref b, .int (nI M.length)])), (b, .inl (cI, 18, .inl g))]) [2, 3, 0, 1] rfl
          have hD := hD.sub (ws' := [(h, .inr (2, [.ref a, .int (nI (((Lc ++ [r_3]).take 18)).length)])), (a, .inl (cI, 18, .inl u_4)), (o, .inr (2, [.ref b, .int (nI M.length)])), (b, .inl (cI, 18, .inl g))]) [2, 3, 0, 1] (by decide) rfl
          refine lv_iinc (v := nI (i + 1)) (lv' := [(4, .int (nI (i + 1))), (0, .ref h), (1, .ref o), (2, .int (nI i0)), (3, .int e0)]) hx hb dX2_addPart_28 hl (k := 0) rfl (nI_1 _) (by decide) rfl (fun ls hl => ?_)
          refine lv_goto (tgt := 3) hx hb dX2_addPart_31 (by decide) ?_
          exact ih (i + 1) ((Lc ++ [r_3]).take 18) u_4 H locs ls (by omega) (by omega) (by rw [show r_3 = M.getD i 0 by rw [hr_3]; exact rAt_nI hlt hMl, rPart_step Lc M hlt (lt_clamp (by omega) c_1), hG]) huu_4 hP hD hS (lv_sub hl [0, 1, 2, 3, 4] rfl)
  exact loop (M.length + 1) i0 L f _ _ ls (by omega) hi0 rfl hL hP hD hS (lv_sub hl [0, 1, 2, 3, 4] rfl)
set_option maxHeartbeats 4000000 in
set_option maxRecDepth 100000 in
theorem c_X2_become (l : Launch) (dC : Nat → ClassId) (dI : Nat → Nat → Nat) (cI cV : ClassId) (h a : Nat) (L : List Int32) (f : Nat → Int32) (hL : rw_ok L f) (o b : Nat) (M : List Int32) (g : Nat → Int32) (hM : rw_ok M g)  (sz : Nat) : Met l yX2_become (Cond.code yX2_become cX2_become 3 none :: TB) ({ frames := 1, cells := 0, slots := 0, locals := 21 } : Room) (PW [.ref h, .ref o] (dC, dI) [(h, .inr (2, [.ref a, .int (nI L.length)])), (a, .inl (cI, 18, .inl f)), (o, .inr (2, [.ref b, .int (nI M.length)])), (b, .inl (cI, 18, .inl g))] (TY cI cV) sz) (va_Qv (fun u => rw_ok M u) (QB (dC, dI) (fun u => [(h, .inr (2, [.ref a, .int (nI M.length)])), (a, .inl (cI, 18, .inl u)), (o, .inr (2, [.ref b, .int (nI M.length)])), (b, .inl (cI, 18, .inl g))]) (TY cI cV) (va_A [(h, .inr (2, [.ref a, .int (nI L.length)])), (a, .inl (cI, 18, .inl f)), (o, .inr (2, [.ref b, .int (nI M.length)])), (b, .inl (cI, 18, .inl g))] sz)) (va_A [(h, .inr (2, [.ref a, .int (nI L.length)])), (a, .inl (cI, 18, .inl f)), (o, .inr (2, [.ref b, .int (nI M.length)])), (b, .inl (cI, 18, .inl g))] sz)) 0 0 (va_A [(h, .inr (2, [.ref a, .int (nI L.length)])), (a, .inl (cI, 18, .inl f)), (o, .inr (2, [.ref b, .int (nI M.length)])), (b, .inl (cI, 18, .inl g))] sz) := by
  refine Met.ofW (cc := cX2_become) (maxL := 3) (ret := none) (by decide) rfl ?_
  intro p e s m args below meth c s₁ B hml hv
  obtain ⟨rfl, hsz, hP, hK, hD0, hN⟩ := hv
  have hx := B.exec
  have hb := B.bytes
  have hr := B.returns
  have hts := atoms_spec (ws := (Cond.code yX2_become cX2_become 3 none :: TB)) B.pre
  have hown : s.vm.findClass RX2 = some m.cls := findClass_of_methodNamed B.named
  have hlocks := B.notSynchronized
  subst hsz
  have hD := hD0.self (sz := s.heap.size)
  generalize hAe : va_A [(h, .inr (2, [.ref a, .int (nI L.length)])), (a, .inl (cI, 18, .inl f)), (o, .inr (2, [.ref b, .int (nI M.length)])), (b, .inl (cI, 18, .inl g))] s.heap.size = A at hD ⊢
  have hA : ∀ q : Nat, s.heap.size ≤ q → A q := fun q h => by rw [← hAe]; exact Or.inr h
  have hS : va_S A s.heap s.heap [] := va_S.rf
  have hl := lv_entry ([.ref h, .ref o]) (n := 3) (Nat.le_of_ble_eq_true rfl)
  rw [lg_entry_eq]
  generalize (lg_sl ([.ref h, .ref o]) ++ List.replicate (3 - (lg_sl ([.ref h, .ref o])).length) Slot.unset).toArray = ls at hl ⊢
  have hl : lv_has ls 3 [(0, .ref h), (1, .ref o)] := hl
  have hMl := hM.1
  refine lv_aload_n hx hb dX2_become_0 rfl (lv_at hl 0 rfl) ?_
  refine lv_iconst (v := nI ([] : List Int32).length) hx hb dX2_become_1 rfl ?_
  refine va_put (D := (dC, dI)) (ci := 2) (v := .int (nI ([] : List Int32).length)) (ty := .int) (C := RX2) (T := TX2) (N := 2) hx hb hts (fun w h => tb_in (inX2 w h)) tyX2 tyX2_ok nmX2 hown hK hP hD hS 0 rfl rfl 1 (by decide) (hts _ (tb_in q_fl_X2_15)) (fun _ h9 => h9) rfl (by decide +kernel) rfl rfl (Nat.le_of_ble_eq_true rfl) dX2_become_2 (fun H locs hP hD hS => ?_)
  have hP : va_P (dC, dI) cls [(h, .inr (2, [.ref a, .int (nI ([] : List Int32).length)])), (a, .inl (cI, 18, .inl f)), (o, .inr (2, [.ref b, .int (nI M.length)])), (b, .inl (cI, 18, .inl g))] H := hP
  have hD : va_D A [(h, .inr (2, [.ref a, .int (nI ([] : List Int32).length)])), (a, .inl (cI, 18, .inl f)), (o, .inr (2, [.ref b, .int (nI M.length)])), (b, .inl (cI, 18, .inl g))] := hD
  refine lv_iconst (v := nI 0) hx hb dX2_become_5 rfl ?_
  refine lv_istore_n (lv' := [(2, .int (nI 0)), (0, .ref h), (1, .ref o)]) hx hb dX2_become_6 rfl hl (by decide) rfl (fun ls hl => ?_)
  have loop : ∀ (k : Nat) (i : Nat) (fc : Nat → Int32) (H : Heap) (locs : List Loc) (ls : Array Slot), M.length + 1 ≤ i + k → i ≤ M.length → rw_ok (M.take i) fc → va_P (dC, dI) cls [(h, .inr (2, [.ref a, .int (nI ((M.take i)).length)])), (a, .inl (cI, 18, .inl fc)), (o, .inr (2, [.ref b, .int (nI M.length)])), (b, .inl (cI, 18, .inl g))] H → va_D A [(h, .inr (2, [.ref a, .int (nI ((M.take i)).length)])), (a, .inl (cI, 18, .inl fc)), (o, .inr (2, [.ref b, .int (nI M.length)])), (b, .inl (cI, 18, .inl g))] → va_S A s.heap H locs → lv_has ls 3 [(2, .int (nI i)), (0, .ref h), (1, .ref o)] → W p l e (headSpec (Cond.code yX2_become cX2_become 3 none :: TB) ({ frames := 1, cells := 0, slots := 0, locals := 21 } : Room)).room s m ([.ref h, .ref o] : List Value).toArray below meth c H locs 0 0 (MQ below (va_Qv (fun u => rw_ok M u) (QB (dC, dI) (fun u => [(h, .inr (2, [.ref a, .int (nI M.length)])), (a, .inl (cI, 18, .inl u)), (o, .inr (2, [.ref b, .int (nI M.length)])), (b, .inl (cI, 18, .inl g))]) (TY cI cV) A) A) ([.ref h, .ref o] : List Value).toArray s 0 0 A) (F0 m 7 ls []) := by
    intro k
    induction k with
    | zero =>
      intro i fc H locs ls hk hi hLc hP hD hS hl
      exact absurd hk (by omega)
    | succ k ih =>
      intro i fc H locs ls hk hi hLc hP hD hS hl
      refine lv_iload_n hx hb dX2_become_7 rfl (lv_at hl 0 rfl) ?_
      refine lv_aload_n hx hb dX2_become_8 rfl (lv_at hl 2 rfl) ?_
      refine va_get (D := (dC, dI)) (ci := 2) (v := .int (nI M.length)) (C := RX2) (T := TX2) (N := 2) hx hb hts (fun w h => tb_in (inX2 w h)) hown hK hP 2 rfl rfl 1 (by decide) (hts _ (tb_in q_fl_X2_15)) (fun _ h9 => h9) rfl dX2_become_9 ?_
      refine lv_icmp_ge (tgt := 31) hx hb dX2_become_12 (by decide) (fun c_1 => ?_) (fun c_1 => ?_)
      · have e9 : M.take i = M := List.take_of_length_le ((nI_leI (by omega) (by omega)).mp c_1)
        have hP : va_P (dC, dI) cls [(h, .inr (2, [.ref a, .int (nI M.length)])), (a, .inl (cI, 18, .inl fc)), (o, .inr (2, [.ref b, .int (nI M.length)])), (b, .inl (cI, 18, .inl g))] H := by rw [e9] at hP; exact hP
        have hD : va_D A [(h, .inr (2, [.ref a, .int (nI M.length)])), (a, .inl (cI, 18, .inl fc)), (o, .inr (2, [.ref b, .int (nI M.length)])), (b, .inl (cI, 18, .inl g))] := by rw [e9] at hD; exact hD
        have hP9 := hP
        have hD9 := hD
        exact W.vret hx hb hr (fun t9 ht9 hW9 => ⟨⟨fc, rfl, by rw [← e9]; exact hLc, by rw [ht9]; exact hP9, va_K.moved hW9.alike hK, hD9⟩, hS.F ht9⟩) hS.2.2 dX2_become_31
      · have hlt : i < M.length := by
          rcases Nat.lt_or_ge i M.length with q | q
          · exact q
          · exact absurd ((nI_leI (by omega) (by omega)).mpr q) c_1
        refine lv_aload_n hx hb dX2_become_15 rfl (lv_at hl 1 rfl) ?_
        refine lv_aload_n hx hb dX2_become_16 rfl (lv_at hl 2 rfl) ?_
        refine va_get (D := (dC, dI)) (ci := 2) (v := .ref b) (C := RX2) (T := TX2) (N := 2) hx hb hts (fun w h => tb_in (inX2 w h)) hown hK hP 2 rfl rfl 0 (by decide) (hts _ (tb_in q_fl_X2_9)) (fun _ h9 => h9) rfl dX2_become_17 ?_
        refine lv_iload_n hx hb dX2_become_20 rfl (lv_at hl 0 rfl) ?_
        refine va_iald (D := (dC, dI)) hx hb hK hP 3 0 rfl rfl (n := 18) (vp_in_nI (by omega) (by omega)) dX2_become_21 ?_
        refine k_Vv (ci := 2) (q0 := 0) (wc := [(h, .inr (2, [.ref a, .int (nI ((M.take i)).length)])), (a, .inl (cI, 18, .inl fc))]) (wr := [(o, .inr (2, [.ref b, .int (nI M.length)])), (b, .inl (cI, 18, .inl g))]) [.int (g (nI i).toNatClampNeg)] [0, 1] [2, 3] ⟨hx, hb, hml, hown, hts⟩ (fun sz => c_X2_add l dC dI cI cV h a ((M.take i)) fc hLc (g (nI i).toNatClampNeg) sz) q_ml_X2_36 q_im_X2_add q_se_X2_add q_ini_X2 q_co_X2_add (n := 1) (by decide +kernel) rfl ⟨rfl, rfl⟩ ⟨Nat.le_of_ble_eq_true rfl, Nat.le_of_ble_eq_true rfl⟩ hP hD hS hA hK hN rfl rfl (by decide) (by decide) (by decide) rfl rfl rfl hl.1 rfl (Nat.le_of_ble_eq_true rfl) dX2_become_22 ⟨Nat.le_of_ble_eq_true rfl, Nat.le_of_ble_eq_true rfl⟩ (fun u_2 H locs huu_2 hP hD hS => ?_)
        have hP := hP.sub (ws' := [(h, .inr (2, [.ref a, .int (nI ((((M.take i) ++ [g (nI i).toNatClampNeg]).take 18)).length)])), (a, .inl (cI, 18, .inl u_2)), (o, .inr (2, [.ref b, .int (nI M.length)])), (b, .inl (cI, 18, .inl g))]) [2, 3, 0, 1] rfl
        have hD := hD.sub (ws' := [(h, .inr (2, [.ref a, .int (nI ((((M.take i) ++ [g (nI i).toNatClampNeg]).take 18)).length)])), (a, .inl (cI, 18, .inl u_2)), (o, .inr (2, [.ref b, .int (nI M.length)])), (b, .inl (cI, 18, .inl g))]) [2, 3, 0, 1] (by decide) rfl
        refine lv_iinc (v := nI (i + 1)) (lv' := [(2, .int (nI (i + 1))), (0, .ref h), (1, .ref o)]) hx hb dX2_become_25 hl (k := 0) rfl (nI_1 _) (by decide) rfl (fun ls hl => ?_)
        refine lv_goto (tgt := 7) hx hb dX2_become_28 (by decide) ?_
        have e9 : ((M.take i ++ [g (nI i).toNatClampNeg]).take 18) = M.take (i + 1) := by rw [nI_clamp (by omega), hM.2 i hlt]; exact rTake_succ hlt hMl
        rw [e9] at hP hD huu_2
        exact ih (i + 1) u_2 H locs ls (by omega) (by omega) huu_2 hP hD hS (lv_sub hl [0, 1, 2] rfl)
  exact loop (M.length + 1) 0 f _ _ ls (by omega) (by omega) (rw_nil f) hP hD hS (lv_sub hl [0, 1, 2] rfl)
set_option maxHeartbeats 4000000 in
set_option maxRecDepth 100000 in
theorem c_X2_becomeWithout (l : Launch) (dC : Nat → ClassId) (dI : Nat → Nat → Nat) (cI cV : ClassId) (h a : Nat) (L : List Int32) (f : Nat → Int32) (hL : rw_ok L f) (o b : Nat) (M : List Int32) (g : Nat → Int32) (hM : rw_ok M g) (j : Int32) (sz : Nat) : Met l yX2_becomeWithout (Cond.code yX2_becomeWithout cX2_becomeWithout 4 none :: TB) ({ frames := 1, cells := 0, slots := 0, locals := 21 } : Room) (PW [.ref h, .ref o, .int j] (dC, dI) [(h, .inr (2, [.ref a, .int (nI L.length)])), (a, .inl (cI, 18, .inl f)), (o, .inr (2, [.ref b, .int (nI M.length)])), (b, .inl (cI, 18, .inl g))] (TY cI cV) sz) (va_Qv (fun u => rw_ok (rWithout M j) u) (QB (dC, dI) (fun u => [(h, .inr (2, [.ref a, .int (nI ((rWithout M j)).length)])), (a, .inl (cI, 18, .inl u)), (o, .inr (2, [.ref b, .int (nI M.length)])), (b, .inl (cI, 18, .inl g))]) (TY cI cV) (va_A [(h, .inr (2, [.ref a, .int (nI L.length)])), (a, .inl (cI, 18, .inl f)), (o, .inr (2, [.ref b, .int (nI M.length)])), (b, .inl (cI, 18, .inl g))] sz)) (va_A [(h, .inr (2, [.ref a, .int (nI L.length)])), (a, .inl (cI, 18, .inl f)), (o, .inr (2, [.ref b, .int (nI M.length)])), (b, .inl (cI, 18, .inl g))] sz)) 0 0 (va_A [(h, .inr (2, [.ref a, .int (nI L.length)])), (a, .inl (cI, 18, .inl f)), (o, .inr (2, [.ref b, .int (nI M.length)])), (b, .inl (cI, 18, .inl g))] sz) := by
  refine Met.ofW (cc := cX2_becomeWithout) (maxL := 4) (ret := none) (by decide) rfl ?_
  intro p e s m args below meth c s₁ B hml hv
  obtain ⟨rfl, hsz, hP, hK, hD0, hN⟩ := hv
  have hx := B.exec
  have hb := B.bytes
  have hr := B.returns
  have hts := atoms_spec (ws := (Cond.code yX2_becomeWithout cX2_becomeWithout 4 none :: TB)) B.pre
  have hown : s.vm.findClass RX2 = some m.cls := findClass_of_methodNamed B.named
  have hlocks := B.notSynchronized
  subst hsz
  have hD := hD0.self (sz := s.heap.size)
  generalize hAe : va_A [(h, .inr (2, [.ref a, .int (nI L.length)])), (a, .inl (cI, 18, .inl f)), (o, .inr (2, [.ref b, .int (nI M.length)])), (b, .inl (cI, 18, .inl g))] s.heap.size = A at hD ⊢
  have hA : ∀ q : Nat, s.heap.size ≤ q → A q := fun q h => by rw [← hAe]; exact Or.inr h
  have hS : va_S A s.heap s.heap [] := va_S.rf
  have hl := lv_entry ([.ref h, .ref o, .int j]) (n := 4) (Nat.le_of_ble_eq_true rfl)
  rw [lg_entry_eq]
  generalize (lg_sl ([.ref h, .ref o, .int j]) ++ List.replicate (4 - (lg_sl ([.ref h, .ref o, .int j])).length) Slot.unset).toArray = ls at hl ⊢
  have hl : lv_has ls 4 [(0, .ref h), (1, .ref o), (2, .int j)] := hl
  have hMl := hM.1
  refine lv_aload_n hx hb dX2_becomeWithout_0 rfl (lv_at hl 0 rfl) ?_
  refine lv_iconst (v := nI (rWithout (M.take 0) j).length) hx hb dX2_becomeWithout_1 rfl ?_
  refine va_put (D := (dC, dI)) (ci := 2) (v := .int (nI (rWithout (M.take 0) j).length)) (ty := .int) (C := RX2) (T := TX2) (N := 2) hx hb hts (fun w h => tb_in (inX2 w h)) tyX2 tyX2_ok nmX2 hown hK hP hD hS 0 rfl rfl 1 (by decide) (hts _ (tb_in q_fl_X2_15)) (fun _ h9 => h9) rfl (by decide +kernel) rfl rfl (Nat.le_of_ble_eq_true rfl) dX2_becomeWithout_2 (fun H locs hP hD hS => ?_)
  have hP : va_P (dC, dI) cls [(h, .inr (2, [.ref a, .int (nI (rWithout (M.take 0) j).length)])), (a, .inl (cI, 18, .inl f)), (o, .inr (2, [.ref b, .int (nI M.length)])), (b, .inl (cI, 18, .inl g))] H := hP
  have hD : va_D A [(h, .inr (2, [.ref a, .int (nI (rWithout (M.take 0) j).length)])), (a, .inl (cI, 18, .inl f)), (o, .inr (2, [.ref b, .int (nI M.length)])), (b, .inl (cI, 18, .inl g))] := hD
  refine lv_iconst (v := nI 0) hx hb dX2_becomeWithout_5 rfl ?_
  refine lv_istore_n (lv' := [(3, .int (nI 0)), (0, .ref h), (1, .ref o), (2, .int j)]) hx hb dX2_becomeWithout_6 rfl hl (by decide) rfl (fun ls hl => ?_)
  have loop : ∀ (k : Nat) (i : Nat) (fc : Nat → Int32) (H : Heap) (locs : List Loc) (ls : Array Slot), M.length + 1 ≤ i + k → i ≤ M.length → rw_ok (rWithout (M.take i) j) fc → va_P (dC, dI) cls [(h, .inr (2, [.ref a, .int (nI ((rWithout (M.take i) j)).length)])), (a, .inl (cI, 18, .inl fc)), (o, .inr (2, [.ref b, .int (nI M.length)])), (b, .inl (cI, 18, .inl g))] H → va_D A [(h, .inr (2, [.ref a, .int (nI ((rWithout (M.take i) j)).length)])), (a, .inl (cI, 18, .inl fc)), (o, .inr (2, [.ref b, .int (nI M.length)])), (b, .inl (cI, 18, .inl g))] → va_S A s.heap H locs → lv_has ls 4 [(3, .int (nI i)), (0, .ref h), (1, .ref o), (2, .int j)] → W p l e (headSpec (Cond.code yX2_becomeWithout cX2_becomeWithout 4 none :: TB) ({ frames := 1, cells := 0, slots := 0, locals := 21 } : Room)).room s m ([.ref h, .ref o, .int j] : List Value).toArray below meth c H locs 0 0 (MQ below (va_Qv (fun u => rw_ok (rWithout M j) u) (QB (dC, dI) (fun u => [(h, .inr (2, [.ref a, .int (nI ((rWithout M j)).length)])), (a, .inl (cI, 18, .inl u)), (o, .inr (2, [.ref b, .int (nI M.length)])), (b, .inl (cI, 18, .inl g))]) (TY cI cV) A) A) ([.ref h, .ref o, .int j] : List Value).toArray s 0 0 A) (F0 m 7 ls []) := by
    intro k
    induction k with
    | zero =>
      intro i fc H locs ls hk hi hLc hP hD hS hl
      exact absurd hk (by omega)
    | succ k ih =>
      intro i fc H locs ls hk hi hLc hP hD hS hl
      refine lv_iload_n hx hb dX2_becomeWithout_7 rfl (lv_at hl 0 rfl) ?_
      refine lv_aload_n hx hb dX2_becomeWithout_8 rfl (lv_at hl 2 rfl) ?_
      refine va_get (D := (dC, dI)) (ci := 2) (v := .int (nI M.length)) (C := RX2) (T := TX2) (N := 2) hx hb hts (fun w h => tb_in (inX2 w h)) hown hK hP 2 rfl rfl 1 (by decide) (hts _ (tb_in q_fl_X2_15)) (fun _ h9 => h9) rfl dX2_becomeWithout_9 ?_
      refine lv_icmp_ge (tgt := 42) hx hb dX2_becomeWithout_12 (by decide) (fun c_1 => ?_) (fun c_1 => ?_)
      · have e9 : M.take i = M := List.take_of_length_le ((nI_leI (by omega) (by omega)).mp c_1)
        have hP : va_P (dC, dI) cls [(h, .inr (2, [.ref a, .int (nI ((rWithout M j)).length)])), (a, .inl (cI, 18, .inl fc)), (o, .inr (2, [.ref b, .int (nI M.length)])), (b, .inl (cI, 18, .inl g))] H := by rw [e9] at hP; exact hP
        have hD : va_D A [(h, .inr (2, [.ref a, .int (nI ((rWithout M j)).length)])), (a, .inl (cI, 18, .inl fc)), (o, .inr (2, [.ref b, .int (nI M.length)])), (b, .inl (cI, 18, .inl g))] := by rw [e9] at hD; exact hD
        have hP9 := hP
        have hD9 := hD
        exact W.vret hx hb hr (fun t9 ht9 hW9 => ⟨⟨fc, rfl, by rw [← e9]; exact hLc, by rw [ht9]; exact hP9, va_K.moved hW9.alike hK, hD9⟩, hS.F ht9⟩) hS.2.2 dX2_becomeWithout_42
      · have hlt : i < M.length := by
          rcases Nat.lt_or_ge i M.length with q | q
          · exact q
          · exact absurd ((nI_leI (by omega) (by omega)).mpr q) c_1
        refine lv_aload_n hx hb dX2_becomeWithout_15 rfl (lv_at hl 2 rfl) ?_
        refine lv_iload_n hx hb dX2_becomeWithout_16 rfl (lv_at hl 0 rfl) ?_
        refine k_Vi (ci := 2) (q0 := 0) [.int (nI i)] ⟨hx, hb, hml, hown, hts⟩ (c_X2_at l dC dI cI cV o b M g hM (nI i)) q_ml_X2_19 q_im_X2_at q_se_X2_at q_ini_X2 q_co_X2_at (n := 1) (by decide +kernel) rfl ⟨rfl, rfl⟩ ⟨Nat.le_of_ble_eq_true rfl, Nat.le_of_ble_eq_true rfl⟩ (hP.sub [2, 3] rfl) hK hN rfl rfl rfl hl.1 rfl (Nat.le_of_ble_eq_true rfl) dX2_becomeWithout_17 ⟨Nat.le_of_ble_eq_true rfl, Nat.le_of_ble_eq_true rfl⟩ (fun r_2 hr_2 => ?_)
        refine k_Ni [.int r_2] ⟨hx, hb, hml, hown, hts⟩ (c_X5_jobOf l r_2) (q_mn_X2_23 hN) q_st_X5_jobOf q_ini_X5 q_co_X5_jobOf (n := 1) (by decide +kernel) rfl ⟨rfl, rfl⟩ ⟨Nat.le_of_ble_eq_true rfl, Nat.le_of_ble_eq_true rfl⟩ hl.1 rfl (Nat.le_of_ble_eq_true rfl) dX2_becomeWithout_20 ⟨Nat.le_of_ble_eq_true rfl, Nat.le_of_ble_eq_true rfl⟩ (fun r_3 hr_3 => ?_)
        refine lv_iload_n hx hb dX2_becomeWithout_23 rfl (lv_at hl 3 rfl) ?_
        refine lv_icmp_eq (tgt := 36) hx hb dX2_becomeWithout_24 (by decide) (fun c_4 => ?_) (fun c_4 => ?_)
        · refine lv_iinc (v := nI (i + 1)) (lv' := [(3, .int (nI (i + 1))), (0, .ref h), (1, .ref o), (2, .int j)]) hx hb dX2_becomeWithout_36 hl (k := 0) rfl (nI_1 _) (by decide) rfl (fun ls hl => ?_)
          refine lv_goto (tgt := 7) hx hb dX2_becomeWithout_39 (by decide) ?_
          have e9 : rWithout (M.take i) j = rWithout (M.take (i + 1)) j := (rWithout_out hlt (by rw [← rAt_nI hlt hMl, ← hr_2, ← hr_3]; exact c_4)).symm
          rw [e9] at hP hD hLc
          exact ih (i + 1) fc H locs ls (by omega) (by omega) hLc hP hD hS (lv_sub hl [0, 1, 2, 3] rfl)
        · refine lv_aload_n hx hb dX2_becomeWithout_27 rfl (lv_at hl 1 rfl) ?_
          refine lv_aload_n hx hb dX2_becomeWithout_28 rfl (lv_at hl 2 rfl) ?_
          refine lv_iload_n hx hb dX2_becomeWithout_29 rfl (lv_at hl 0 rfl) ?_
          refine k_Vi (ci := 2) (q0 := 0) [.int (nI i)] ⟨hx, hb, hml, hown, hts⟩ (c_X2_at l dC dI cI cV o b M g hM (nI i)) q_ml_X2_19 q_im_X2_at q_se_X2_at q_ini_X2 q_co_X2_at (n := 1) (by decide +kernel) rfl ⟨rfl, rfl⟩ ⟨Nat.le_of_ble_eq_true rfl, Nat.le_of_ble_eq_true rfl⟩ (hP.sub [2, 3] rfl) hK hN rfl rfl rfl hl.1 rfl (Nat.le_of_ble_eq_true rfl) dX2_becomeWithout_30 ⟨Nat.le_of_ble_eq_true rfl, Nat.le_of_ble_eq_true rfl⟩ (fun r_5 hr_5 => ?_)
          refine k_Vv (ci := 2) (q0 := 0) (wc := [(h, .inr (2, [.ref a, .int (nI ((rWithout (M.take i) j)).length)])), (a, .inl (cI, 18, .inl fc))]) (wr := [(o, .inr (2, [.ref b, .int (nI M.length)])), (b, .inl (cI, 18, .inl g))]) [.int r_5] [0, 1] [2, 3] ⟨hx, hb, hml, hown, hts⟩ (fun sz => c_X2_add l dC dI cI cV h a ((rWithout (M.take i) j)) fc hLc r_5 sz) q_ml_X2_36 q_im_X2_add q_se_X2_add q_ini_X2 q_co_X2_add (n := 1) (by decide +kernel) rfl ⟨rfl, rfl⟩ ⟨Nat.le_of_ble_eq_true rfl, Nat.le_of_ble_eq_true rfl⟩ hP hD hS hA hK hN rfl rfl (by decide) (by decide) (by decide) rfl rfl rfl hl.1 rfl (Nat.le_of_ble_eq_true rfl) dX2_becomeWithout_33 ⟨Nat.le_of_ble_eq_true rfl, Nat.le_of_ble_eq_true rfl⟩ (fun u_6 H locs huu_6 hP hD hS => ?_)
          have hP := hP.sub (ws' := [(h, .inr (2, [.ref a, .int (nI ((((rWithout (M.take i) j) ++ [r_5]).take 18)).length)])), (a, .inl (cI, 18, .inl u_6)), (o, .inr (2, [.ref b, .int (nI M.length)])), (b, .inl (cI, 18, .inl g))]) [2, 3, 0, 1] rfl
          have hD := hD.sub (ws' := [(h, .inr (2, [.ref a, .int (nI ((((rWithout (M.take i) j) ++ [r_5]).take 18)).length)])), (a, .inl (cI, 18, .inl u_6)), (o, .inr (2, [.ref b, .int (nI M.length)])), (b, .inl (cI, 18, .inl g))]) [2, 3, 0, 1] (by decide) rfl
          refine lv_iinc (v := nI (i + 1)) (lv' := [(3, .int (nI (i + 1))), (0, .ref h), (1, .ref o), (2, .int j)]) hx hb dX2_becomeWithout_36 hl (k := 0) rfl (nI_1 _) (by decide) rfl (fun ls hl => ?_)
          refine lv_goto (tgt := 7) hx hb dX2_becomeWithout_39 (by decide) ?_
          have e9 : ((rWithout (M.take i) j ++ [r_5]).take 18) = rWithout (M.take (i + 1)) j := by rw [hr_5, rAt_nI hlt hMl]; exact rWithout_in hlt hMl (by rw [← rAt_nI hlt hMl, ← hr_2, ← hr_3]; exact c_4)
          rw [e9] at hP hD huu_6
          exact ih (i + 1) u_6 H locs ls (by omega) (by omega) huu_6 hP hD hS (lv_sub hl [0, 1, 2, 3] rfl)
  exact loop (M.length + 1) 0 f _ _ ls (by omega) (by omega) (rw_nil f) hP hD hS (lv_sub hl [0, 1, 2, 3] rfl)
