theorem cz0 {b : Bool} (h : b01 b = 0) : b = false := b01_0.mp h
theorem cz1 {b : Bool} (h : ¬ b01 b = 0) : b = true := by cases b <;> simp_all [b01]
theorem z_ge {x : Int32} (h : ¬ x < 0) : 0 ≤ x := Int32.not_lt.mp h
theorem va_P_nil {D : va_G} {cl : List vw_C} {H : Heap} : va_P D cl [] H := fun k q hk => by simp at hk
theorem va_D_nil {A : Nat → Prop} : va_D A [] := ⟨fun i j p q h => by simp at h, fun k q h => by simp at h⟩
theorem tb_goodW {c d : Cond} {own : String} {idx : Nat} {y : MethodName} (h1 : Cond.methodLink own idx y ∈ TB) (h2 : Cond.static y ∈ TB) (h4 : Cond.initialized y.cls ∈ TB) (hd : d ∈ TB) : GoodIn (c :: TB) (va_wsS own idx y (d :: TB)) := fun w hw => by
  have k : ∀ z, z ∈ TB → z ∈ c :: TB ∧ ((z.onTables && z.keeps) = true ∨ ∃ ty, z = .arrayClass ty) := fun z hz => ⟨List.mem_cons_of_mem _ hz, good_of_word (List.mem_filter.mp hz).2⟩
  unfold va_wsS at hw
  rcases List.mem_append.mp hw with h | h
  · rcases List.mem_cons.mp h with rfl | h
    · exact k _ h1
    rcases List.mem_cons.mp h with rfl | h
    · exact k _ h2
    rcases List.mem_cons.mp h with rfl | h
    · exact k _ h4
    cases h
  · exact tb_good hd w h
/-- which throws a handler lets by: words of the Statement's own start -/
def CW (U : State) : Prop := va_Nc "java/lang/IllegalArgumentException" "java/lang/IndexOutOfBoundsException" U ∧ va_Nc "java/lang/IllegalStateException" "java/lang/IndexOutOfBoundsException" U ∧ va_Nc "java/lang/IllegalStateException" "java/lang/IllegalArgumentException" U
theorem CW.moved {u U : State} (hvm : u.vm.Alike U.vm) (h : CW u) : CW U := ⟨h.1.moved hvm, h.2.1.moved hvm, h.2.2.moved hvm⟩
/-- what a method of the law asks that catches -/
abbrev PXc (av : List Value) (D : va_G) (ws : va_W) (tys : List (ClassId × FieldType)) (sz : Nat) : Array Value → State → Prop := va_Pc av (fun U => U.heap.size = sz ∧ va_P D cls ws U.heap ∧ va_K D cls tys U ∧ va_D (fun _ => True) ws ∧ NW U ∧ XW U ∧ ZX (va_A ws sz) U U.heap ∧ CW U)
theorem PXc_blind {av : List Value} {D : va_G} {ws : va_W} {tys : List (ClassId × FieldType)} {sz : Nat} : FrameBlind (PXc av D ws tys sz) := fun a U g mk q => by
  obtain ⟨q0, q1, qP, qK, qD, qN, qX, qZ, qC⟩ := q
  exact ⟨q0, q1, qP, va_K.moved (u := U) (U := U.calling g mk a) (Vm.Alike.refl U.vm) qK, qD, NW.same (s := U) rfl qN, XW.same (s := U) rfl qX, ZX.moved (u := U) (U := U.calling g mk a) (Vm.Alike.refl U.vm) qZ, CW.moved (u := U) (U := U.calling g mk a) (Vm.Alike.refl U.vm) qC⟩
section XCalls
variable {p : Program} {l : Launch} {e : Env} {R : Room} {s : State} {m : MethodId} {args : Array Value} {below : List Frame} {meth : Method} {c : Code} {H : Heap} {locs : List Loc} {cells slots : Nat} {Q : State → Prop}
variable {y : MethodName} {bytes cc : ByteArray} {maxL nL n index : Nat} {rt : FieldType} {rm : Room} {c0 : Cond} {own C : String} {b : Addr} {As rest st0 : List Value} {pc : Nat} {ls : Array Slot} {D : va_G} {tys tc : List (ClassId × FieldType)} {A0 : Nat → Prop} {mc ms : Nat}
/-- a call of an instance method that writes, answers an int, and may throw; with its cells behind it on both roads -/
theorem x_Vw {U9 U8 : Type} {post : Int32 → U9 → Prop} {px : String × U8 → Prop} {ws wc wr : va_W} {w1 : U9 → va_W} {wx : U8 → va_W} {ci q0 : Nat} {qq : vw_C} {fs : List Value} (As : List Value) (isC isR : List Nat) (S : CallFix p m c cc nL s args (c0 :: TB) own)
    (hM : ∀ sz : Nat, vx_Met l y (Cond.code y bytes maxL (some rt) :: TB) rm (PXw (.ref b :: As) D wc tc sz) (va_Qi post (QB D w1 tc (va_A wc sz)) (va_A wc sz)) (vx_X px (fun E (u : String × U8) t8 => E = u.1 ∧ QB D wx tc (va_A wc sz) u.2 t8) (va_A wc sz)) mc ms (va_A wc sz))
    (h1 : Cond.methodLink own index y ∈ TB) (h2 : Cond.instanceMethod y ∈ TB) (h3 : Cond.selects C y y ∈ TB) (h4 : Cond.initialized C ∈ TB) (h5 : Cond.code y bytes maxL (some rt) ∈ TB)
    (hd : y.cls = C ∧ y.cls ≠ "java/lang/invoke/MethodHandle" ∧ y.cls ≠ "java/lang/invoke/VarHandle" ∧ (parseMethodDescriptor y.desc).map (fun d => d.parameters.length) = some n) (hn : As.length = n)
    (hrm : rm.cells = mc ∧ rm.slots = ms) (hR : rm.frames + 1 ≤ R.frames ∧ 8 + (maxL + 11) + rm.locals ≤ R.locals)
    (hP : va_P D cls ws H) (hD : va_D A0 ws) (hS : va_S A0 s.heap H locs) (hA : ∀ q, s.heap.size ≤ q → A0 q) (hK : va_K D cls tc s) (hN : NW s) (hX : XW s) (hZ : ZX A0 s s.heap)
    (hsC : isC.map (fun i => ws[i]?) = wc.map some) (hsR : isR.map (fun i => ws[i]?) = wr.map some) (hnC : va_nd isC = true) (hnR : va_nd isR = true) (hdis : ∀ i ∈ isR, i ∉ isC)
    (he : wc[q0]? = some (b, .inr (ci, fs))) (hc : cls[ci]? = some qq) (hC : qq.1 = C) (hsz : ls.size = nL) (hst : st0 = As.reverse ++ .ref b :: rest) (hcat : (rest.map fun v => v.category).sum ≤ 8)
    (hdg : decode cc pc = .ok (.invokevirtual index, 3)) (hf : cells + mc ≤ R.cells ∧ slots + ms ≤ R.slots)
    (kx : ∀ (E : String) (ce : Cell) (q9 : Addr) (u : U8) (H1 : Heap) (locs1 : List Loc), px (E, u) → va_P D cls (wr ++ wx u) H1 → va_D A0 (wr ++ wx u) → va_S A0 s.heap H1 locs1 → H1[q9]? = some ce → ce.vm = .none → s.vm.findClass E = some ce.cls → vx_W p l e R s m args below meth c H1 locs1 (cells + mc) (slots + ms) Q (F0 m pc ls rest) q9)
    (kk : ∀ (r : Int32) (u : U9) (H1 : Heap) (locs1 : List Loc), post r u → va_P D cls (wr ++ w1 u) H1 → va_D A0 (wr ++ w1 u) → va_S A0 s.heap H1 locs1 → W p l e R s m args below meth c H1 locs1 (cells + mc) (slots + ms) Q (F0 m (pc + 3) ls (.int r :: rest))) : W p l e R s m args below meth c H locs cells slots Q (F0 m pc ls st0) := by
  subst hC
  have hPc : va_P D cls wc H := hP.by (fun k => (isC[k]?).getD 0) (fun k q hk => by
    have h9 : (isC.map (fun i => ws[i]?))[k]? = some (some q) := by rw [hsC, List.getElem?_map, hk]; rfl
    rw [List.getElem?_map] at h9
    cases hi : isC[k]? with
    | none => rw [hi] at h9; cases h9
    | some i => rw [hi] at h9; exact Option.some.inj h9)
  have hDc : va_D A0 wc := hD.sub isC hnC hsC
  have hFc := va_free hD hS hA isC hsC
  have hZH : ZX (va_A wc H.size) s H := (hZ.kept hS.2.1).narrow (fun q h => hFc q h)
  refine vx_calli (vx_runV (As := As) (rest := rest) S (hM H.size) (cwV n S.2.2.2.2 (tb_goodV h1 h2 h3 h4 h5) rfl hrm.1 hrm.2 hd hR) ⟨PXw_blind, va_recv hK hPc hc he, fun U hU hW => ⟨rfl, by rw [hU], by rw [hU]; exact hPc, va_K.moved hW.alike hK, hDc.weaken (fun _ _ _ _ => trivial), hN.warm hW, hX.warm hW, by rw [hU]; exact hZH.moved hW.alike⟩⟩ rfl hn hsz hst (lv_room hcat) hdg hf) hS (fun q _ h => hFc q h) hFc (fun q _ h => hFc q h) (fun E ce q9 u t H1 locs1 ht hvm hp hB hz1 hk1 hS1 hc1 hc2 hc3 => ?_) (fun r u t H1 locs1 ht hvm hw hB hz1 hk1 hS1 => ?_)
  · obtain ⟨rfl, hP1, -, hD1⟩ := hB
    rw [ht] at hP1
    obtain ⟨hP2, hD2⟩ := va_join hP hD isC isR hsC hsR hnR hdis hk1 hFc hP1 hD1
    exact kx u.1 ce q9 u.2 H1 locs1 hp hP2 hD2 hS1 hc1 hc2 hc3
  · obtain ⟨hP1, -, hD1⟩ := hB
    rw [ht] at hP1
    obtain ⟨hP2, hD2⟩ := va_join hP hD isC isR hsC hsR hnR hdis hk1 hFc hP1 hD1
    exact kk r u H1 locs1 hw hP2 hD2 hS1
/-- a call of an instance method that reads, answers an int, and may throw -/
theorem x_Vr {px : String → Prop} {U9 : Type} {po : Int32 → U9 → Prop} {ws wc : va_W} {ci q0 : Nat} {qq : vw_C} {fs : List Value} (As : List Value) (is : List Nat) (S : CallFix p m c cc nL s args (c0 :: TB) own)
    (hM : ∀ sz : Nat, vx_Met l y (Cond.code y bytes maxL (some rt) :: TB) rm (PXr (.ref b :: As) D wc tc sz) (va_Qi po (fun _ _ => True) (NA sz)) (vx_X px (fun E u _ => E = u) (NA sz)) mc ms (NA sz))
    (h1 : Cond.methodLink own index y ∈ TB) (h2 : Cond.instanceMethod y ∈ TB) (h3 : Cond.selects C y y ∈ TB) (h4 : Cond.initialized C ∈ TB) (h5 : Cond.code y bytes maxL (some rt) ∈ TB)
    (hd : y.cls = C ∧ y.cls ≠ "java/lang/invoke/MethodHandle" ∧ y.cls ≠ "java/lang/invoke/VarHandle" ∧ (parseMethodDescriptor y.desc).map (fun d => d.parameters.length) = some n) (hn : As.length = n)
    (hrm : rm.cells = mc ∧ rm.slots = ms) (hR : rm.frames + 1 ≤ R.frames ∧ 8 + (maxL + 11) + rm.locals ≤ R.locals)
    (hP : va_P D cls ws H) (hS : va_S A0 s.heap H locs) (hA : ∀ q, s.heap.size ≤ q → A0 q) (hK : va_K D cls tc s) (hN : NW s) (hX : XW s) (hZ : ZX A0 s s.heap)
    (hsC : is.filterMap (fun i => ws[i]?) = wc)
    (he : wc[q0]? = some (b, .inr (ci, fs))) (hc : cls[ci]? = some qq) (hC : qq.1 = C) (hsz : ls.size = nL) (hst : st0 = As.reverse ++ .ref b :: rest) (hcat : (rest.map fun v => v.category).sum ≤ 8)
    (hdg : decode cc pc = .ok (.invokevirtual index, 3)) (hf : cells + mc ≤ R.cells ∧ slots + ms ≤ R.slots)
    (kx : ∀ (E : String) (ce : Cell) (q9 : Addr) (H1 : Heap) (locs1 : List Loc), px E → va_P D cls ws H1 → va_S A0 s.heap H1 locs1 → H1[q9]? = some ce → ce.vm = .none → s.vm.findClass E = some ce.cls → vx_W p l e R s m args below meth c H1 locs1 (cells + mc) (slots + ms) Q (F0 m pc ls rest) q9)
    (kk : ∀ (r : Int32) (u : U9) (H1 : Heap) (locs1 : List Loc), po r u → va_P D cls ws H1 → va_S A0 s.heap H1 locs1 → W p l e R s m args below meth c H1 locs1 (cells + mc) (slots + ms) Q (F0 m (pc + 3) ls (.int r :: rest))) : W p l e R s m args below meth c H locs cells slots Q (F0 m pc ls st0) := by
  subst hC
  have hPc : va_P D cls wc H := hP.sub is hsC
  have hZH : ZX (NA H.size) s H := (hZ.kept hS.2.1).narrow (fun q h => hA q (Nat.le_trans hS.1 h))
  have hfr : ∀ q, NA H.size q → A0 q := fun q h => hA q (Nat.le_trans hS.1 h)
  refine vx_calli (vx_runV (As := As) (rest := rest) S (hM H.size) (cwV n S.2.2.2.2 (tb_goodV h1 h2 h3 h4 h5) rfl hrm.1 hrm.2 hd hR) ⟨PXr_blind, va_recv hK hPc hc he, fun U hU hW => ⟨rfl, by rw [hU], by rw [hU]; exact hPc, va_K.moved hW.alike hK, hN.warm hW, hX.warm hW, by rw [hU]; exact hZH.moved hW.alike⟩⟩ rfl hn hsz hst (lv_room hcat) hdg hf) hS (fun q _ h => hfr q h) hfr (fun q _ h => hfr q h) (fun E ce q9 u t H1 locs1 ht hvm hp hB hz1 hk1 hS1 hc1 hc2 hc3 => ?_) (fun r u t H1 locs1 ht hvm hw hB hz1 hk1 hS1 => ?_)
  · cases hB
    exact kx E ce q9 H1 locs1 hp (k_old hP hk1) hS1 hc1 hc2 hc3
  · exact kk r u H1 locs1 hw (k_old hP hk1) hS1
/-- a call of the law's own method with handlers, which answers an int -/
theorem x_Si {U9 : Type} {post : Int32 → U9 → Prop} {ws wc wr : va_W} {w1 : U9 → va_W} {hh : List (Nat × Nat × Nat × Nat)} (As : List Value) (isC isR : List Nat) (S : CallFix p m c cc nL s args (c0 :: TB) own)
    (hM : ∀ sz : Nat, vx_Met l y (Cond.codeWith y bytes maxL (some rt) hh :: TB) rm (PXw As D wc tc sz) (va_Qi post (QB D w1 tc (va_A wc sz)) (va_A wc sz)) (vx_X (fun _ : Unit => False) (fun _ _ _ => True) (va_A wc sz)) mc ms (va_A wc sz))
    (h1 : Cond.methodLink own index y ∈ TB) (h2 : Cond.static y ∈ TB) (h4 : Cond.initialized y.cls ∈ TB) (h5 : Cond.codeWith y bytes maxL (some rt) hh ∈ TB)
    (hd : y.cls ≠ "java/lang/invoke/MethodHandle" ∧ y.cls ≠ "java/lang/invoke/VarHandle" ∧ (parseMethodDescriptor y.desc).map (fun d => d.parameters.length) = some n) (hn : As.length = n)
    (hrm : rm.cells = mc ∧ rm.slots = ms) (hR : rm.frames + 1 ≤ R.frames ∧ 8 + (maxL + 11) + rm.locals ≤ R.locals)
    (hP : va_P D cls ws H) (hD : va_D A0 ws) (hS : va_S A0 s.heap H locs) (hA : ∀ q, s.heap.size ≤ q → A0 q) (hK : va_K D cls tc s) (hN : NW s) (hX : XW s) (hZ : ZX A0 s s.heap)
    (hsC : isC.map (fun i => ws[i]?) = wc.map some) (hsR : isR.map (fun i => ws[i]?) = wr.map some) (hnC : va_nd isC = true) (hnR : va_nd isR = true) (hdis : ∀ i ∈ isR, i ∉ isC)
    (hsz : ls.size = nL) (hst : st0 = As.reverse ++ rest) (hcat : (rest.map fun v => v.category).sum ≤ 8)
    (hdg : decode cc pc = .ok (.invokestatic index, 3)) (hf : cells + mc ≤ R.cells ∧ slots + ms ≤ R.slots)
    (kk : ∀ (r : Int32) (u : U9) (H1 : Heap) (locs1 : List Loc), post r u → va_P D cls (wr ++ w1 u) H1 → va_D A0 (wr ++ w1 u) → va_S A0 s.heap H1 locs1 → W p l e R s m args below meth c H1 locs1 (cells + mc) (slots + ms) Q (F0 m (pc + 3) ls (.int r :: rest))) : W p l e R s m args below meth c H locs cells slots Q (F0 m pc ls st0) := by
  have hPc : va_P D cls wc H := hP.by (fun k => (isC[k]?).getD 0) (fun k q hk => by
    have h9 : (isC.map (fun i => ws[i]?))[k]? = some (some q) := by rw [hsC, List.getElem?_map, hk]; rfl
    rw [List.getElem?_map] at h9
    cases hi : isC[k]? with
    | none => rw [hi] at h9; cases h9
    | some i => rw [hi] at h9; exact Option.some.inj h9)
  have hDc : va_D A0 wc := hD.sub isC hnC hsC
  have hFc := va_free hD hS hA isC hsC
  have hZH : ZX (va_A wc H.size) s H := (hZ.kept hS.2.1).narrow (fun q h => hFc q h)
  refine vx_calli (vx_runSX (hh := hh) (As := As) (rest := rest) S (hM H.size) (vx_cwSW n S.2.2.2.2 (tb_goodW h1 h2 h4 h5) rfl hrm.1 hrm.2 hd hR) ⟨PXw_blind, fun U hU hW => ⟨rfl, by rw [hU], by rw [hU]; exact hPc, va_K.moved hW.alike hK, hDc.weaken (fun _ _ _ _ => trivial), hN.warm hW, hX.warm hW, by rw [hU]; exact hZH.moved hW.alike⟩⟩ rfl hn hsz hst (lv_room hcat) hdg hf) hS (fun q _ h => hFc q h) hFc (fun q _ h => hFc q h) (fun E ce q9 u t H1 locs1 ht hvm hp hB hz1 hk1 hS1 hc1 hc2 hc3 => hp.elim) (fun r u t H1 locs1 ht hvm hw hB hz1 hk1 hS1 => ?_)
  obtain ⟨hP1, hK1, hD1⟩ := hB
  rw [ht] at hP1
  obtain ⟨hP2, hD2⟩ := va_join hP hD isC isR hsC hsR hnR hdis hk1 hFc hP1 hD1
  exact kk r u H1 locs1 hw hP2 hD2 hS1
/-- the same of one whose start says what its handlers let by -/
theorem x_Sc {U9 : Type} {post : Int32 → U9 → Prop} {ws wc wr : va_W} {w1 : U9 → va_W} {hh : List (Nat × Nat × Nat × Nat)} (As : List Value) (isC isR : List Nat) (S : CallFix p m c cc nL s args (c0 :: TB) own)
    (hM : ∀ sz : Nat, vx_Met l y (Cond.codeWith y bytes maxL (some rt) hh :: TB) rm (PXc As D wc tc sz) (va_Qi post (QB D w1 tc (va_A wc sz)) (va_A wc sz)) (vx_X (fun _ : Unit => False) (fun _ _ _ => True) (va_A wc sz)) mc ms (va_A wc sz))
    (h1 : Cond.methodLink own index y ∈ TB) (h2 : Cond.static y ∈ TB) (h4 : Cond.initialized y.cls ∈ TB) (h5 : Cond.codeWith y bytes maxL (some rt) hh ∈ TB)
    (hd : y.cls ≠ "java/lang/invoke/MethodHandle" ∧ y.cls ≠ "java/lang/invoke/VarHandle" ∧ (parseMethodDescriptor y.desc).map (fun d => d.parameters.length) = some n) (hn : As.length = n)
    (hrm : rm.cells = mc ∧ rm.slots = ms) (hR : rm.frames + 1 ≤ R.frames ∧ 8 + (maxL + 11) + rm.locals ≤ R.locals)
    (hP : va_P D cls ws H) (hD : va_D A0 ws) (hS : va_S A0 s.heap H locs) (hA : ∀ q, s.heap.size ≤ q → A0 q) (hK : va_K D cls tc s) (hN : NW s) (hX : XW s) (hZ : ZX A0 s s.heap) (hC : CW s)
    (hsC : isC.map (fun i => ws[i]?) = wc.map some) (hsR : isR.map (fun i => ws[i]?) = wr.map some) (hnC : va_nd isC = true) (hnR : va_nd isR = true) (hdis : ∀ i ∈ isR, i ∉ isC)
    (hsz : ls.size = nL) (hst : st0 = As.reverse ++ rest) (hcat : (rest.map fun v => v.category).sum ≤ 8)
    (hdg : decode cc pc = .ok (.invokestatic index, 3)) (hf : cells + mc ≤ R.cells ∧ slots + ms ≤ R.slots)
    (kk : ∀ (r : Int32) (u : U9) (H1 : Heap) (locs1 : List Loc), post r u → va_P D cls (wr ++ w1 u) H1 → va_D A0 (wr ++ w1 u) → va_S A0 s.heap H1 locs1 → W p l e R s m args below meth c H1 locs1 (cells + mc) (slots + ms) Q (F0 m (pc + 3) ls (.int r :: rest))) : W p l e R s m args below meth c H locs cells slots Q (F0 m pc ls st0) := by
  have hPc : va_P D cls wc H := hP.by (fun k => (isC[k]?).getD 0) (fun k q hk => by
    have h9 : (isC.map (fun i => ws[i]?))[k]? = some (some q) := by rw [hsC, List.getElem?_map, hk]; rfl
    rw [List.getElem?_map] at h9
    cases hi : isC[k]? with
    | none => rw [hi] at h9; cases h9
    | some i => rw [hi] at h9; exact Option.some.inj h9)
  have hDc : va_D A0 wc := hD.sub isC hnC hsC
  have hFc := va_free hD hS hA isC hsC
  have hZH : ZX (va_A wc H.size) s H := (hZ.kept hS.2.1).narrow (fun q h => hFc q h)
  refine vx_calli (vx_runSX (hh := hh) (As := As) (rest := rest) S (hM H.size) (vx_cwSW n S.2.2.2.2 (tb_goodW h1 h2 h4 h5) rfl hrm.1 hrm.2 hd hR) ⟨PXc_blind, fun U hU hW => ⟨rfl, by rw [hU], by rw [hU]; exact hPc, va_K.moved hW.alike hK, hDc.weaken (fun _ _ _ _ => trivial), hN.warm hW, hX.warm hW, by rw [hU]; exact hZH.moved hW.alike, hC.moved hW.alike⟩⟩ rfl hn hsz hst (lv_room hcat) hdg hf) hS (fun q _ h => hFc q h) hFc (fun q _ h => hFc q h) (fun E ce q9 u t H1 locs1 ht hvm hp hB hz1 hk1 hS1 hc1 hc2 hc3 => hp.elim) (fun r u t H1 locs1 ht hvm hw hB hz1 hk1 hS1 => ?_)
  obtain ⟨hP1, hK1, hD1⟩ := hB
  rw [ht] at hP1
  obtain ⟨hP2, hD2⟩ := va_join hP hD isC isR hsC hsR hnR hdis hk1 hFc hP1 hD1
  exact kk r u H1 locs1 hw hP2 hD2 hS1
end XCalls
