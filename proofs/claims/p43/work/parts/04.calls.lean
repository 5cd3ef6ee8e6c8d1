/-- what a method that only reads asks: its arguments, the cells that it reads -/
abbrev PR (av : List Value) (D : va_G) (ws : va_W) (tys : List (ClassId × FieldType)) : Array Value → State → Prop := va_Pc av (fun U => va_P D cls ws U.heap ∧ va_K D cls tys U ∧ NW U)
/-- what a method that writes asks -/
abbrev PW (av : List Value) (D : va_G) (ws : va_W) (tys : List (ClassId × FieldType)) (sz : Nat) : Array Value → State → Prop := va_Pc av (fun U => U.heap.size = sz ∧ va_P D cls ws U.heap ∧ va_K D cls tys U ∧ va_D (fun _ => True) ws ∧ NW U)
/-- the cells behind a method that writes -/
abbrev QB {S : Type} (D : va_G) (w1 : S → va_W) (tys : List (ClassId × FieldType)) (A : Nat → Prop) : S → State → Prop := fun u t => va_P D cls (w1 u) t.heap ∧ va_K D cls tys t ∧ va_D A (w1 u)
theorem PR_blind {av : List Value} {D : va_G} {ws : va_W} {tys : List (ClassId × FieldType)} : FrameBlind (PR av D ws tys) := fun a U g mk q => by
  obtain ⟨q0, qP, qK, qN⟩ := q
  exact ⟨q0, qP, va_K.moved (u := U) (U := U.calling g mk a) (Vm.Alike.refl U.vm) qK, NW.same (s := U) rfl qN⟩
theorem PW_blind {av : List Value} {D : va_G} {ws : va_W} {tys : List (ClassId × FieldType)} {sz : Nat} : FrameBlind (PW av D ws tys sz) := fun a U g mk q => by
  obtain ⟨q0, q1, qP, qK, qD, qN⟩ := q
  exact ⟨q0, q1, qP, va_K.moved (u := U) (U := U.calling g mk a) (Vm.Alike.refl U.vm) qK, qD, NW.same (s := U) rfl qN⟩
theorem PT_blind {av : List Value} : FrameBlind (va_Pc av (fun _ => True)) := fun a U g mk q => q
section KCalls
variable {p : Program} {l : Launch} {e : Env} {R : Room} {s : State} {m : MethodId} {args : Array Value} {below : List Frame} {meth : Method} {c : Code} {H H0 : Heap} {locs : List Loc} {cells slots : Nat} {Q : State → Prop}
variable {y : MethodName} {bytes cc : ByteArray} {maxL nL n index : Nat} {ret : Option FieldType} {rm : Room} {c0 : Cond} {own C host : String} {b : Addr} {As rest st0 : List Value} {pc : Nat} {ls : Array Slot} {D : va_G} {tys tc : List (ClassId × FieldType)} {A0 : Nat → Prop} {mc ms : Nat}
theorem k_Si {post : Int32 → Prop} {a : Array Value} (hr : va_Run p l e R s m args below meth c H locs cells slots 0 0 (F0 m pc ls st0) rest (vp_Si post a) (fun _ => False))
    (kk : ∀ r : Int32, post r → W p l e R s m args below meth c H locs cells slots Q (F0 m (pc + 3) ls (.int r :: rest))) : W p l e R s m args below meth c H locs cells slots Q (F0 m pc ls st0) := by
  intro T hT X
  obtain ⟨v, st₀, t, T', L, h0, X', hL, e1, e2, ⟨r, hv, hp, hh⟩, st⟩ := hr T hT X
  cases hv
  obtain ⟨t2, a1, b1⟩ := kk r hp T' (by rw [e1, hh, h0]) (Stand.forget X' (fun q h => (hL q h).elim))
  exact ⟨t2, st t2 a1, b1⟩
/-- a call of an instance method that reads and answers an int -/
theorem k_Vi {post : Int32 → Prop} {wc : va_W} {ci q0 : Nat} {qq : vw_C} {fs : List Value} (As : List Value) (S : CallFix p m c cc nL s args (c0 :: TB) own) (hM : Met l y (Cond.code y bytes maxL ret :: TB) rm (PR (.ref b :: As) D wc tc) (vp_Si post) 0 0 (fun _ => False))
    (h1 : Cond.methodLink own index y ∈ TB) (h2 : Cond.instanceMethod y ∈ TB) (h3 : Cond.selects C y y ∈ TB) (h4 : Cond.initialized C ∈ TB) (h5 : Cond.code y bytes maxL ret ∈ TB)
    (hd : y.cls = C ∧ y.cls ≠ "java/lang/invoke/MethodHandle" ∧ y.cls ≠ "java/lang/invoke/VarHandle" ∧ (parseMethodDescriptor y.desc).map (fun d => d.parameters.length) = some n) (hn : As.length = n)
    (hrm : rm.cells = 0 ∧ rm.slots = 0) (hR : rm.frames + 1 ≤ R.frames ∧ 8 + (maxL + 11) + rm.locals ≤ R.locals)
    (hP : va_P D cls wc H) (hK : va_K D cls tc s) (hN : NW s) (he : wc[q0]? = some (b, .inr (ci, fs))) (hc : cls[ci]? = some qq) (hC : qq.1 = C) (hsz : ls.size = nL) (hst : st0 = As.reverse ++ .ref b :: rest) (hcat : (rest.map fun v => v.category).sum ≤ 8)
    (hdg : decode cc pc = .ok (.invokevirtual index, 3)) (hf : cells ≤ R.cells ∧ slots ≤ R.slots)
    (kk : ∀ r : Int32, post r → W p l e R s m args below meth c H locs cells slots Q (F0 m (pc + 3) ls (.int r :: rest))) : W p l e R s m args below meth c H locs cells slots Q (F0 m pc ls st0) := by
  subst hC
  refine k_Si (va_runV (As := As) (rest := rest) S hM (cwV n S.2.2.2.2 (tb_goodV h1 h2 h3 h4 h5) rfl hrm.1 hrm.2 hd hR) ⟨PR_blind, va_recv hK hP hc he, fun U hU hW => ⟨rfl, by rw [hU]; exact hP, va_K.moved hW.alike hK, hN.warm hW⟩⟩ rfl hn hsz hst (lv_room hcat) hdg hf) kk
/-- a call of a static method of the own class that answers an int -/
theorem k_Ti {post : Int32 → Prop} (As : List Value) (S : CallFix p m c cc nL s args (c0 :: TB) own) (hM : Met l y (Cond.code y bytes maxL ret :: TB) rm (va_Pc As (fun _ => True)) (vp_Si post) 0 0 (fun _ => False))
    (h1 : Cond.methodLink own index y ∈ TB) (h2 : Cond.static y ∈ TB) (h4 : Cond.initialized own ∈ TB) (h5 : Cond.code y bytes maxL ret ∈ TB)
    (hd : y.cls = own ∧ y.cls ≠ "java/lang/invoke/MethodHandle" ∧ y.cls ≠ "java/lang/invoke/VarHandle" ∧ (parseMethodDescriptor y.desc).map (fun d => d.parameters.length) = some n) (hn : As.length = n)
    (hrm : rm.cells = 0 ∧ rm.slots = 0) (hR : rm.frames + 1 ≤ R.frames ∧ 8 + (maxL + 11) + rm.locals ≤ R.locals)
    (hsz : ls.size = nL) (hst : st0 = As.reverse ++ rest) (hcat : (rest.map fun v => v.category).sum ≤ 8)
    (hdg : decode cc pc = .ok (.invokestatic index, 3)) (hf : cells ≤ R.cells ∧ slots ≤ R.slots)
    (kk : ∀ r : Int32, post r → W p l e R s m args below meth c H locs cells slots Q (F0 m (pc + 3) ls (.int r :: rest))) : W p l e R s m args below meth c H locs cells slots Q (F0 m pc ls st0) :=
  k_Si (va_runS (As := As) (rest := rest) S hM (cwS n S.2.2.2.2 (tb_goodS h1 h2 h4 h5) rfl hrm.1 hrm.2 hd hR) ⟨PT_blind, fun U hU hW => ⟨rfl, trivial⟩⟩ rfl hn hsz hst (lv_room hcat) hdg hf) kk
/-- the same of a nest mate's private one -/
theorem k_Ni {post : Int32 → Prop} (As : List Value) (S : CallFix p m c cc nL s args (c0 :: TB) own) (hM : Met l y (Cond.code y bytes maxL ret :: TB) rm (va_Pc As (fun _ => True)) (vp_Si post) 0 0 (fun _ => False))
    (h1 : va_Nw (Cond.methodLinkNest own index y host) s) (h2 : Cond.static y ∈ TB) (h4 : Cond.initialized y.cls ∈ TB) (h5 : Cond.code y bytes maxL ret ∈ TB)
    (hd : y.cls ≠ "java/lang/invoke/MethodHandle" ∧ y.cls ≠ "java/lang/invoke/VarHandle" ∧ (parseMethodDescriptor y.desc).map (fun d => d.parameters.length) = some n) (hn : As.length = n)
    (hrm : rm.cells = 0 ∧ rm.slots = 0) (hR : rm.frames + 1 ≤ R.frames ∧ 8 + (maxL + 11) + rm.locals ≤ R.locals)
    (hsz : ls.size = nL) (hst : st0 = As.reverse ++ rest) (hcat : (rest.map fun v => v.category).sum ≤ 8)
    (hdg : decode cc pc = .ok (.invokestatic index, 3)) (hf : cells ≤ R.cells ∧ slots ≤ R.slots)
    (kk : ∀ r : Int32, post r → W p l e R s m args below meth c H locs cells slots Q (F0 m (pc + 3) ls (.int r :: rest))) : W p l e R s m args below meth c H locs cells slots Q (F0 m pc ls st0) :=
  k_Si (va_runSN (As := As) (rest := rest) S hM ⟨va_cnB n S.2.2.2.2 (tb_good h5) rfl hrm.1 hrm.2 h1 (S.2.2.2.2 _ (tb_in h4)) hd hR, S.2.2.2.2 _ (tb_in h2), trivial⟩ ⟨PT_blind, fun U hU hW => ⟨rfl, trivial⟩⟩ rfl hn hsz hst (lv_room hcat) hdg hf) kk
/-- a call of an instance method that writes cells and answers nothing: behind it the rest of the cells, then the callee's -/
theorem k_Vv {U9 : Type} {post : U9 → Prop} {ws wc wr : va_W} {w1 : U9 → va_W} {ci q0 : Nat} {qq : vw_C} {fs : List Value} (As : List Value) (isC isR : List Nat) (S : CallFix p m c cc nL s args (c0 :: TB) own)
    (hM : ∀ sz : Nat, Met l y (Cond.code y bytes maxL ret :: TB) rm (PW (.ref b :: As) D wc tc sz) (va_Qv post (QB D w1 tc (va_A wc sz)) (va_A wc sz)) 0 0 (va_A wc sz))
    (h1 : Cond.methodLink own index y ∈ TB) (h2 : Cond.instanceMethod y ∈ TB) (h3 : Cond.selects C y y ∈ TB) (h4 : Cond.initialized C ∈ TB) (h5 : Cond.code y bytes maxL ret ∈ TB)
    (hd : y.cls = C ∧ y.cls ≠ "java/lang/invoke/MethodHandle" ∧ y.cls ≠ "java/lang/invoke/VarHandle" ∧ (parseMethodDescriptor y.desc).map (fun d => d.parameters.length) = some n) (hn : As.length = n)
    (hrm : rm.cells = 0 ∧ rm.slots = 0) (hR : rm.frames + 1 ≤ R.frames ∧ 8 + (maxL + 11) + rm.locals ≤ R.locals)
    (hP : va_P D cls ws H) (hD : va_D A0 ws) (hS : va_S A0 H0 H locs) (hA : ∀ q, H0.size ≤ q → A0 q) (hK : va_K D cls tc s) (hN : NW s)
    (hsC : isC.map (fun i => ws[i]?) = wc.map some) (hsR : isR.map (fun i => ws[i]?) = wr.map some) (hnC : va_nd isC = true) (hnR : va_nd isR = true) (hdis : ∀ i ∈ isR, i ∉ isC)
    (he : wc[q0]? = some (b, .inr (ci, fs))) (hc : cls[ci]? = some qq) (hC : qq.1 = C) (hsz : ls.size = nL) (hst : st0 = As.reverse ++ .ref b :: rest) (hcat : (rest.map fun v => v.category).sum ≤ 8)
    (hdg : decode cc pc = .ok (.invokevirtual index, 3)) (hf : cells ≤ R.cells ∧ slots ≤ R.slots)
    (kk : ∀ (u : U9) (H1 : Heap) (locs1 : List Loc), post u → va_P D cls (wr ++ w1 u) H1 → va_D A0 (wr ++ w1 u) → va_S A0 H0 H1 locs1 → W p l e R s m args below meth c H1 locs1 cells slots Q (F0 m (pc + 3) ls rest)) : W p l e R s m args below meth c H locs cells slots Q (F0 m pc ls st0) := by
  subst hC
  have hPc : va_P D cls wc H := hP.by (fun k => (isC[k]?).getD 0) (fun k q hk => by
    have h9 : (isC.map (fun i => ws[i]?))[k]? = some (some q) := by rw [hsC, List.getElem?_map, hk]; rfl
    rw [List.getElem?_map] at h9
    cases hi : isC[k]? with
    | none => rw [hi] at h9; cases h9
    | some i => rw [hi] at h9; exact Option.some.inj h9)
  have hDc : va_D A0 wc := hD.sub isC hnC hsC
  have hFc := va_free hD hS hA isC hsC
  refine va_callv (va_runV (As := As) (rest := rest) S (hM H.size) (cwV n S.2.2.2.2 (tb_goodV h1 h2 h3 h4 h5) rfl hrm.1 hrm.2 hd hR) ⟨PW_blind, va_recv hK hPc hc he, fun U hU hW => ⟨rfl, by rw [hU], by rw [hU]; exact hPc, va_K.moved hW.alike hK, hDc.weaken (fun _ _ _ _ => trivial), hN.warm hW⟩⟩ rfl hn hsz hst (lv_room hcat) hdg hf) hS (fun q _ h => hFc q h) hFc (fun u t H1 locs1 ht hvm hw hB hz1 hk1 hS1 => ?_)
  obtain ⟨hP1, hK1, hD1⟩ := hB
  rw [ht] at hP1
  obtain ⟨hP2, hD2⟩ := va_join hP hD isC isR hsC hsR hnR hdis hk1 hFc hP1 hD1
  exact kk u H1 locs1 hw hP2 hD2 hS1
/-- a call of an instance method that writes cells and answers an int -/
theorem k_Vw {U9 : Type} {post : Int32 → U9 → Prop} {ws wc wr : va_W} {w1 : U9 → va_W} {ci q0 : Nat} {qq : vw_C} {fs : List Value} (As : List Value) (isC isR : List Nat) (S : CallFix p m c cc nL s args (c0 :: TB) own)
    (hM : ∀ sz : Nat, Met l y (Cond.code y bytes maxL ret :: TB) rm (PW (.ref b :: As) D wc tc sz) (va_Qi post (QB D w1 tc (va_A wc sz)) (va_A wc sz)) 0 0 (va_A wc sz))
    (h1 : Cond.methodLink own index y ∈ TB) (h2 : Cond.instanceMethod y ∈ TB) (h3 : Cond.selects C y y ∈ TB) (h4 : Cond.initialized C ∈ TB) (h5 : Cond.code y bytes maxL ret ∈ TB)
    (hd : y.cls = C ∧ y.cls ≠ "java/lang/invoke/MethodHandle" ∧ y.cls ≠ "java/lang/invoke/VarHandle" ∧ (parseMethodDescriptor y.desc).map (fun d => d.parameters.length) = some n) (hn : As.length = n)
    (hrm : rm.cells = 0 ∧ rm.slots = 0) (hR : rm.frames + 1 ≤ R.frames ∧ 8 + (maxL + 11) + rm.locals ≤ R.locals)
    (hP : va_P D cls ws H) (hD : va_D A0 ws) (hS : va_S A0 H0 H locs) (hA : ∀ q, H0.size ≤ q → A0 q) (hK : va_K D cls tc s) (hN : NW s)
    (hsC : isC.map (fun i => ws[i]?) = wc.map some) (hsR : isR.map (fun i => ws[i]?) = wr.map some) (hnC : va_nd isC = true) (hnR : va_nd isR = true) (hdis : ∀ i ∈ isR, i ∉ isC)
    (he : wc[q0]? = some (b, .inr (ci, fs))) (hc : cls[ci]? = some qq) (hC : qq.1 = C) (hsz : ls.size = nL) (hst : st0 = As.reverse ++ .ref b :: rest) (hcat : (rest.map fun v => v.category).sum ≤ 8)
    (hdg : decode cc pc = .ok (.invokevirtual index, 3)) (hf : cells ≤ R.cells ∧ slots ≤ R.slots)
    (kk : ∀ (r : Int32) (u : U9) (H1 : Heap) (locs1 : List Loc), post r u → va_P D cls (wr ++ w1 u) H1 → va_D A0 (wr ++ w1 u) → va_S A0 H0 H1 locs1 → W p l e R s m args below meth c H1 locs1 cells slots Q (F0 m (pc + 3) ls (.int r :: rest))) : W p l e R s m args below meth c H locs cells slots Q (F0 m pc ls st0) := by
  subst hC
  have hPc : va_P D cls wc H := hP.by (fun k => (isC[k]?).getD 0) (fun k q hk => by
    have h9 : (isC.map (fun i => ws[i]?))[k]? = some (some q) := by rw [hsC, List.getElem?_map, hk]; rfl
    rw [List.getElem?_map] at h9
    cases hi : isC[k]? with
    | none => rw [hi] at h9; cases h9
    | some i => rw [hi] at h9; exact Option.some.inj h9)
  have hDc : va_D A0 wc := hD.sub isC hnC hsC
  have hFc := va_free hD hS hA isC hsC
  refine va_calli (va_runV (As := As) (rest := rest) S (hM H.size) (cwV n S.2.2.2.2 (tb_goodV h1 h2 h3 h4 h5) rfl hrm.1 hrm.2 hd hR) ⟨PW_blind, va_recv hK hPc hc he, fun U hU hW => ⟨rfl, by rw [hU], by rw [hU]; exact hPc, va_K.moved hW.alike hK, hDc.weaken (fun _ _ _ _ => trivial), hN.warm hW⟩⟩ rfl hn hsz hst (lv_room hcat) hdg hf) hS (fun q _ h => hFc q h) hFc (fun r u t H1 locs1 ht hvm hw hB hz1 hk1 hS1 => ?_)
  obtain ⟨hP1, hK1, hD1⟩ := hB
  rw [ht] at hP1
  obtain ⟨hP2, hD2⟩ := va_join hP hD isC isR hsC hsR hnR hdis hk1 hFc hP1 hD1
  exact kk r u H1 locs1 hw hP2 hD2 hS1
end KCalls
