/-- the texts of the exceptions, with their places -/
def XTX : List (Nat × String) := [(56, "x and y are 0 to 60"), (67, "there are 12 places"), (338, "no such place"), (78, "capacity is 1 to 50"), (329, "from is 0 to 1440, to is from to 1440"), (84, "price is 1 to 9, fixed 0 to 200"), (89, "there are 3 vehicles"), (109, "load is 1 to 20, minutes 0 to 30, fine 0 to 999"), (114, "there are 9 jobs"), (345, "no such job"), (127, "the job is set"), (347, "the job is planned"), (341, "no such vehicle"), (166, "0 <= i < k <= n + 1"), (197, "the job is open, or set"), (208, "many is 1 to 9"), (229, "most is 1 to 10"), (331, "kind is 0 to 3"), (239, "minutes is 1 to 1440"), (244, "the day ends, or a route is not right"), (343, "no such stop")]
abbrev XNM : List String := ["java/lang/RuntimeException", "java/lang/Exception"]
/-- the words that a throw asks for beside the tables' good ones -/
def XW (U : State) : Prop := (va_Nw (.declares (Bundle.initS "java/lang/RuntimeException")) U ∧ va_Nw (.declares (Bundle.initS "java/lang/Exception")) U ∧ va_Nw (.declares (Bundle.initS "java/lang/Throwable")) U ∧ va_Nw (.castable "java/lang/IllegalArgumentException" "java/lang/IllegalArgumentException") U ∧ va_Nw (.castable "java/lang/IllegalStateException" "java/lang/IllegalStateException") U ∧ va_Nw (.castable "java/lang/IndexOutOfBoundsException" "java/lang/IndexOutOfBoundsException") U) ∧ ∀ q ∈ XTX, ∃ a, vk_R RX5 q.1 q.2 a U
theorem XW.warm {s U : State} (hW : s.WarmedH U.vm) (h : XW s) : XW U := ⟨⟨va_Nw.warmD hW h.1.1, va_Nw.warmD hW h.1.2.1, va_Nw.warmD hW h.1.2.2.1, va_Nw.warmC hW h.1.2.2.2.1, va_Nw.warmC hW h.1.2.2.2.2.1, va_Nw.warmC hW h.1.2.2.2.2.2⟩, fun q hq => by obtain ⟨a, h1⟩ := h.2 q hq; exact ⟨a, h1.warm hW⟩⟩
theorem XW.same {s U : State} (hv : s.vm = U.vm) (h : XW s) : XW U := ⟨⟨va_Nw.same rfl hv h.1.1, va_Nw.same rfl hv h.1.2.1, va_Nw.same rfl hv h.1.2.2.1, va_Nw.same rfl hv h.1.2.2.2.1, va_Nw.same rfl hv h.1.2.2.2.2.1, va_Nw.same rfl hv h.1.2.2.2.2.2⟩, fun q hq => by obtain ⟨a, h1⟩ := h.2 q hq; exact ⟨a, h1.same hv.symm⟩⟩
/-- the two statics that a throwable's constructor reads -/
def ZX (A : Nat → Prop) (U : State) (H : Heap) : Prop := vx_Zq Bundle.tN "UNASSIGNED_STACK" Bundle.steD A U H ∧ vx_Zq Bundle.tN "SUPPRESSED_SENTINEL" Bundle.listD A U H
theorem ZX.moved {A : Nat → Prop} {u U : State} {H : Heap} (hvm : u.vm.Alike U.vm) (h : ZX A u H) : ZX A U H := ⟨h.1.moved hvm, h.2.moved hvm⟩
theorem ZX.kept {A : Nat → Prop} {U : State} {H H1 : Heap} (h : ZX A U H) (hq : ∀ a : Nat, a < H.size → ¬ A a → H1[a]? = H[a]?) : ZX A U H1 := ⟨h.1.kept hq, h.2.kept hq⟩
theorem ZX.narrow {A B : Nat → Prop} {U : State} {H : Heap} (h : ZX A U H) (hAB : ∀ q, B q → A q) : ZX B U H := ⟨h.1.narrow hAB, h.2.narrow hAB⟩
/-- new cells alone -/
def NA (sz : Nat) : Nat → Prop := fun q => sz ≤ q
/-- what a method that reads, and may throw, asks -/
abbrev PXr (av : List Value) (D : va_G) (ws : va_W) (tys : List (ClassId × FieldType)) (sz : Nat) : Array Value → State → Prop := va_Pc av (fun U => U.heap.size = sz ∧ va_P D cls ws U.heap ∧ va_K D cls tys U ∧ NW U ∧ XW U ∧ ZX (NA sz) U U.heap)
/-- what a method that writes, and may throw, asks -/
abbrev PXw (av : List Value) (D : va_G) (ws : va_W) (tys : List (ClassId × FieldType)) (sz : Nat) : Array Value → State → Prop := va_Pc av (fun U => U.heap.size = sz ∧ va_P D cls ws U.heap ∧ va_K D cls tys U ∧ va_D (fun _ => True) ws ∧ NW U ∧ XW U ∧ ZX (va_A ws sz) U U.heap)
theorem PXr_blind {av : List Value} {D : va_G} {ws : va_W} {tys : List (ClassId × FieldType)} {sz : Nat} : FrameBlind (PXr av D ws tys sz) := fun a U g mk q => by
  obtain ⟨q0, q1, qP, qK, qN, qX, qZ⟩ := q
  exact ⟨q0, q1, qP, va_K.moved (u := U) (U := U.calling g mk a) (Vm.Alike.refl U.vm) qK, NW.same (s := U) rfl qN, XW.same (s := U) rfl qX, ZX.moved (u := U) (U := U.calling g mk a) (Vm.Alike.refl U.vm) qZ⟩
theorem PXw_blind {av : List Value} {D : va_G} {ws : va_W} {tys : List (ClassId × FieldType)} {sz : Nat} : FrameBlind (PXw av D ws tys sz) := fun a U g mk q => by
  obtain ⟨q0, q1, qP, qK, qD, qN, qX, qZ⟩ := q
  exact ⟨q0, q1, qP, va_K.moved (u := U) (U := U.calling g mk a) (Vm.Alike.refl U.vm) qK, qD, NW.same (s := U) rfl qN, XW.same (s := U) rfl qX, ZX.moved (u := U) (U := U.calling g mk a) (Vm.Alike.refl U.vm) qZ⟩
set_option maxRecDepth 100000 in
theorem q_at_a {c0 : Cond} {args : Array Value} {s : State} (hts : ∀ w ∈ c0 :: TB, w.before args s = true) (hX : XW s) : ∀ w ∈ vx_atS RX5 58 "java/lang/IllegalArgumentException" XNM, w.before args s = true := by
  refine vx_hat (B := [.declares (Bundle.initS "java/lang/RuntimeException"), .declares (Bundle.initS "java/lang/Exception"), .declares (Bundle.initS "java/lang/Throwable"), .castable "java/lang/IllegalArgumentException" "java/lang/IllegalArgumentException"]) (fun w hw => hts w (tb_in ?_)) (by decide +kernel) ?_
  · refine List.mem_filter.mpr ⟨?_, (List.mem_filter.mp hw).2⟩
    have hp : (vx_atS RX5 58 "java/lang/IllegalArgumentException" XNM).filter goodWord = ([48, 534, 543, 547, 550, 552, 535, 536, 60, 61, 537, 542, 548, 568, 524, 569, 526, 570, 528, 538, 540, 530, 564, 565, 567, 530, 555, 556, 557, 558, 558, 559, 560, 561, 561, 562, 563, 564, 554, 513, 521, 522, 523, 525, 527, 529, 533, 532, 531] : List Nat).filterMap (fun i => lw_tbl[i]?) := by decide +kernel
    rw [hp] at hw
    obtain ⟨i, -, hi⟩ := List.mem_filterMap.mp hw
    exact List.mem_of_getElem? hi
  · exact vx_c (va_Nw.use rfl hX.1.1) (vx_c (va_Nw.use rfl hX.1.2.1) (vx_c (va_Nw.use rfl hX.1.2.2.1) (vx_c (va_Nw.use rfl hX.1.2.2.2.1) vx_n)))
set_option maxRecDepth 100000 in
theorem q_xg_a : ∀ w ∈ Cond.classLink RX5 54 "java/lang/IllegalArgumentException" :: Cond.initialized "java/lang/IllegalArgumentException" :: vx_atS RX5 58 "java/lang/IllegalArgumentException" XNM, vx_ot w = true := by decide +kernel
set_option maxRecDepth 100000 in
theorem q_xk_a : Cond.classLink RX5 54 "java/lang/IllegalArgumentException" ∈ TB := tb_t 472 (by decide +kernel) (by decide +kernel)
set_option maxRecDepth 100000 in
theorem q_xi_a : Cond.initialized "java/lang/IllegalArgumentException" ∈ TB := tb_t 11 (by decide +kernel) (by decide +kernel)
set_option maxRecDepth 100000 in
theorem q_at_s {c0 : Cond} {args : Array Value} {s : State} (hts : ∀ w ∈ c0 :: TB, w.before args s = true) (hX : XW s) : ∀ w ∈ vx_atS RX5 69 "java/lang/IllegalStateException" XNM, w.before args s = true := by
  refine vx_hat (B := [.declares (Bundle.initS "java/lang/RuntimeException"), .declares (Bundle.initS "java/lang/Exception"), .declares (Bundle.initS "java/lang/Throwable"), .castable "java/lang/IllegalStateException" "java/lang/IllegalStateException"]) (fun w hw => hts w (tb_in ?_)) (by decide +kernel) ?_
  · refine List.mem_filter.mpr ⟨?_, (List.mem_filter.mp hw).2⟩
    have hp : (vx_atS RX5 69 "java/lang/IllegalStateException" XNM).filter goodWord = ([48, 534, 543, 547, 550, 552, 535, 536, 60, 61, 537, 542, 548, 568, 524, 569, 526, 570, 528, 538, 540, 530, 564, 565, 567, 530, 591, 592, 593, 558, 558, 559, 560, 561, 561, 562, 563, 564, 590, 581, 583, 545, 584, 585, 586, 587, 533, 532, 588] : List Nat).filterMap (fun i => lw_tbl[i]?) := by decide +kernel
    rw [hp] at hw
    obtain ⟨i, -, hi⟩ := List.mem_filterMap.mp hw
    exact List.mem_of_getElem? hi
  · exact vx_c (va_Nw.use rfl hX.1.1) (vx_c (va_Nw.use rfl hX.1.2.1) (vx_c (va_Nw.use rfl hX.1.2.2.1) (vx_c (va_Nw.use rfl hX.1.2.2.2.2.1) vx_n)))
set_option maxRecDepth 100000 in
theorem q_xg_s : ∀ w ∈ Cond.classLink RX5 65 "java/lang/IllegalStateException" :: Cond.initialized "java/lang/IllegalStateException" :: vx_atS RX5 69 "java/lang/IllegalStateException" XNM, vx_ot w = true := by decide +kernel
set_option maxRecDepth 100000 in
theorem q_xk_s : Cond.classLink RX5 65 "java/lang/IllegalStateException" ∈ TB := tb_t 540 (by decide +kernel) (by decide +kernel)
set_option maxRecDepth 100000 in
theorem q_xi_s : Cond.initialized "java/lang/IllegalStateException" ∈ TB := tb_t 12 (by decide +kernel) (by decide +kernel)
set_option maxRecDepth 100000 in
theorem q_at_x {c0 : Cond} {args : Array Value} {s : State} (hts : ∀ w ∈ c0 :: TB, w.before args s = true) (hX : XW s) : ∀ w ∈ vx_atS RX5 340 "java/lang/IndexOutOfBoundsException" XNM, w.before args s = true := by
  refine vx_hat (B := [.declares (Bundle.initS "java/lang/RuntimeException"), .declares (Bundle.initS "java/lang/Exception"), .declares (Bundle.initS "java/lang/Throwable"), .castable "java/lang/IndexOutOfBoundsException" "java/lang/IndexOutOfBoundsException"]) (fun w hw => hts w (tb_in ?_)) (by decide +kernel) ?_
  · refine List.mem_filter.mpr ⟨?_, (List.mem_filter.mp hw).2⟩
    have hp : (vx_atS RX5 340 "java/lang/IndexOutOfBoundsException" XNM).filter goodWord = ([48, 534, 543, 547, 550, 552, 535, 536, 60, 61, 537, 542, 548, 568, 524, 569, 526, 570, 528, 538, 540, 530, 564, 565, 567, 530, 626, 627, 628, 558, 558, 559, 560, 561, 561, 562, 563, 564, 625, 616, 618, 546, 619, 620, 621, 622, 533, 532, 623] : List Nat).filterMap (fun i => lw_tbl[i]?) := by decide +kernel
    rw [hp] at hw
    obtain ⟨i, -, hi⟩ := List.mem_filterMap.mp hw
    exact List.mem_of_getElem? hi
  · exact vx_c (va_Nw.use rfl hX.1.1) (vx_c (va_Nw.use rfl hX.1.2.1) (vx_c (va_Nw.use rfl hX.1.2.2.1) (vx_c (va_Nw.use rfl hX.1.2.2.2.2.2) vx_n)))
set_option maxRecDepth 100000 in
theorem q_xg_x : ∀ w ∈ Cond.classLink RX5 336 "java/lang/IndexOutOfBoundsException" :: Cond.initialized "java/lang/IndexOutOfBoundsException" :: vx_atS RX5 340 "java/lang/IndexOutOfBoundsException" XNM, vx_ot w = true := by decide +kernel
set_option maxRecDepth 100000 in
theorem q_xk_x : Cond.classLink RX5 336 "java/lang/IndexOutOfBoundsException" ∈ TB := tb_t 575 (by decide +kernel) (by decide +kernel)
set_option maxRecDepth 100000 in
theorem q_xi_x : Cond.initialized "java/lang/IndexOutOfBoundsException" ∈ TB := tb_t 13 (by decide +kernel) (by decide +kernel)
section KX
variable {p : Program} {l : Launch} {e : Env} {R : Room} {s : State} {m : MethodId} {args : Array Value} {below : List Frame} {meth : Method} {c : Code} {H H0 : Heap} {locs : List Loc} {cells slots : Nat} {Q : State → Prop}
variable {y : MethodName} {bytes cc : ByteArray} {maxL nL n index : Nat} {ret : Option FieldType} {rm : Room} {c0 : Cond} {own C host : String} {b : Addr} {As rest st0 : List Value} {pc : Nat} {ls : Array Slot} {D : va_G} {tys tc : List (ClassId × FieldType)} {A0 : Nat → Prop} {mc ms : Nat}
variable {Qc : Array Value → State → Outcome → State → Prop} {XC : String → State → State → Prop} {free : Addr → Prop}
theorem k_wid {k n : Nat} {g : JFrame} (h1 : cells ≤ k) (h2 : slots ≤ n) (kk : W p l e R s m args below meth c H locs k n Q g) : W p l e R s m args below meth c H locs cells slots Q g := fun T hT X => kk T hT (stand_widen X h1 h2)
/-- throw new IllegalArgumentException("..") -/
theorem k_tha (S : CallFix p m c cc nL s args (c0 :: TB) RX5) (hl : l.stackTraces = false) (hX : XW s) (hZ : ZX A0 s s.heap) (hS : va_S A0 s.heap H locs) (is : Nat) (tx : String) (hq : (is, tx) ∈ XTX) (hsz : ls.size = nL)
    (d0 : decode cc pc = .ok (.new 54, 3)) (d3 : decode cc (pc + 3) = .ok (.dup, 1)) (d4 : decode cc (pc + 4) = .ok (.ldc is, 2)) (d6 : decode cc (pc + 6) = .ok (.invokespecial 58, 3)) (d9 : decode cc (pc + 9) = .ok (.athrow, 1))
    (ht : ∀ x ∈ c.exceptionTable.toList, False) (hR : 5 < R.frames ∧ (rest.map fun v => v.category).sum + 82 ≤ R.locals ∧ cells + 1 ≤ R.cells ∧ slots + 6 ≤ R.slots) (hlocks : meth.locks = false)
    (hx : ∀ t : State, s.vm.Alike t.vm → H.size ≤ t.heap.size → (∀ q : Nat, q < H.size → t.heap[q]? = H[q]?) → XC "java/lang/IllegalArgumentException" s t) (hf : ∀ z ∈ locs, free z.base) (hm : cells + 1 ≤ mc ∧ slots + 6 ≤ ms) :
    W p l e R s m args below meth c H locs cells slots (vx_MQ below Qc XC args s mc ms free) (F0 m pc ls rest) := by
  obtain ⟨sx, sb, sm, so, sh⟩ := S
  obtain ⟨sa, hstr⟩ := hX.2 _ hq
  exact vx_throwS (names := XNM) (A := A0) sx sb hl so (by decide +kernel) (by decide +kernel) (sh _ (tb_in q_xk_a)) (sh _ (tb_in q_xi_a)) hstr (q_at_a sh hX) q_xg_a hZ.1 hZ.2 hS (hsz.trans sm.symm) d0 d3 d4 d6 d9 (fun x h => (ht x h).elim) hR.1 hR.2.1 hR.2.2.1 hR.2.2.2 hlocks hx hf hm.1 hm.2
/-- throw new IllegalArgumentException(".."), the text by a wide index -/
theorem k_thaW (S : CallFix p m c cc nL s args (c0 :: TB) RX5) (hl : l.stackTraces = false) (hX : XW s) (hZ : ZX A0 s s.heap) (hS : va_S A0 s.heap H locs) (is : Nat) (tx : String) (hq : (is, tx) ∈ XTX) (hsz : ls.size = nL)
    (d0 : decode cc pc = .ok (.new 54, 3)) (d3 : decode cc (pc + 3) = .ok (.dup, 1)) (d4 : decode cc (pc + 4) = .ok (.ldc_w is, 3)) (d6 : decode cc (pc + 7) = .ok (.invokespecial 58, 3)) (d9 : decode cc (pc + 10) = .ok (.athrow, 1))
    (ht : ∀ x ∈ c.exceptionTable.toList, False) (hR : 5 < R.frames ∧ (rest.map fun v => v.category).sum + 82 ≤ R.locals ∧ cells + 1 ≤ R.cells ∧ slots + 6 ≤ R.slots) (hlocks : meth.locks = false)
    (hx : ∀ t : State, s.vm.Alike t.vm → H.size ≤ t.heap.size → (∀ q : Nat, q < H.size → t.heap[q]? = H[q]?) → XC "java/lang/IllegalArgumentException" s t) (hf : ∀ z ∈ locs, free z.base) (hm : cells + 1 ≤ mc ∧ slots + 6 ≤ ms) :
    W p l e R s m args below meth c H locs cells slots (vx_MQ below Qc XC args s mc ms free) (F0 m pc ls rest) := by
  obtain ⟨sx, sb, sm, so, sh⟩ := S
  obtain ⟨sa, hstr⟩ := hX.2 _ hq
  exact vx_throwSW (names := XNM) (A := A0) sx sb hl so (by decide +kernel) (by decide +kernel) (sh _ (tb_in q_xk_a)) (sh _ (tb_in q_xi_a)) hstr (q_at_a sh hX) q_xg_a hZ.1 hZ.2 hS (hsz.trans sm.symm) d0 d3 d4 d6 d9 (fun x h => (ht x h).elim) hR.1 hR.2.1 hR.2.2.1 hR.2.2.2 hlocks hx hf hm.1 hm.2
/-- throw new IllegalStateException("..") -/
theorem k_ths (S : CallFix p m c cc nL s args (c0 :: TB) RX5) (hl : l.stackTraces = false) (hX : XW s) (hZ : ZX A0 s s.heap) (hS : va_S A0 s.heap H locs) (is : Nat) (tx : String) (hq : (is, tx) ∈ XTX) (hsz : ls.size = nL)
    (d0 : decode cc pc = .ok (.new 65, 3)) (d3 : decode cc (pc + 3) = .ok (.dup, 1)) (d4 : decode cc (pc + 4) = .ok (.ldc is, 2)) (d6 : decode cc (pc + 6) = .ok (.invokespecial 69, 3)) (d9 : decode cc (pc + 9) = .ok (.athrow, 1))
    (ht : ∀ x ∈ c.exceptionTable.toList, False) (hR : 5 < R.frames ∧ (rest.map fun v => v.category).sum + 82 ≤ R.locals ∧ cells + 1 ≤ R.cells ∧ slots + 6 ≤ R.slots) (hlocks : meth.locks = false)
    (hx : ∀ t : State, s.vm.Alike t.vm → H.size ≤ t.heap.size → (∀ q : Nat, q < H.size → t.heap[q]? = H[q]?) → XC "java/lang/IllegalStateException" s t) (hf : ∀ z ∈ locs, free z.base) (hm : cells + 1 ≤ mc ∧ slots + 6 ≤ ms) :
    W p l e R s m args below meth c H locs cells slots (vx_MQ below Qc XC args s mc ms free) (F0 m pc ls rest) := by
  obtain ⟨sx, sb, sm, so, sh⟩ := S
  obtain ⟨sa, hstr⟩ := hX.2 _ hq
  exact vx_throwS (names := XNM) (A := A0) sx sb hl so (by decide +kernel) (by decide +kernel) (sh _ (tb_in q_xk_s)) (sh _ (tb_in q_xi_s)) hstr (q_at_s sh hX) q_xg_s hZ.1 hZ.2 hS (hsz.trans sm.symm) d0 d3 d4 d6 d9 (fun x h => (ht x h).elim) hR.1 hR.2.1 hR.2.2.1 hR.2.2.2 hlocks hx hf hm.1 hm.2
/-- throw new IllegalStateException(".."), the text by a wide index -/
theorem k_thsW (S : CallFix p m c cc nL s args (c0 :: TB) RX5) (hl : l.stackTraces = false) (hX : XW s) (hZ : ZX A0 s s.heap) (hS : va_S A0 s.heap H locs) (is : Nat) (tx : String) (hq : (is, tx) ∈ XTX) (hsz : ls.size = nL)
    (d0 : decode cc pc = .ok (.new 65, 3)) (d3 : decode cc (pc + 3) = .ok (.dup, 1)) (d4 : decode cc (pc + 4) = .ok (.ldc_w is, 3)) (d6 : decode cc (pc + 7) = .ok (.invokespecial 69, 3)) (d9 : decode cc (pc + 10) = .ok (.athrow, 1))
    (ht : ∀ x ∈ c.exceptionTable.toList, False) (hR : 5 < R.frames ∧ (rest.map fun v => v.category).sum + 82 ≤ R.locals ∧ cells + 1 ≤ R.cells ∧ slots + 6 ≤ R.slots) (hlocks : meth.locks = false)
    (hx : ∀ t : State, s.vm.Alike t.vm → H.size ≤ t.heap.size → (∀ q : Nat, q < H.size → t.heap[q]? = H[q]?) → XC "java/lang/IllegalStateException" s t) (hf : ∀ z ∈ locs, free z.base) (hm : cells + 1 ≤ mc ∧ slots + 6 ≤ ms) :
    W p l e R s m args below meth c H locs cells slots (vx_MQ below Qc XC args s mc ms free) (F0 m pc ls rest) := by
  obtain ⟨sx, sb, sm, so, sh⟩ := S
  obtain ⟨sa, hstr⟩ := hX.2 _ hq
  exact vx_throwSW (names := XNM) (A := A0) sx sb hl so (by decide +kernel) (by decide +kernel) (sh _ (tb_in q_xk_s)) (sh _ (tb_in q_xi_s)) hstr (q_at_s sh hX) q_xg_s hZ.1 hZ.2 hS (hsz.trans sm.symm) d0 d3 d4 d6 d9 (fun x h => (ht x h).elim) hR.1 hR.2.1 hR.2.2.1 hR.2.2.2 hlocks hx hf hm.1 hm.2
/-- throw new IndexOutOfBoundsException("..") -/
theorem k_thx (S : CallFix p m c cc nL s args (c0 :: TB) RX5) (hl : l.stackTraces = false) (hX : XW s) (hZ : ZX A0 s s.heap) (hS : va_S A0 s.heap H locs) (is : Nat) (tx : String) (hq : (is, tx) ∈ XTX) (hsz : ls.size = nL)
    (d0 : decode cc pc = .ok (.new 336, 3)) (d3 : decode cc (pc + 3) = .ok (.dup, 1)) (d4 : decode cc (pc + 4) = .ok (.ldc is, 2)) (d6 : decode cc (pc + 6) = .ok (.invokespecial 340, 3)) (d9 : decode cc (pc + 9) = .ok (.athrow, 1))
    (ht : ∀ x ∈ c.exceptionTable.toList, False) (hR : 5 < R.frames ∧ (rest.map fun v => v.category).sum + 82 ≤ R.locals ∧ cells + 1 ≤ R.cells ∧ slots + 6 ≤ R.slots) (hlocks : meth.locks = false)
    (hx : ∀ t : State, s.vm.Alike t.vm → H.size ≤ t.heap.size → (∀ q : Nat, q < H.size → t.heap[q]? = H[q]?) → XC "java/lang/IndexOutOfBoundsException" s t) (hf : ∀ z ∈ locs, free z.base) (hm : cells + 1 ≤ mc ∧ slots + 6 ≤ ms) :
    W p l e R s m args below meth c H locs cells slots (vx_MQ below Qc XC args s mc ms free) (F0 m pc ls rest) := by
  obtain ⟨sx, sb, sm, so, sh⟩ := S
  obtain ⟨sa, hstr⟩ := hX.2 _ hq
  exact vx_throwS (names := XNM) (A := A0) sx sb hl so (by decide +kernel) (by decide +kernel) (sh _ (tb_in q_xk_x)) (sh _ (tb_in q_xi_x)) hstr (q_at_x sh hX) q_xg_x hZ.1 hZ.2 hS (hsz.trans sm.symm) d0 d3 d4 d6 d9 (fun x h => (ht x h).elim) hR.1 hR.2.1 hR.2.2.1 hR.2.2.2 hlocks hx hf hm.1 hm.2
/-- throw new IndexOutOfBoundsException(".."), the text by a wide index -/
theorem k_thxW (S : CallFix p m c cc nL s args (c0 :: TB) RX5) (hl : l.stackTraces = false) (hX : XW s) (hZ : ZX A0 s s.heap) (hS : va_S A0 s.heap H locs) (is : Nat) (tx : String) (hq : (is, tx) ∈ XTX) (hsz : ls.size = nL)
    (d0 : decode cc pc = .ok (.new 336, 3)) (d3 : decode cc (pc + 3) = .ok (.dup, 1)) (d4 : decode cc (pc + 4) = .ok (.ldc_w is, 3)) (d6 : decode cc (pc + 7) = .ok (.invokespecial 340, 3)) (d9 : decode cc (pc + 10) = .ok (.athrow, 1))
    (ht : ∀ x ∈ c.exceptionTable.toList, False) (hR : 5 < R.frames ∧ (rest.map fun v => v.category).sum + 82 ≤ R.locals ∧ cells + 1 ≤ R.cells ∧ slots + 6 ≤ R.slots) (hlocks : meth.locks = false)
    (hx : ∀ t : State, s.vm.Alike t.vm → H.size ≤ t.heap.size → (∀ q : Nat, q < H.size → t.heap[q]? = H[q]?) → XC "java/lang/IndexOutOfBoundsException" s t) (hf : ∀ z ∈ locs, free z.base) (hm : cells + 1 ≤ mc ∧ slots + 6 ≤ ms) :
    W p l e R s m args below meth c H locs cells slots (vx_MQ below Qc XC args s mc ms free) (F0 m pc ls rest) := by
  obtain ⟨sx, sb, sm, so, sh⟩ := S
  obtain ⟨sa, hstr⟩ := hX.2 _ hq
  exact vx_throwSW (names := XNM) (A := A0) sx sb hl so (by decide +kernel) (by decide +kernel) (sh _ (tb_in q_xk_x)) (sh _ (tb_in q_xi_x)) hstr (q_at_x sh hX) q_xg_x hZ.1 hZ.2 hS (hsz.trans sm.symm) d0 d3 d4 d6 d9 (fun x h => (ht x h).elim) hR.1 hR.2.1 hR.2.2.1 hR.2.2.2 hlocks hx hf hm.1 hm.2
/-- behind a call that wrote nothing: what was there still is -/
theorem k_old {H1 : Heap} {ws : va_W} (hP : va_P D cls ws H) (h : ∀ q : Nat, q < H.size → ¬ NA H.size q → H1[q]? = H[q]?) : va_P D cls ws H1 := by
  refine hP.kept (fun k q hk => ?_)
  have hlt : q.1 < H.size := (hP k q hk).lt
  exact h q.1 hlt (Nat.not_le_of_lt hlt)
/-- a call of an instance method that reads, answers nothing, and may throw -/
theorem k_Xv {px : String → Prop} {po : Unit → Prop} {ws wc : va_W} {ci q0 : Nat} {qq : vw_C} {fs : List Value} (As : List Value) (is : List Nat) (S : CallFix p m c cc nL s args (c0 :: TB) own)
    (hM : ∀ sz : Nat, vx_Met l y (Cond.code y bytes maxL ret :: TB) rm (PXr (.ref b :: As) D wc tc sz) (va_Qv po (fun _ _ => True) (NA sz)) (vx_X px (fun E u _ => E = u) (NA sz)) mc ms (NA sz))
    (h1 : Cond.methodLink own index y ∈ TB) (h2 : Cond.instanceMethod y ∈ TB) (h3 : Cond.selects C y y ∈ TB) (h4 : Cond.initialized C ∈ TB) (h5 : Cond.code y bytes maxL ret ∈ TB)
    (hd : y.cls = C ∧ y.cls ≠ "java/lang/invoke/MethodHandle" ∧ y.cls ≠ "java/lang/invoke/VarHandle" ∧ (parseMethodDescriptor y.desc).map (fun d => d.parameters.length) = some n) (hn : As.length = n)
    (hrm : rm.cells = mc ∧ rm.slots = ms) (hR : rm.frames + 1 ≤ R.frames ∧ 8 + (maxL + 11) + rm.locals ≤ R.locals)
    (hP : va_P D cls ws H) (hS : va_S A0 s.heap H locs) (hA : ∀ q, s.heap.size ≤ q → A0 q) (hK : va_K D cls tc s) (hN : NW s) (hX : XW s) (hZ : ZX A0 s s.heap)
    (hsC : is.filterMap (fun i => ws[i]?) = wc)
    (he : wc[q0]? = some (b, .inr (ci, fs))) (hc : cls[ci]? = some qq) (hC : qq.1 = C) (hsz : ls.size = nL) (hst : st0 = As.reverse ++ .ref b :: rest) (hcat : (rest.map fun v => v.category).sum ≤ 8)
    (hdg : decode cc pc = .ok (.invokevirtual index, 3)) (hf : cells + mc ≤ R.cells ∧ slots + ms ≤ R.slots)
    (kx : ∀ (E : String) (ce : Cell) (q9 : Addr) (H1 : Heap) (locs1 : List Loc), px E → va_P D cls ws H1 → va_S A0 s.heap H1 locs1 → H1[q9]? = some ce → ce.vm = .none → s.vm.findClass E = some ce.cls → vx_W p l e R s m args below meth c H1 locs1 (cells + mc) (slots + ms) Q (F0 m pc ls rest) q9)
    (kk : ∀ (H1 : Heap) (locs1 : List Loc), po () → va_P D cls ws H1 → va_S A0 s.heap H1 locs1 → W p l e R s m args below meth c H1 locs1 (cells + mc) (slots + ms) Q (F0 m (pc + 3) ls rest)) : W p l e R s m args below meth c H locs cells slots Q (F0 m pc ls st0) := by
  subst hC
  have hPc : va_P D cls wc H := hP.sub is hsC
  have hZH : ZX (NA H.size) s H := (hZ.kept hS.2.1).narrow (fun q h => hA q (Nat.le_trans hS.1 h))
  have hfr : ∀ q, NA H.size q → A0 q := fun q h => hA q (Nat.le_trans hS.1 h)
  refine vx_callv (vx_runV (As := As) (rest := rest) S (hM H.size) (cwV n S.2.2.2.2 (tb_goodV h1 h2 h3 h4 h5) rfl hrm.1 hrm.2 hd hR) ⟨PXr_blind, va_recv hK hPc hc he, fun U hU hW => ⟨rfl, by rw [hU], by rw [hU]; exact hPc, va_K.moved hW.alike hK, hN.warm hW, hX.warm hW, by rw [hU]; exact hZH.moved hW.alike⟩⟩ rfl hn hsz hst (lv_room hcat) hdg hf) hS (fun q _ h => hfr q h) hfr (fun q _ h => hfr q h) (fun E ce q9 u t H1 locs1 ht hvm hp hB hz1 hk1 hS1 hc1 hc2 hc3 => ?_) (fun u t H1 locs1 ht hvm hw hB hz1 hk1 hS1 => ?_)
  · cases hB
    exact kx E ce q9 H1 locs1 hp (k_old hP hk1) hS1 hc1 hc2 hc3
  · exact kk H1 locs1 hw (k_old hP hk1) hS1
/-- the same of a static method of the own class -/
theorem k_Xs {px : String → Prop} {po : Unit → Prop} {ws : va_W} (As : List Value) (S : CallFix p m c cc nL s args (c0 :: TB) own)
    (hM : ∀ sz : Nat, vx_Met l y (Cond.code y bytes maxL ret :: TB) rm (PXr As D [] tc sz) (va_Qv po (fun _ _ => True) (NA sz)) (vx_X px (fun E u _ => E = u) (NA sz)) mc ms (NA sz))
    (h1 : Cond.methodLink own index y ∈ TB) (h2 : Cond.static y ∈ TB) (h4 : Cond.initialized own ∈ TB) (h5 : Cond.code y bytes maxL ret ∈ TB)
    (hd : y.cls = own ∧ y.cls ≠ "java/lang/invoke/MethodHandle" ∧ y.cls ≠ "java/lang/invoke/VarHandle" ∧ (parseMethodDescriptor y.desc).map (fun d => d.parameters.length) = some n) (hn : As.length = n)
    (hrm : rm.cells = mc ∧ rm.slots = ms) (hR : rm.frames + 1 ≤ R.frames ∧ 8 + (maxL + 11) + rm.locals ≤ R.locals)
    (hP : va_P D cls ws H) (hS : va_S A0 s.heap H locs) (hA : ∀ q, s.heap.size ≤ q → A0 q) (hK : va_K D cls tc s) (hN : NW s) (hX : XW s) (hZ : ZX A0 s s.heap)
    (hsz : ls.size = nL) (hst : st0 = As.reverse ++ rest) (hcat : (rest.map fun v => v.category).sum ≤ 8)
    (hdg : decode cc pc = .ok (.invokestatic index, 3)) (hf : cells + mc ≤ R.cells ∧ slots + ms ≤ R.slots)
    (kx : ∀ (E : String) (ce : Cell) (q9 : Addr) (H1 : Heap) (locs1 : List Loc), px E → va_P D cls ws H1 → va_S A0 s.heap H1 locs1 → H1[q9]? = some ce → ce.vm = .none → s.vm.findClass E = some ce.cls → vx_W p l e R s m args below meth c H1 locs1 (cells + mc) (slots + ms) Q (F0 m pc ls rest) q9)
    (kk : ∀ (H1 : Heap) (locs1 : List Loc), po () → va_P D cls ws H1 → va_S A0 s.heap H1 locs1 → W p l e R s m args below meth c H1 locs1 (cells + mc) (slots + ms) Q (F0 m (pc + 3) ls rest)) : W p l e R s m args below meth c H locs cells slots Q (F0 m pc ls st0) := by
  have hZH : ZX (NA H.size) s H := (hZ.kept hS.2.1).narrow (fun q h => hA q (Nat.le_trans hS.1 h))
  have hfr : ∀ q, NA H.size q → A0 q := fun q h => hA q (Nat.le_trans hS.1 h)
  refine vx_callv (vx_runS (As := As) (rest := rest) S (hM H.size) (cwS n S.2.2.2.2 (tb_goodS h1 h2 h4 h5) rfl hrm.1 hrm.2 hd hR) ⟨PXr_blind, fun U hU hW => ⟨rfl, by rw [hU], (fun k q hk => by cases hk), va_K.moved hW.alike hK, hN.warm hW, hX.warm hW, by rw [hU]; exact hZH.moved hW.alike⟩⟩ rfl hn hsz hst (lv_room hcat) hdg hf) hS (fun q _ h => hfr q h) hfr (fun q _ h => hfr q h) (fun E ce q9 u t H1 locs1 ht hvm hp hB hz1 hk1 hS1 hc1 hc2 hc3 => ?_) (fun u t H1 locs1 ht hvm hw hB hz1 hk1 hS1 => ?_)
  · cases hB
    exact kx E ce q9 H1 locs1 hp (k_old hP hk1) hS1 hc1 hc2 hc3
  · exact kk H1 locs1 hw (k_old hP hk1) hS1
end KX
