section
variable {s : State} {args : Array Value}
theorem st_i (hts : ∀ w ∈ lw_tbl, w.before args s = true) (i : Nat) {w : Cond} (h : tables_1[i]? = some w) : w.before args s = true := hts w (List.mem_append_right _ (List.mem_of_getElem? h))
theorem st_tt (hts : ∀ w ∈ lw_tbl, w.before args s = true) : ∀ w ∈ Cond.tt :: TB, w.before args s = true := by
  intro w hw
  rcases List.mem_cons.mp hw with rfl | h
  · rfl
  · exact hts w (List.mem_filter.mp h).1
set_option maxRecDepth 100000 in
theorem st_N (hts : ∀ w ∈ lw_tbl, w.before args s = true) : NW s := by
  exact ⟨va_Nw.of (w := Cond.methodLinkNest RX5 25 yX3_init "DroverPlan") rfl (st_i hts 147 (by decide +kernel)), va_Nw.of (w := Cond.methodLinkNest RX5 39 yX1_init "DroverPlan") rfl (st_i hts 194 (by decide +kernel)), va_Nw.of (w := Cond.methodLinkNest RX2 23 yX5_jobOf "DroverPlan") rfl (st_i hts 358 (by decide +kernel)), va_Nw.of (w := Cond.methodLinkNest RX2 44 yX5_fetchOf "DroverPlan") rfl (st_i hts 390 (by decide +kernel)), va_Nw.of (w := Cond.methodLinkNest RX2 26 yX5_bringOf "DroverPlan") rfl (st_i hts 391 (by decide +kernel)), va_Nw.of (w := Cond.methodLinkNest RX2 32 yX5_isFetch "DroverPlan") rfl (st_i hts 408 (by decide +kernel)), va_Nw.of (w := Cond.methodLinkNest RX0 52 yX5_fetchOf "DroverPlan") rfl (st_i hts 608 (by decide +kernel)), va_Nw.of (w := Cond.methodLinkNest RX0 59 yX5_bringOf "DroverPlan") rfl (st_i hts 618 (by decide +kernel)), va_AO.of (st_i hts 80 (by decide +kernel))⟩
set_option maxRecDepth 100000 in
theorem st_s56 (hts : ∀ w ∈ lw_tbl, w.before args s = true) (hgv : (Jvm.Cond.and given_1 narrow_1).before args s = true) : ∃ a, vk_R RX5 56 "x and y are 0 to 60" a s := by
  obtain ⟨a, c, cA, kA, q1, -⟩ := Cond.exactly_spec (args := args) (first := s) (o := none) (s := s) (idx := []) (t := .string "DroverPlan" 56) (cls := "java/lang/String") (flat_of_before _ hgv _ (by decide +kernel))
  exact ⟨a, vk_R.of (st_i hts 513 (by decide +kernel)) q1⟩
set_option maxRecDepth 100000 in
theorem st_s67 (hts : ∀ w ∈ lw_tbl, w.before args s = true) (hgv : (Jvm.Cond.and given_1 narrow_1).before args s = true) : ∃ a, vk_R RX5 67 "there are 12 places" a s := by
  obtain ⟨a, c, cA, kA, q1, -⟩ := Cond.exactly_spec (args := args) (first := s) (o := none) (s := s) (idx := []) (t := .string "DroverPlan" 67) (cls := "java/lang/String") (flat_of_before _ hgv _ (by decide +kernel))
  exact ⟨a, vk_R.of (st_i hts 549 (by decide +kernel)) q1⟩
set_option maxRecDepth 100000 in
theorem st_s338 (hts : ∀ w ∈ lw_tbl, w.before args s = true) (hgv : (Jvm.Cond.and given_1 narrow_1).before args s = true) : ∃ a, vk_R RX5 338 "no such place" a s := by
  obtain ⟨a, c, cA, kA, q1, -⟩ := Cond.exactly_spec (args := args) (first := s) (o := none) (s := s) (idx := []) (t := .string "DroverPlan" 338) (cls := "java/lang/String") (flat_of_before _ hgv _ (by decide +kernel))
  exact ⟨a, vk_R.of (st_i hts 584 (by decide +kernel)) q1⟩
set_option maxRecDepth 100000 in
theorem st_s78 (hts : ∀ w ∈ lw_tbl, w.before args s = true) (hgv : (Jvm.Cond.and given_1 narrow_1).before args s = true) : ∃ a, vk_R RX5 78 "capacity is 1 to 50" a s := by
  obtain ⟨a, c, cA, kA, q1, -⟩ := Cond.exactly_spec (args := args) (first := s) (o := none) (s := s) (idx := []) (t := .string "DroverPlan" 78) (cls := "java/lang/String") (flat_of_before _ hgv _ (by decide +kernel))
  exact ⟨a, vk_R.of (st_i hts 591 (by decide +kernel)) q1⟩
set_option maxRecDepth 100000 in
theorem st_s329 (hts : ∀ w ∈ lw_tbl, w.before args s = true) (hgv : (Jvm.Cond.and given_1 narrow_1).before args s = true) : ∃ a, vk_R RX5 329 "from is 0 to 1440, to is from to 1440" a s := by
  obtain ⟨a, c, cA, kA, q1, -⟩ := Cond.exactly_spec (args := args) (first := s) (o := none) (s := s) (idx := []) (t := .string "DroverPlan" 329) (cls := "java/lang/String") (flat_of_before _ hgv _ (by decide +kernel))
  exact ⟨a, vk_R.of (st_i hts 595 (by decide +kernel)) q1⟩
set_option maxRecDepth 100000 in
theorem st_s84 (hts : ∀ w ∈ lw_tbl, w.before args s = true) (hgv : (Jvm.Cond.and given_1 narrow_1).before args s = true) : ∃ a, vk_R RX5 84 "price is 1 to 9, fixed 0 to 200" a s := by
  obtain ⟨a, c, cA, kA, q1, -⟩ := Cond.exactly_spec (args := args) (first := s) (o := none) (s := s) (idx := []) (t := .string "DroverPlan" 84) (cls := "java/lang/String") (flat_of_before _ hgv _ (by decide +kernel))
  exact ⟨a, vk_R.of (st_i hts 596 (by decide +kernel)) q1⟩
set_option maxRecDepth 100000 in
theorem st_s89 (hts : ∀ w ∈ lw_tbl, w.before args s = true) (hgv : (Jvm.Cond.and given_1 narrow_1).before args s = true) : ∃ a, vk_R RX5 89 "there are 3 vehicles" a s := by
  obtain ⟨a, c, cA, kA, q1, -⟩ := Cond.exactly_spec (args := args) (first := s) (o := none) (s := s) (idx := []) (t := .string "DroverPlan" 89) (cls := "java/lang/String") (flat_of_before _ hgv _ (by decide +kernel))
  exact ⟨a, vk_R.of (st_i hts 597 (by decide +kernel)) q1⟩
set_option maxRecDepth 100000 in
theorem st_s109 (hts : ∀ w ∈ lw_tbl, w.before args s = true) (hgv : (Jvm.Cond.and given_1 narrow_1).before args s = true) : ∃ a, vk_R RX5 109 "load is 1 to 20, minutes 0 to 30, fine 0 to 999" a s := by
  obtain ⟨a, c, cA, kA, q1, -⟩ := Cond.exactly_spec (args := args) (first := s) (o := none) (s := s) (idx := []) (t := .string "DroverPlan" 109) (cls := "java/lang/String") (flat_of_before _ hgv _ (by decide +kernel))
  exact ⟨a, vk_R.of (st_i hts 602 (by decide +kernel)) q1⟩
set_option maxRecDepth 100000 in
theorem st_s114 (hts : ∀ w ∈ lw_tbl, w.before args s = true) (hgv : (Jvm.Cond.and given_1 narrow_1).before args s = true) : ∃ a, vk_R RX5 114 "there are 9 jobs" a s := by
  obtain ⟨a, c, cA, kA, q1, -⟩ := Cond.exactly_spec (args := args) (first := s) (o := none) (s := s) (idx := []) (t := .string "DroverPlan" 114) (cls := "java/lang/String") (flat_of_before _ hgv _ (by decide +kernel))
  exact ⟨a, vk_R.of (st_i hts 603 (by decide +kernel)) q1⟩
set_option maxRecDepth 100000 in
theorem st_s345 (hts : ∀ w ∈ lw_tbl, w.before args s = true) (hgv : (Jvm.Cond.and given_1 narrow_1).before args s = true) : ∃ a, vk_R RX5 345 "no such job" a s := by
  obtain ⟨a, c, cA, kA, q1, -⟩ := Cond.exactly_spec (args := args) (first := s) (o := none) (s := s) (idx := []) (t := .string "DroverPlan" 345) (cls := "java/lang/String") (flat_of_before _ hgv _ (by decide +kernel))
  exact ⟨a, vk_R.of (st_i hts 627 (by decide +kernel)) q1⟩
set_option maxRecDepth 100000 in
theorem st_s127 (hts : ∀ w ∈ lw_tbl, w.before args s = true) (hgv : (Jvm.Cond.and given_1 narrow_1).before args s = true) : ∃ a, vk_R RX5 127 "the job is set" a s := by
  obtain ⟨a, c, cA, kA, q1, -⟩ := Cond.exactly_spec (args := args) (first := s) (o := none) (s := s) (idx := []) (t := .string "DroverPlan" 127) (cls := "java/lang/String") (flat_of_before _ hgv _ (by decide +kernel))
  exact ⟨a, vk_R.of (st_i hts 628 (by decide +kernel)) q1⟩
set_option maxRecDepth 100000 in
theorem st_s347 (hts : ∀ w ∈ lw_tbl, w.before args s = true) (hgv : (Jvm.Cond.and given_1 narrow_1).before args s = true) : ∃ a, vk_R RX5 347 "the job is planned" a s := by
  obtain ⟨a, c, cA, kA, q1, -⟩ := Cond.exactly_spec (args := args) (first := s) (o := none) (s := s) (idx := []) (t := .string "DroverPlan" 347) (cls := "java/lang/String") (flat_of_before _ hgv _ (by decide +kernel))
  exact ⟨a, vk_R.of (st_i hts 642 (by decide +kernel)) q1⟩
set_option maxRecDepth 100000 in
theorem st_s341 (hts : ∀ w ∈ lw_tbl, w.before args s = true) (hgv : (Jvm.Cond.and given_1 narrow_1).before args s = true) : ∃ a, vk_R RX5 341 "no such vehicle" a s := by
  obtain ⟨a, c, cA, kA, q1, -⟩ := Cond.exactly_spec (args := args) (first := s) (o := none) (s := s) (idx := []) (t := .string "DroverPlan" 341) (cls := "java/lang/String") (flat_of_before _ hgv _ (by decide +kernel))
  exact ⟨a, vk_R.of (st_i hts 660 (by decide +kernel)) q1⟩
set_option maxRecDepth 100000 in
theorem st_s166 (hts : ∀ w ∈ lw_tbl, w.before args s = true) (hgv : (Jvm.Cond.and given_1 narrow_1).before args s = true) : ∃ a, vk_R RX5 166 "0 <= i < k <= n + 1" a s := by
  obtain ⟨a, c, cA, kA, q1, -⟩ := Cond.exactly_spec (args := args) (first := s) (o := none) (s := s) (idx := []) (t := .string "DroverPlan" 166) (cls := "java/lang/String") (flat_of_before _ hgv _ (by decide +kernel))
  exact ⟨a, vk_R.of (st_i hts 661 (by decide +kernel)) q1⟩
set_option maxRecDepth 100000 in
theorem st_s197 (hts : ∀ w ∈ lw_tbl, w.before args s = true) (hgv : (Jvm.Cond.and given_1 narrow_1).before args s = true) : ∃ a, vk_R RX5 197 "the job is open, or set" a s := by
  obtain ⟨a, c, cA, kA, q1, -⟩ := Cond.exactly_spec (args := args) (first := s) (o := none) (s := s) (idx := []) (t := .string "DroverPlan" 197) (cls := "java/lang/String") (flat_of_before _ hgv _ (by decide +kernel))
  exact ⟨a, vk_R.of (st_i hts 666 (by decide +kernel)) q1⟩
set_option maxRecDepth 100000 in
theorem st_s208 (hts : ∀ w ∈ lw_tbl, w.before args s = true) (hgv : (Jvm.Cond.and given_1 narrow_1).before args s = true) : ∃ a, vk_R RX5 208 "many is 1 to 9" a s := by
  obtain ⟨a, c, cA, kA, q1, -⟩ := Cond.exactly_spec (args := args) (first := s) (o := none) (s := s) (idx := []) (t := .string "DroverPlan" 208) (cls := "java/lang/String") (flat_of_before _ hgv _ (by decide +kernel))
  exact ⟨a, vk_R.of (st_i hts 695 (by decide +kernel)) q1⟩
set_option maxRecDepth 100000 in
theorem st_s229 (hts : ∀ w ∈ lw_tbl, w.before args s = true) (hgv : (Jvm.Cond.and given_1 narrow_1).before args s = true) : ∃ a, vk_R RX5 229 "most is 1 to 10" a s := by
  obtain ⟨a, c, cA, kA, q1, -⟩ := Cond.exactly_spec (args := args) (first := s) (o := none) (s := s) (idx := []) (t := .string "DroverPlan" 229) (cls := "java/lang/String") (flat_of_before _ hgv _ (by decide +kernel))
  exact ⟨a, vk_R.of (st_i hts 708 (by decide +kernel)) q1⟩
set_option maxRecDepth 100000 in
theorem st_s331 (hts : ∀ w ∈ lw_tbl, w.before args s = true) (hgv : (Jvm.Cond.and given_1 narrow_1).before args s = true) : ∃ a, vk_R RX5 331 "kind is 0 to 3" a s := by
  obtain ⟨a, c, cA, kA, q1, -⟩ := Cond.exactly_spec (args := args) (first := s) (o := none) (s := s) (idx := []) (t := .string "DroverPlan" 331) (cls := "java/lang/String") (flat_of_before _ hgv _ (by decide +kernel))
  exact ⟨a, vk_R.of (st_i hts 740 (by decide +kernel)) q1⟩
set_option maxRecDepth 100000 in
theorem st_s239 (hts : ∀ w ∈ lw_tbl, w.before args s = true) (hgv : (Jvm.Cond.and given_1 narrow_1).before args s = true) : ∃ a, vk_R RX5 239 "minutes is 1 to 1440" a s := by
  obtain ⟨a, c, cA, kA, q1, -⟩ := Cond.exactly_spec (args := args) (first := s) (o := none) (s := s) (idx := []) (t := .string "DroverPlan" 239) (cls := "java/lang/String") (flat_of_before _ hgv _ (by decide +kernel))
  exact ⟨a, vk_R.of (st_i hts 749 (by decide +kernel)) q1⟩
set_option maxRecDepth 100000 in
theorem st_s244 (hts : ∀ w ∈ lw_tbl, w.before args s = true) (hgv : (Jvm.Cond.and given_1 narrow_1).before args s = true) : ∃ a, vk_R RX5 244 "the day ends, or a route is not right" a s := by
  obtain ⟨a, c, cA, kA, q1, -⟩ := Cond.exactly_spec (args := args) (first := s) (o := none) (s := s) (idx := []) (t := .string "DroverPlan" 244) (cls := "java/lang/String") (flat_of_before _ hgv _ (by decide +kernel))
  exact ⟨a, vk_R.of (st_i hts 750 (by decide +kernel)) q1⟩
set_option maxRecDepth 100000 in
theorem st_s343 (hts : ∀ w ∈ lw_tbl, w.before args s = true) (hgv : (Jvm.Cond.and given_1 narrow_1).before args s = true) : ∃ a, vk_R RX5 343 "no such stop" a s := by
  obtain ⟨a, c, cA, kA, q1, -⟩ := Cond.exactly_spec (args := args) (first := s) (o := none) (s := s) (idx := []) (t := .string "DroverPlan" 343) (cls := "java/lang/String") (flat_of_before _ hgv _ (by decide +kernel))
  exact ⟨a, vk_R.of (st_i hts 770 (by decide +kernel)) q1⟩
theorem st_s (hts : ∀ w ∈ lw_tbl, w.before args s = true) (hgv : (Jvm.Cond.and given_1 narrow_1).before args s = true) : ∀ q ∈ XTX, ∃ a, vk_R RX5 q.1 q.2 a s := List.forall_mem_cons.mpr ⟨st_s56 hts hgv, List.forall_mem_cons.mpr ⟨st_s67 hts hgv, List.forall_mem_cons.mpr ⟨st_s338 hts hgv, List.forall_mem_cons.mpr ⟨st_s78 hts hgv, List.forall_mem_cons.mpr ⟨st_s329 hts hgv, List.forall_mem_cons.mpr ⟨st_s84 hts hgv, List.forall_mem_cons.mpr ⟨st_s89 hts hgv, List.forall_mem_cons.mpr ⟨st_s109 hts hgv, List.forall_mem_cons.mpr ⟨st_s114 hts hgv, List.forall_mem_cons.mpr ⟨st_s345 hts hgv, List.forall_mem_cons.mpr ⟨st_s127 hts hgv, List.forall_mem_cons.mpr ⟨st_s347 hts hgv, List.forall_mem_cons.mpr ⟨st_s341 hts hgv, List.forall_mem_cons.mpr ⟨st_s166 hts hgv, List.forall_mem_cons.mpr ⟨st_s197 hts hgv, List.forall_mem_cons.mpr ⟨st_s208 hts hgv, List.forall_mem_cons.mpr ⟨st_s229 hts hgv, List.forall_mem_cons.mpr ⟨st_s331 hts hgv, List.forall_mem_cons.mpr ⟨st_s239 hts hgv, List.forall_mem_cons.mpr ⟨st_s244 hts hgv, List.forall_mem_cons.mpr ⟨st_s343 hts hgv, fun _ h => absurd h List.not_mem_nil⟩⟩⟩⟩⟩⟩⟩⟩⟩⟩⟩⟩⟩⟩⟩⟩⟩⟩⟩⟩⟩
set_option maxRecDepth 100000 in
theorem st_X (hts : ∀ w ∈ lw_tbl, w.before args s = true) (hgv : (Jvm.Cond.and given_1 narrow_1).before args s = true) : XW s := by
  exact ⟨⟨va_Nw.of (w := .declares (Bundle.initS "java/lang/RuntimeException")) rfl (st_i hts 476 (by decide +kernel)), va_Nw.of (w := .declares (Bundle.initS "java/lang/Exception")) rfl (st_i hts 478 (by decide +kernel)), va_Nw.of (w := .declares (Bundle.initS "java/lang/Throwable")) rfl (st_i hts 480 (by decide +kernel)), va_Nw.of (w := .castable "java/lang/IllegalArgumentException" "java/lang/IllegalArgumentException") rfl (st_i hts 474 (by decide +kernel)), va_Nw.of (w := .castable "java/lang/IllegalStateException" "java/lang/IllegalStateException") rfl (st_i hts 542 (by decide +kernel)), va_Nw.of (w := .castable "java/lang/IndexOutOfBoundsException" "java/lang/IndexOutOfBoundsException") rfl (st_i hts 577 (by decide +kernel))⟩, st_s hts hgv⟩
set_option maxRecDepth 100000 in
theorem st_Z (hts : ∀ w ∈ lw_tbl, w.before args s = true) (hgv : (Jvm.Cond.and given_1 narrow_1).before args s = true) : ZX (NA s.heap.size) s s.heap := by
  have hA : ∀ a : Nat, a < s.heap.size → ¬ NA s.heap.size a := fun a h1 h2 => absurd h2 (Nat.not_le.mpr h1)
  exact ⟨vx_Zqof (args := args) (st_i hts 499 (by decide +kernel)) (st_i hts 8 (by decide +kernel)) (flat_of_before _ hgv _ (by decide +kernel)) hA, vx_Zqof (args := args) (st_i hts 501 (by decide +kernel)) (st_i hts 8 (by decide +kernel)) (flat_of_before _ hgv _ (by decide +kernel)) hA⟩
theorem st_A {t : FieldType} {c : ClassId} {k : Class} {comp : ClassId} (h1 : s.vm.classes[c]? = some k) (h2 : k.kind = .array comp t) : ArrOfT s c t := fun N z => ⟨(fun k h => by cases h), k, h1, comp, h2⟩
set_option maxRecDepth 100000 in
theorem st_K (hts : ∀ w ∈ lw_tbl, w.before args s = true) : ∃ (dC : Nat → ClassId) (dI : Nat → Nat → Nat) (cI cV : ClassId), va_K (dC, dI) cls (TY cI cV) s := by
  have htb : ∀ w ∈ TB, w.before args s = true := fun w h => hts w (List.mem_filter.mp h).1
  obtain ⟨c0, i0, k0⟩ := u_known (C := RX0) (T := TX0) (N := 12) (n := 12) htb inX0 (htb _ q_in_X0)
  obtain ⟨c1, i1, k1⟩ := u_known (C := RX1) (T := TX1) (N := 6) (n := 6) htb inX1 (htb _ q_in_X1)
  obtain ⟨c2, i2, k2⟩ := u_known (C := RX2) (T := TX2) (N := 2) (n := 2) htb inX2 (htb _ q_in_X2)
  obtain ⟨c3, i3, k3⟩ := u_known (C := RX3) (T := TX3) (N := 10) (n := 10) htb inX3 (htb _ q_in_X3)
  obtain ⟨c4, i4, k4⟩ := u_known (C := RX4) (T := TX4) (N := 11) (n := 11) htb inX4 (htb _ q_in_X4)
  obtain ⟨c5, i5, k5⟩ := u_known (C := RX5) (T := TX5) (N := 9) (n := 9) htb inX5 (htb _ q_in_X5)
  obtain ⟨cI, kI, pI, fI, gI, hI⟩ := Cond.arrayClass_spec (args := args) (first := s) (o := none) (s := s) (idx := []) (type := .int) (htb _ q_ac_int)
  obtain ⟨pV, cV, kV, eV, -, gV, hV, fV⟩ := Cond.arrayOver_spec (args := args) (first := s) (o := none) (s := s) (idx := []) (st_i hts 80 (by decide +kernel) : (Cond.arrayOver (.object "DroverPlan$Vehicle")).before args s = true)
  refine ⟨fun k => [c0, c1, c2, c3, c4, c5].getD k 0, fun k => ([i0, i1, i2, i3, i4, i5] : List (Nat → Nat)).getD k i0, cI, cV, ⟨?_, ?_⟩⟩
  · intro k q hq
    match k, hq with
    | 0, hq => cases hq; exact k0
    | 1, hq => cases hq; exact k1
    | 2, hq => cases hq; exact k2
    | 3, hq => cases hq; exact k3
    | 4, hq => cases hq; exact k4
    | 5, hq => cases hq; exact k5
    | k + 6, hq => simp [cls] at hq
  · intro k q hq
    match k, hq with
    | 0, hq => cases hq; exact ⟨st_A gI hI, fI⟩
    | 1, hq => cases hq; exact ⟨st_A gV hV, kV, pV, gV, hV, eV, fV⟩
    | k + 2, hq => simp [TY] at hq
set_option maxRecDepth 100000 in
theorem st_C (hgv : (Jvm.Cond.and given_1 narrow_1).before args s = true) : CW s :=
  ⟨va_Nc.of (args := args) (C := "java/lang/IllegalArgumentException") (T := "java/lang/IndexOutOfBoundsException") (flat_of_before _ hgv _ (by decide +kernel)), va_Nc.of (args := args) (C := "java/lang/IllegalStateException") (T := "java/lang/IndexOutOfBoundsException") (flat_of_before _ hgv _ (by decide +kernel)), va_Nc.of (args := args) (C := "java/lang/IllegalStateException") (T := "java/lang/IllegalArgumentException") (flat_of_before _ hgv _ (by decide +kernel))⟩
end
