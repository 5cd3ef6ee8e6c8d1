abbrev TYP (cI cV cJ cL : ClassId) : List (ClassId × FieldType) := [(cI, .int), (cV, .object "DroverPlan$Vehicle"), (cJ, .array .int), (cL, .long)]
def b01 (b : Bool) : Int32 := if b then 1 else 0
theorem b01_nar (b : Bool) : narrow .boolean (.int (b01 b)) = .int (b01 b) := by cases b <;> rfl
theorem b01_fit (b : Bool) : fits .boolean (.int (b01 b)) = true := by cases b <;> rfl
theorem b01_0 {b : Bool} : b01 b = 0 ↔ b = false := by cases b <;> simp [b01]
section
variable {p : Program} {l : Launch} {e : Env} {R : Room} {s : State} {m : MethodId} {args : Array Value} {below : List Frame} {meth : Method} {c : Code} {H : Heap} {locs : List Loc} {cells slots : Nat} {Q : State → Prop} {pc : Nat} {ls : Array Slot} {rest : List Value}
theorem k_st1 {x y : Int32} (h : x = y) (kk : W p l e R s m args below meth c H locs cells slots Q (F0 m pc ls (.int y :: rest))) : W p l e R s m args below meth c H locs cells slots Q (F0 m pc ls (.int x :: rest)) := by
  subst h; exact kk
theorem k_st2 {x y x2 y2 : Int32} (h : x = y) (h2 : x2 = y2) (kk : W p l e R s m args below meth c H locs cells slots Q (F0 m pc ls (.int y :: .int y2 :: rest))) : W p l e R s m args below meth c H locs cells slots Q (F0 m pc ls (.int x :: .int x2 :: rest)) := by
  subst h; subst h2; exact kk
end
def isPlaceB (NP : Nat) (x : Int32) : Bool := !decide (x < 0) && !decide (nI NP ≤ x)
theorem nI_mul (a b : Nat) : nI a * nI b = nI (a * b) := (Int32.ofNat_mul a b).symm
theorem range_cons {a n : Nat} (h : a < n) : List.range' a (n - a) = a :: List.range' (a + 1) (n - (a + 1)) := by
  rw [show n - a = (n - (a + 1)) + 1 by omega, List.range'_succ]
theorem range_nil {a n : Nat} (h : n ≤ a) : List.range' a (n - a) = [] := by rw [Nat.sub_eq_zero_of_le h]; rfl
def outF (x y z : Int32) : Bool := decide (x < y) || !decide (x ≤ z)
def inB (n : Nat) (x : Int32) : Bool := !decide (x < 0) && decide (x < nI n)
theorem ts9 {x : Bool} : (¬ x = false) ↔ x = true := by cases x <;> simp
set_option maxHeartbeats 4000000 in
set_option maxRecDepth 100000 in
theorem c_X5_isOutside (l : Launch) (x y z : Int32) : Met l yX5_isOutside (Cond.code yX5_isOutside cX5_isOutside 3 (some .boolean) :: TB) ({ frames := 0, cells := 0, slots := 0, locals := 0 } : Room) (va_Pc [.int x, .int y, .int z] (fun _ => True)) (vp_Si (fun r => r = b01 (decide (x < y) || !decide (x ≤ z)))) 0 0 (fun _ => False) := by
  refine Met.ofW (cc := cX5_isOutside) (maxL := 3) (ret := (some .boolean)) (by decide) rfl ?_
  intro p e s m args below meth c s₁ B hml hv
  obtain ⟨rfl, -⟩ := hv
  have hx := B.exec
  have hb := B.bytes
  have hr := B.returns
  have hts := atoms_spec (ws := (Cond.code yX5_isOutside cX5_isOutside 3 (some .boolean) :: TB)) B.pre
  have hown : s.vm.findClass RX5 = some m.cls := findClass_of_methodNamed B.named
  have hlocks := B.notSynchronized
  have hl := lv_entry ([.int x, .int y, .int z]) (n := 3) (Nat.le_of_ble_eq_true rfl)
  rw [lg_entry_eq]
  generalize (lg_sl ([.int x, .int y, .int z]) ++ List.replicate (3 - (lg_sl ([.int x, .int y, .int z])).length) Slot.unset).toArray = ls at hl ⊢
  have hl : lv_has ls 3 [(0, .int x), (1, .int y), (2, .int z)] := hl
  refine lv_iload_n hx hb dX5_isOutside_0 rfl (lv_at hl 0 rfl) ?_
  refine lv_iload_n hx hb dX5_isOutside_1 rfl (lv_at hl 1 rfl) ?_
  refine lv_icmp_lt (tgt := 10) hx hb dX5_isOutside_2 (by decide) (fun c_1 => ?_) (fun c_1 => ?_)
  · refine lv_iconst (v := 1) hx hb dX5_isOutside_10 (by decide) ?_
    refine lv_goto (tgt := 15) hx hb dX5_isOutside_11 (by decide) ?_
    exact W.zret (v := 1) hx hb hr rfl (fun t9 ht9 hW9 => ⟨_, rfl, by simp [b01, c_1], ht9⟩) (fun _ h9 => absurd h9 List.not_mem_nil) dX5_isOutside_15
  · refine lv_iload_n hx hb dX5_isOutside_5 rfl (lv_at hl 0 rfl) ?_
    refine lv_iload_n hx hb dX5_isOutside_6 rfl (lv_at hl 2 rfl) ?_
    refine lv_icmp_le (tgt := 14) hx hb dX5_isOutside_7 (by decide) (fun c_2 => ?_) (fun c_2 => ?_)
    · refine lv_iconst (v := 0) hx hb dX5_isOutside_14 (by decide) ?_
      exact W.zret (v := 0) hx hb hr rfl (fun t9 ht9 hW9 => ⟨_, rfl, by simp [b01, c_1, c_2], ht9⟩) (fun _ h9 => absurd h9 List.not_mem_nil) dX5_isOutside_15
    · refine lv_iconst (v := 1) hx hb dX5_isOutside_10 (by decide) ?_
      refine lv_goto (tgt := 15) hx hb dX5_isOutside_11 (by decide) ?_
      exact W.zret (v := 1) hx hb hr rfl (fun t9 ht9 hW9 => ⟨_, rfl, by simp [b01, c_1, c_2], ht9⟩) (fun _ h9 => absurd h9 List.not_mem_nil) dX5_isOutside_15
