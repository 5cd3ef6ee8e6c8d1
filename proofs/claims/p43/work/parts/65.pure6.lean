/-! a search's best change so far -/
def qG (NJ NV : Nat) (w vv : Nat → Nat → Int32) (N : Nat → List Nat) (q : IY) : Prop := ∃ N' : Nat → List Nat, (∀ n, n < NV → q.2 n = mp (N' n)) ∧ gV NJ NV N' ∧ (∀ s, cn NV N' s = cn NV N s) ∧ (∀ n, n < NV → capOk w (vv n) (N' n)) ∧ 0 ≤ q.1.toInt ∧ q.1.toInt = csI w vv NV N - csI w vv NV N'
theorem kp2_at {NV a b : Nat} {La Lb : List Int32} {R Y : Nat → List Int32} {n : Nat} (hn : n < NV) : kp2 NV a La b Lb R Y n = if n = a then La else if n = b then Lb else R n := by
  unfold kp2
  have h : ∀ (m : Nat) (l : List Nat) (Y : Nat → List Int32), (l.foldl (kp2Step a La b Lb R) Y) m = if m ∈ l then (if m = a then La else if m = b then Lb else R m) else Y m := by
    intro m l
    induction l with
    | nil => intro Y; simp
    | cons x l ih =>
      intro Y
      rw [List.foldl_cons, ih]
      by_cases h1 : m ∈ l
      · rw [if_pos h1, if_pos (List.mem_cons_of_mem _ h1)]
      · rw [if_neg h1]
        by_cases h2 : m = x
        · subst h2
          rw [if_pos List.mem_cons_self]
          exact if_pos rfl
        · rw [if_neg (fun c => by rcases List.mem_cons.mp c with c | c; exact h2 c; exact h1 c)]
          exact if_neg h2
  rw [h, if_pos (List.mem_range'_1.mpr ⟨Nat.zero_le n, by omega⟩)]
theorem rV_nd {NJ NV : Nat} {N : Nat → List Nat} (h : gV NJ NV N) {L : List Nat} (hc : ∀ s, L.count s ≤ cn NV N s) : L.Nodup := List.nodup_iff_count.mpr (fun s => Nat.le_trans (hc s) (h.1 s))
section
variable {NP NJ NV : Nat} {w vv : Nat → Nat → Int32} {ck : Int32} {N : Nat → List Nat} {R : Nat → List Int32}
theorem tAllowed_9 {t v : Nat → Int32} (h : tAllowed t v = true) : ¬ t 9 = 0 := by
  unfold tAllowed at h
  rw [Bool.and_eq_true, Bool.not_eq_true', decide_eq_false_iff_not] at h
  exact h.1

theorem gn_eq {v : Nat → Int32} {L : List Int32} : gn NP NJ w ck v L = v 7 - tCost NP NJ w ck v L := rfl
def sC (NP NJ NV : Nat) (w vv : Nat → Nat → Int32) (ck : Int32) (N : Nat → List Nat) (R : Nat → List Int32) : Prop := gOk NP w ∧ jOk NP NJ w ∧ (NV ≤ 3 ∧ ∀ n, n < NV → vOk NP (vv n)) ∧ gV NJ NV N ∧ (∀ n, n < NV → R n = mp (N n)) ∧ (∀ n, n < NV → capOk w (vv n) (N n)) ∧ ∀ n, n < NV → vv n 7 = tCost NP NJ w ck (vv n) (R n)
theorem sC.len (C : sC NP NJ NV w vv ck N R) {n : Nat} (hn : n < NV) : (N n).length ≤ 18 := by
  obtain ⟨-, hj, -, hN, -⟩ := C
  have := gV_len hN hn
  have := hj.1
  omega
theorem sC.gn (C : sC NP NJ NV w vv ck N R) {a : Nat} (ha : a < NV) {L : List Nat} (hL : ∀ s, s ∈ L → s < 2 * NJ) (hl : L.length ≤ 18) : (gn NP NJ w ck (vv a) (mp L)).toInt = costI w (vv a) (N a) - costI w (vv a) L ∧ -21000 ≤ costI w (vv a) (N a) - costI w (vv a) L ∧ costI w (vv a) (N a) - costI w (vv a) L ≤ 21000 := by
  have hlen := C.len ha
  obtain ⟨hg, hj, hv, hN, hR, hc, h7⟩ := C
  have h1 := tCost_I (ck := ck) hg hj (hv.2 a ha) (hN.2 a ha).1 hlen
  have h2 := tCost_I (ck := ck) hg hj (hv.2 a ha) hL hl
  rw [gn_eq]
  rw [h7 a ha, hR a ha]
  exact ⟨i_sub h1.1 h2.1 (by omega), by omega, by omega⟩
theorem off2_same {a : Nat} {La : List Nat} {q : IY} (C : sC NP NJ NV w vv ck N R) (ha : a < NV) (hLa : rV NJ La) (hcn : ∀ s, La.count s = (N a).count s) (hq : qG NJ NV w vv N q) : qG NJ NV w vv N (off2 NP NJ NV w ck vv R a (mp La) a (mp La) q) := by
  have hl : La.length ≤ 18 := by
    have := nd_len (rV_nd C.2.2.2.1 (L := La) (fun s => by rw [hcn]; exact cn_ge ha)) hLa.1
    have := C.2.1.1
    omega
  have hgn := C.gn ha hLa.1 hl
  have hlen := fun n hn => C.len (n := n) hn
  obtain ⟨hg, hj, hv, hN, hR, hc, h7⟩ := C
  unfold off2
  by_cases c1 : tAllowed (tRide NP NJ w ck (vv a) (mp La)) (vv a) = true
  · rw [if_pos c1, if_pos rfl]
    by_cases c2 : gn NP NJ w ck (vv a) (mp La) ≤ q.1
    · rw [if_pos c2]; exact hq
    · rw [if_neg c2]
      obtain ⟨N', -, -, -, -, hq0, -⟩ := hq
      have c3 := (not_congr (i_le hgn.1 (rfl : q.1.toInt = q.1.toInt))).mp c2
      have hup := csI_up (w := w) (vv := vv) (N := N) (L := La) ha
      refine ⟨va_up N a La, fun n hn => ?_, ⟨fun s => ?_, fun n hn => ?_⟩, fun s => ?_, fun n hn => ?_, ?_, ?_⟩
      · show kp2 NV a (mp La) a (mp La) R q.2 n = mp (if n = a then La else N n)
        rw [kp2_at hn]
        by_cases e : n = a
        · rw [if_pos e, if_pos e]
        · rw [if_neg e, if_neg e, if_neg e]; exact hR n hn
      · have h1 := cn_up (N := N) (L := La) (s := s) ha
        have := hcn s
        have := hN.1 s
        omega
      · show rV NJ (if n = a then La else N n)
        by_cases e : n = a
        · rw [if_pos e]; exact hLa
        · rw [if_neg e]; exact hN.2 n hn
      · have h1 := cn_up (N := N) (L := La) (s := s) ha
        have := hcn s
        omega
      · show capOk w (vv n) (if n = a then La else N n)
        by_cases e : n = a
        · rw [if_pos e, e]; exact allowed_cap hg hj (hv.2 a ha) hLa.1 hl (tAllowed_9 c1)
        · rw [if_neg e]; exact hc n hn
      · show 0 ≤ (gn NP NJ w ck (vv a) (mp La)).toInt
        rw [hgn.1]; omega
      · show (gn NP NJ w ck (vv a) (mp La)).toInt = _
        rw [hgn.1]; omega
  · rw [if_neg c1]; exact hq
theorem off2_two {a b : Nat} {La Lb : List Nat} {q : IY} (C : sC NP NJ NV w vv ck N R) (ha : a < NV) (hb : b < NV) (hab : a ≠ b) (hLa : rV NJ La) (hLb : rV NJ Lb) (hcn : ∀ s, La.count s + Lb.count s = (N a).count s + (N b).count s) (hq : qG NJ NV w vv N q) : qG NJ NV w vv N (off2 NP NJ NV w ck vv R a (mp La) b (mp Lb) q) := by
  have hcc : ∀ s, La.count s + Lb.count s ≤ cn NV N s := fun s => by rw [hcn]; exact cn_ge2 hab ha hb
  have hJ9 := C.2.1.1
  have hla : La.length ≤ 18 := by
    have := nd_len (rV_nd C.2.2.2.1 (L := La) (fun s => Nat.le_trans (Nat.le_add_right _ _) (hcc s))) hLa.1
    omega
  have hlb : Lb.length ≤ 18 := by
    have := nd_len (rV_nd C.2.2.2.1 (L := Lb) (fun s => Nat.le_trans (Nat.le_add_left _ _) (hcc s))) hLb.1
    omega
  have hga := C.gn ha hLa.1 hla
  have hgb := C.gn hb hLb.1 hlb
  obtain ⟨hg, hj, hv, hN, hR, hc, h7⟩ := C
  unfold off2
  by_cases c1 : tAllowed (tRide NP NJ w ck (vv a) (mp La)) (vv a) = true
  · rw [if_pos c1, if_neg (fun c => hab c.symm)]
    by_cases c4 : tAllowed (tRide NP NJ w ck (vv b) (mp Lb)) (vv b) = true
    · rw [if_pos c4]
      have hgg := i_add hga.1 hgb.1 (by omega)
      by_cases c2 : gn NP NJ w ck (vv a) (mp La) + gn NP NJ w ck (vv b) (mp Lb) ≤ q.1
      · rw [if_pos c2]; exact hq
      · rw [if_neg c2]
        obtain ⟨N', -, -, -, -, hq0, -⟩ := hq
        have c3 := (not_congr (i_le hgg (rfl : q.1.toInt = q.1.toInt))).mp c2
        have eb : va_up N a La b = N b := if_neg (fun c => hab c.symm)
        have hup := csI_up (w := w) (vv := vv) (N := N) (L := La) ha
        have hup2 := csI_up (w := w) (vv := vv) (N := va_up N a La) (L := Lb) hb
        rw [eb] at hup2
        have hat : ∀ n, va_up (va_up N a La) b Lb n = if n = a then La else if n = b then Lb else N n := fun n => by
          show (if n = b then Lb else if n = a then La else N n) = _
          by_cases e : n = a
          · rw [if_pos e, if_pos e, if_neg (fun c => hab (e.symm.trans c))]
          · rw [if_neg e, if_neg e]
        have hcs : ∀ s, cn NV (va_up (va_up N a La) b Lb) s = cn NV N s := fun s => by
          have h1 := cn_up (N := N) (L := La) (s := s) ha
          have h2 := cn_up (N := va_up N a La) (L := Lb) (s := s) hb
          rw [eb] at h2
          have := hcn s
          omega
        refine ⟨va_up (va_up N a La) b Lb, fun n hn => ?_, ⟨fun s => ?_, fun n hn => ?_⟩, hcs, fun n hn => ?_, ?_, ?_⟩
        · show kp2 NV a (mp La) b (mp Lb) R q.2 n = mp (va_up (va_up N a La) b Lb n)
          rw [kp2_at hn, hat]
          by_cases e : n = a
          · rw [if_pos e, if_pos e]
          · rw [if_neg e, if_neg e]
            by_cases e2 : n = b
            · rw [if_pos e2, if_pos e2]
            · rw [if_neg e2, if_neg e2]; exact hR n hn
        · rw [hcs]; exact hN.1 s
        · rw [hat]
          by_cases e : n = a
          · rw [if_pos e]; exact hLa
          · rw [if_neg e]
            by_cases e2 : n = b
            · rw [if_pos e2]; exact hLb
            · rw [if_neg e2]; exact hN.2 n hn
        · rw [hat]
          by_cases e : n = a
          · rw [if_pos e, e]; exact allowed_cap hg hj (hv.2 a ha) hLa.1 hla (tAllowed_9 c1)
          · rw [if_neg e]
            by_cases e2 : n = b
            · rw [if_pos e2, e2]; exact allowed_cap hg hj (hv.2 b hb) hLb.1 hlb (tAllowed_9 c4)
            · rw [if_neg e2]; exact hc n hn
        · show 0 ≤ (gn NP NJ w ck (vv a) (mp La) + gn NP NJ w ck (vv b) (mp Lb)).toInt
          rw [hgg]; omega
        · show (gn NP NJ w ck (vv a) (mp La) + gn NP NJ w ck (vv b) (mp Lb)).toInt = _
          rw [hgg]; omega
    · rw [if_neg c4]; exact hq
  · rw [if_neg c1]; exact hq
theorem fold_inv {α β : Type} {P : β → Prop} {f : β → α → β} : ∀ (l : List α) (b : β), (∀ x b, x ∈ l → P b → P (f b x)) → P b → P (l.foldl f b) := by
  intro l
  induction l with
  | nil => intro b _ h; exact h
  | cons x l ih => intro b hf h; exact ih _ (fun y c hy hc => hf y c (List.mem_cons_of_mem _ hy) hc) (hf x b List.mem_cons_self h)
end
