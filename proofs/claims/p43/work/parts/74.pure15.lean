/-! what is told: places, vehicles, jobs, hours; minutes pass -/
theorem outF_I {x : Int32} {a b : Nat} (ha : a < 2147483648) (hb : b < 2147483648) (h : outF x (nI a) (nI b) = false) : (a : Int) ≤ x.toInt ∧ x.toInt ≤ b := by
  unfold outF at h
  rw [Bool.or_eq_false_iff, Bool.not_eq_false', decide_eq_false_iff_not, decide_eq_true_eq] at h
  have h1 := (not_congr (i_lt (rfl : x.toInt = x.toInt) (nI_toInt ha))).mp h.1
  have h2 := (i_le (rfl : x.toInt = x.toInt) (nI_toInt hb)).mp h.2
  omega
theorem i_ab {x : Int32} {X : Int} (h : x.toInt = X) (hb : -1000 ≤ X ∧ X ≤ 1000) : (ab x).toInt = max X (-X) := by
  unfold ab
  have h0 : (0 : Int32).toInt = (0 : Int) := rfl
  by_cases c : 0 ≤ x
  · rw [if_pos c, h]; have := (i_le h0 h).mp c; omega
  · rw [if_neg c, i_sub h0 h (by omega)]; have := (not_congr (i_le h0 h)).mp c; omega
section
variable {NP NJ NV : Nat} {w vv : Nat → Nat → Int32} {ck : Int32} {N : Nat → List Nat} {R : Nat → List Int32}
theorem DI_congr {w' : Nat → Nat → Int32} (h : w' 2 = w 2) {p q : Nat} : DI w' p q = DI w p q := by unfold DI; rw [h]
theorem costI_congr {w' : Nat → Nat → Int32} {v : Nat → Int32} {M : List Nat} (h2 : w' 2 = w 2) (h4 : ∀ s, s ∈ M → w' 4 s = w 4 s) : costI w' v M = costI w v M := by
  have hp : ∀ (L : List Nat) (p : Nat), pLen w' p L = pLen w p L := by
    intro L
    induction L with
    | nil => intro p; rfl
    | cons q L ih => intro p; show DI w' p q + pLen w' q L = DI w p q + pLen w q L; rw [ih, DI_congr h2]
  have hm : M.map (plc w') = M.map (plc w) := List.map_congr_left (fun s hs => by unfold plc; rw [h4 s hs])
  unfold costI lenI
  rw [hp, hm]
theorem loadI_congr {w' : Nat → Nat → Int32} {A : List Nat} (h : ∀ s, s ∈ A → w' 8 s = w 8 s) : loadI w' A = loadI w A := by
  induction A with
  | nil => rfl
  | cons s A ih => show (w' 8 s).toInt + loadI w' A = (w 8 s).toInt + loadI w A; rw [h s List.mem_cons_self, ih (fun x hx => h x (List.mem_cons_of_mem _ hx))]
theorem capOk_congr {w' : Nat → Nat → Int32} {v v' : Nat → Int32} {M : List Nat} (h : ∀ s, s ∈ M → w' 8 s = w 8 s) (hv : v' 1 = v 1) (hc : capOk w v M) : capOk w' v' M := by
  intro A B e
  rw [loadI_congr (fun s hs => h s (by rw [e]; exact List.mem_append.mpr (Or.inl hs))), hv]
  exact hc A B e
theorem csI_congr2 {w w' vv vv' : Nat → Nat → Int32} {N N' : Nat → List Nat} : ∀ {m : Nat}, (∀ n, n < m → costI w' (vv' n) (N' n) = costI w (vv n) (N n)) → csI w' vv' m N' = csI w vv m N := by
  intro m
  induction m with
  | zero => intro _; rfl
  | succ m ih => intro h; show csI w' vv' m N' + _ = csI w vv m N + _; rw [ih (fun n hn => h n (by omega)), h m (by omega)]
theorem opI_congr2 {w w' : Nat → Nat → Int32} {c d : Nat → Nat} : ∀ {m : Nat}, (∀ J, J < m → c (2 * J) = d (2 * J) ∧ w' 3 J = w 3 J) → opI w' c m = opI w d m := by
  intro m
  induction m with
  | zero => intro _; rfl
  | succ m ih =>
    intro h
    obtain ⟨h1, h2⟩ := h m (by omega)
    show opI w' c m + (if c (2 * m) = 0 then (w' 3 m).toInt else 0) = opI w d m + (if d (2 * m) = 0 then (w 3 m).toInt else 0)
    rw [ih (fun J hJ => h J (by omega)), h1, h2]
theorem setHours_pC (C : pC NP NJ NV w vv N R) {x fz y z : Int32} {J : Nat} (hJ : x = nI J) (hJl : J < NJ) (hy : 0 ≤ y.toInt ∧ y.toInt ≤ 1440) (hz : 0 ≤ z.toInt ∧ z.toInt ≤ 1440) : pC NP NJ NV (shF w x fz y z) vv N R ∧ costF NP NJ NV (shF w x fz y z) ck vv R = costF NP NJ NV w ck vv R := by
  obtain ⟨hg, hj, hv, hN, hR, hc⟩ := id C
  have hJ9 := hj.1
  have e5 : ∀ s, shF w x fz y z 5 s = w 5 s ∨ shF w x fz y z 5 s = y := fun s => by
    show upd (w 5) (shK x fz) y s = _ ∨ upd (w 5) (shK x fz) y s = _
    unfold upd
    split
    · exact Or.inr rfl
    · exact Or.inl rfl
  have e6 : ∀ s, shF w x fz y z 6 s = w 6 s ∨ shF w x fz y z 6 s = z := fun s => by
    show upd (w 6) (shK x fz) z s = _ ∨ upd (w 6) (shK x fz) z s = _
    unfold upd
    split
    · exact Or.inr rfl
    · exact Or.inl rfl
  have C' : pC NP NJ NV (shF w x fz y z) vv N R := by
    refine ⟨⟨hg.1, hg.2.1, fun p q hp hq => hg.2.2 p q hp hq⟩, ⟨hj.1, fun s hs => ?_, hj.2.2⟩, hv, hN, hR, fun n hn => capOk_congr (w := w) (fun s _ => rfl) rfl (hc n hn)⟩
    obtain ⟨h1, h2, h3, h4, h5⟩ := hj.2.1 s hs
    refine ⟨h1, h2, ?_, ?_, h5⟩
    · rcases e5 s with e | e <;> rw [e]
      · exact h3
      · exact hy
    · rcases e6 s with e | e <;> rw [e]
      · exact h4
      · exact hz
  refine ⟨C', Int32.toInt_inj.mp ?_⟩
  have e1 : csI (shF w x fz y z) vv NV N = csI w vv NV N := csI_congr2 (fun n _ => costI_congr (w := w) rfl (fun s _ => rfl))
  have e2 : opI (shF w x fz y z) (cn NV N) NJ = opI w (cn NV N) NJ := opI_congr2 (fun J _ => ⟨rfl, rfl⟩)
  rw [cost_I C', cost_I C, e1, e2]
theorem addVehicle_pC (C : pC NP NJ NV w vv N R) (hNV : NV < 3) (hR0 : R NV = []) {v' : Nat → Int32} (hv' : vOk NP v') : pC NP NJ (NV + 1) w (va_up vv NV v') (va_up N NV []) R ∧ costF NP NJ (NV + 1) w ck (va_up vv NV v') R = costF NP NJ NV w ck vv R := by
  obtain ⟨hg, hj, hv, hN, hR, hc⟩ := id C
  have hcn : ∀ s, cn (NV + 1) (va_up N NV []) s = cn NV N s := fun s => by
    show cn NV (va_up N NV []) s + (va_up N NV [] NV).count s = cn NV N s
    have e1 : va_up N NV [] NV = [] := if_pos rfl
    have e2 : cn NV (va_up N NV []) s = cn NV N s := cn_congr (fun k hk => by
      have e3 : va_up N NV [] k = N k := if_neg (by omega)
      rw [e3])
    rw [e1, e2]
    rfl
  have hN' : ∀ n, va_up N NV [] n = if n = NV then [] else N n := fun _ => rfl
  have hv2 : ∀ n, va_up vv NV v' n = if n = NV then v' else vv n := fun _ => rfl
  have C' : pC NP NJ (NV + 1) w (va_up vv NV v') (va_up N NV []) R := by
    refine ⟨hg, hj, ⟨by omega, fun n hn => ?_⟩, ⟨fun s => by rw [hcn]; exact hN.1 s, fun n hn => ?_⟩, fun n hn => ?_, fun n hn => ?_⟩
    · rw [hv2]
      by_cases e : n = NV
      · rw [if_pos e]; exact hv'
      · rw [if_neg e]; exact hv.2 n (by omega)
    · rw [hN']
      by_cases e : n = NV
      · rw [if_pos e]; exact ⟨fun s hs => (List.not_mem_nil hs).elim, fun J hJ => (List.not_mem_nil hJ).elim, trivial⟩
      · rw [if_neg e]; exact hN.2 n (by omega)
    · rw [hN']
      by_cases e : n = NV
      · rw [if_pos e, e, hR0]; rfl
      · rw [if_neg e]; exact hR n (by omega)
    · rw [hN', hv2]
      by_cases e : n = NV
      · rw [if_pos e, if_pos e]
        intro A B e2
        have : A = [] := by cases A with
          | nil => rfl
          | cons a A => cases e2
        rw [this]
        show (0 : Int) ≤ _
        have := hv'.2.1
        omega
      · rw [if_neg e, if_neg e]; exact hc n (by omega)
  refine ⟨C', Int32.toInt_inj.mp ?_⟩
  rw [cost_I C', cost_I C]
  have e1 : csI w (va_up vv NV v') (NV + 1) (va_up N NV []) = csI w vv NV N := by
    show csI w (va_up vv NV v') NV (va_up N NV []) + costI w (va_up vv NV v' NV) (va_up N NV [] NV) = _
    rw [hN' NV, if_pos rfl, csI_congr2 (w := w) (vv := vv) (N := N) (fun n hn => by rw [hN', hv2, if_neg (by omega), if_neg (by omega)])]
    show _ + (0 : Int) = _
    omega
  rw [e1, opI_congr2 (w := w) (d := cn NV N) (fun J _ => ⟨hcn _, rfl⟩)]
theorem adFrom_at {m : Nat} : (∀ k, k ≠ 6 → (adFrom NP NJ NV w ck R 0 (0, vv)).2 m k = vv m k) ∧ (NV ≤ m → (adFrom NP NJ NV w ck R 0 (0, vv)).2 m = vv m) ∧ (m < NV → (adFrom NP NJ NV w ck R 0 (0, vv)).2 m 6 = tRide NP NJ w ck (vv m) (R m) 5) := by
  have key : ∀ (k n : Nat) (q : Int32 × (Nat → Nat → Int32)), ((List.range' n k).foldl (adStep NP NJ w ck R) q).2 m = if n ≤ m ∧ m < n + k then v6 (q.2 m) (tRide NP NJ w ck (q.2 m) (R m) 5) else q.2 m := by
    intro k
    induction k with
    | zero => intro n q; rw [if_neg (by omega)]; rfl
    | succ k ih =>
      intro n q
      rw [List.range'_succ, List.foldl_cons, ih (n + 1)]
      have e1 : (adStep NP NJ w ck R q n).2 m = if m = n then v6 (q.2 n) (tRide NP NJ w ck (q.2 n) (R n) 5) else q.2 m := rfl
      by_cases z : m = n
      · subst z
        have z1 : ¬ (m + 1 ≤ m ∧ m < m + 1 + k) := by omega
        have z2 : m ≤ m ∧ m < m + (k + 1) := by omega
        rw [if_neg z1, if_pos z2, e1, if_pos rfl]
      · rw [e1, if_neg z]
        by_cases z2 : n + 1 ≤ m ∧ m < n + 1 + k
        · rw [if_pos z2, if_pos (by omega)]
        · rw [if_neg z2, if_neg (by omega)]
  have h := key (NV - 0) 0 (0, vv)
  have e : (adFrom NP NJ NV w ck R 0 (0, vv)).2 m = if 0 ≤ m ∧ m < 0 + (NV - 0) then v6 (vv m) (tRide NP NJ w ck (vv m) (R m) 5) else vv m := h
  refine ⟨fun k hk => ?_, fun hm => ?_, fun hm => ?_⟩
  · rw [e]
    split
    · exact if_neg hk
    · rfl
  · rw [e, if_neg (by omega)]
  · rw [e, if_pos (by omega)]; rfl
theorem vOk_6 {v v' : Nat → Int32} (h : ∀ k, k ≠ 6 → v' k = v k) (hv : vOk NP v) : vOk NP v' := by
  unfold vOk at hv ⊢
  rw [h 0 (by omega), h 1 (by omega), h 2 (by omega), h 3 (by omega), h 4 (by omega), h 5 (by omega)]
  exact hv
theorem advance_pC (C : pC NP NJ NV w vv N R) : pC NP NJ NV w (adFrom NP NJ NV w ck R 0 (0, vv)).2 N R := by
  obtain ⟨hg, hj, hv, hN, hR, hc⟩ := id C
  exact ⟨hg, hj, ⟨hv.1, fun n hn => vOk_6 (fun k hk => adFrom_at.1 k hk) (hv.2 n hn)⟩, hN, hR, fun n hn => capOk_congr (w := w) (fun s _ => rfl) (adFrom_at.1 1 (by omega)) (hc n hn)⟩
end
