/-! kind 0, and all kinds -/
theorem cnt_with {M : List Nat} {J i k s : Nat} (hik : i ≤ k) : (nWith M J i k).count s = M.count s + (if s = 2 * J then 1 else 0) + (if s = 2 * J + 1 then 1 else 0) := by
  unfold nWith
  simp only [List.count_append, List.count_cons, List.count_nil, Nat.zero_add]
  have e : M.count s = (M.take i).count s + ((M.take k).drop i).count s + (M.drop k).count s := by
    rw [← List.count_append, ← List.count_append, ← seg_split hik]
  rw [e]
  have a1 : (if (2 * J == s) = true then 1 else 0) = (if s = 2 * J then 1 else 0) := by
    by_cases c : s = 2 * J
    · rw [if_pos c, if_pos (by simp [c])]
    · rw [if_neg c, if_neg (by simp; omega)]
  have a2 : (if (2 * J + 1 == s) = true then 1 else 0) = (if s = 2 * J + 1 then 1 else 0) := by
    by_cases c : s = 2 * J + 1
    · rw [if_pos c, if_pos (by simp [c])]
    · rw [if_neg c, if_neg (by simp; omega)]
  rw [a1, a2]
  omega
theorem cnt_without {M : List Nat} {J s : Nat} : (nWithout M J).count s = if s / 2 = J then 0 else M.count s := by
  unfold nWithout
  by_cases c : s / 2 = J
  · rw [if_pos c]
    exact List.count_eq_zero.mpr (fun h => by
      have := (List.mem_filter.mp h).2
      exact (of_decide_eq_true this) c)
  · rw [if_neg c]
    exact List.count_filter (decide_eq_true c)
theorem rV_with {NJ : Nat} {M : List Nat} {J i k : Nat} (hM : rV NJ M) (hJ : J < NJ) (hik : i ≤ k) : rV NJ (nWith M J i k) := by
  have hm : ∀ s, s ∈ nWith M J i k ↔ s ∈ M ∨ s = 2 * J ∨ s = 2 * J + 1 := fun s => by
    rw [← List.count_pos_iff, cnt_with hik, ← List.count_pos_iff]
    by_cases c1 : s = 2 * J <;> by_cases c2 : s = 2 * J + 1 <;> simp [c1, c2] <;> omega
  refine ⟨fun s hs => ?_, fun K hK => ?_, ?_⟩
  · rcases (hm s).mp hs with h | h | h
    · exact hM.1 s h
    · omega
    · omega
  · rcases (hm _).mp hK with h | h | h
    · exact (hm _).mpr (Or.inl (hM.2.1 K h))
    · exact (hm _).mpr (Or.inr (Or.inr (by omega)))
    · omega
  · have hb := hM.2.2
    rw [seg_split (M := M) hik, bOk_app, bOk_app] at hb
    obtain ⟨⟨b1, b2⟩, b3⟩ := hb
    unfold nWith
    rw [bOk_app, bOk_app, bOk_app, bOk_app]
    refine ⟨⟨⟨⟨b1, ⟨fun h => by omega, trivial⟩⟩, bOk_mono (fun x hx => ?_) b2⟩, ⟨fun _ => ?_, trivial⟩⟩, bOk_mono (fun x hx => ?_) b3⟩
    · rcases hx with hx | hx
      · exact Or.inl (List.mem_append.mpr (Or.inl hx))
      · exact hx.elim
    · refine Or.inl ?_
      rw [show 2 * J + 1 - 1 = 2 * J by omega]
      exact List.mem_append.mpr (Or.inl (List.mem_append.mpr (Or.inr List.mem_cons_self)))
    · rcases hx with hx | hx
      · refine Or.inl ?_
        rcases List.mem_append.mp hx with hx | hx
        · exact List.mem_append.mpr (Or.inl (List.mem_append.mpr (Or.inl (List.mem_append.mpr (Or.inl hx)))))
        · exact List.mem_append.mpr (Or.inl (List.mem_append.mpr (Or.inr hx)))
      · exact hx.elim
theorem rV_without {NJ : Nat} {M : List Nat} {J : Nat} (hM : rV NJ M) : rV NJ (nWithout M J) := by
  refine ⟨fun s hs => hM.1 s (List.mem_filter.mp hs).1, fun K hK => ?_, bOk_filter (fun s h => ?_) (P := fun _ => False) (fun x hx => hx.elim) hM.2.2⟩
  · obtain ⟨h1, h2⟩ := List.mem_filter.mp hK
    have h3 := of_decide_eq_true h2
    exact List.mem_filter.mpr ⟨hM.2.1 K h1, decide_eq_true (by omega)⟩
  · exact decide_eq_decide.mpr (by omega)
section
variable {NP NJ NV : Nat} {w vv : Nat → Nat → Int32} {ck : Int32} {N : Nat → List Nat} {R : Nat → List Int32}
theorem tRunR_eq {cap : Int32} : ∀ (L : List Int32) (t : Nat → Int32), ¬ (L.foldl (tVisR NP NJ w ck cap) t) 9 = 0 → L.foldl (tVisR NP NJ w ck cap) t = L.foldl (tVisit NP NJ w ck cap) t := by
  intro L
  induction L with
  | nil => intro t _; rfl
  | cons x L ih =>
    intro t h
    by_cases c : t 9 = 0
    · exfalso
      apply h
      have hs : ∀ (L : List Int32), (L.foldl (tVisR NP NJ w ck cap) t) = t := by
        intro L
        induction L with
        | nil => rfl
        | cons y L ih2 => rw [List.foldl_cons, show tVisR NP NJ w ck cap t y = t from if_pos c]; exact ih2
      rw [hs]; exact c
    · rw [List.foldl_cons, show tVisR NP NJ w ck cap t x = tVisit NP NJ w ck cap t x from if_neg c] at h ⊢
      rw [List.foldl_cons]
      exact ih _ h
theorem tRideR_eq {v : Nat → Int32} {L : List Int32} (h : ¬ tRideR NP NJ w ck v L 9 = 0) : tRideR NP NJ w ck v L = tRide NP NJ w ck v L := by
  have hr : ¬ tRunR NP NJ w ck v L 9 = 0 := fun c => h (by
    show (if _ ≤ v 3 then tRunR NP NJ w ck v L 9 else 0) = 0
    rw [c]; split <;> rfl)
  show tHome NP w v (tRunR NP NJ w ck v L) = tHome NP w v (tRun NP NJ w ck v L)
  rw [show tRunR NP NJ w ck v L = tRun NP NJ w ck v L from tRunR_eq L _ hr]
def siP (NP NJ : Nat) (w : Nat → Nat → Int32) (ck : Int32) (v : Nat → Int32) (L : List Int32) (j lim : Int32) (S : Nat) (q : I4) : Prop := (q.2.1 = -1 ∧ q.1 = lim) ∨ (q.1 = q.2.1 ∧ q.1 < lim ∧ ∃ i k : Nat, S ≤ i ∧ i ≤ k ∧ k ≤ L.length ∧ q.2.2 = (nI i, nI (k + 1)) ∧ q.2.1 = addsF NP NJ w v L j (nI i) (nI (k + 1)) ∧ tAllowed (tRideR NP NJ w ck v (rWith L j i k)) v = true)
/-- the best insertion into a row, where there is one -/
theorem siC_spec {v : Nat → Int32} {L : List Int32} {j lim : Int32} {S : Nat} (h : ¬ (siC NP NJ w ck v L j S lim).2.1 = -1) : ∃ i k : Nat, S ≤ i ∧ i ≤ k ∧ k ≤ L.length ∧ (siC NP NJ w ck v L j S lim).2.2 = (nI i, nI (k + 1)) ∧ (siC NP NJ w ck v L j S lim).2.1 = addsF NP NJ w v L j (nI i) (nI (k + 1)) ∧ (siC NP NJ w ck v L j S lim).2.1 < lim ∧ tAllowed (tRideR NP NJ w ck v (rWith L j i k)) v = true := by
  have key : siP NP NJ w ck v L j lim S (siC NP NJ w ck v L j S lim) := by
    unfold siC siAll
    refine fold_inv (P := siP NP NJ w ck v L j lim S) _ _ (fun i q hi hq => ?_) (Or.inl ⟨rfl, rfl⟩)
    have hi := List.mem_range'_1.mp hi
    unfold siIn
    refine fold_inv (P := siP NP NJ w ck v L j lim S) _ _ (fun k q hk hq => ?_) hq
    have hk := List.mem_range'_1.mp hk
    unfold siStep
    by_cases c1 : addsF NP NJ w v L j (nI i) (nI (k + 1)) < q.1
    · rw [if_pos c1]
      by_cases c2 : tAllowed (tRideR NP NJ w ck v (rWith L j i k)) v = true
      · rw [if_pos c2]
        refine Or.inr ⟨rfl, ?_, i, k, hi.1, hk.1, by omega, rfl, rfl, c2⟩
        rcases hq with ⟨-, e⟩ | ⟨-, e, -⟩
        · rw [← e]; exact c1
        · exact Int32.lt_trans c1 e
      · rw [if_neg c2]; exact hq
    · rw [if_neg c1]; exact hq
  rcases key with ⟨h1, -⟩ | ⟨h1, h2, i, k, h3, h4, h5, h6, h7, h8⟩
  · exact absurd h1 h
  · exact ⟨i, k, h3, h4, h5, h6, h7, by rw [← h1]; exact h2, h8⟩
theorem len_with {M : List Nat} {J i k : Nat} (hik : i ≤ k) : (nWith M J i k).length = M.length + 2 := by
  have e := congrArg List.length (seg_split (M := M) hik)
  unfold nWith
  simp only [List.length_append, List.length_cons, List.length_nil] at e ⊢
  omega
theorem mv_put (C : sC NP NJ NV w vv ck N R) {S : Nat → Nat} {J K n : Nat} {row : List Nat} {q : IY} (hJ : J < NJ) (hK : K < NV) (hn : n < NV) (hm : 2 * J ∈ N K) (hrow : row = if n = K then nWithout (N K) J else N n) (hal : n ≠ K → ¬ tRide NP NJ w ck (vv K) (mp (nWithout (N K) J)) 9 = 0) (hq : qG NJ NV w vv N q) :
    qG NJ NV w vv N (mvPut NP NJ NV w ck vv R S J K n (mp row) q) := by
  have hJ9 := C.2.1.1
  have hN := C.2.2.2.1
  have hVK := hN.2 K hK
  have hm2 := hVK.2.1 J hm
  have c1 := one_cnt C hK hm
  have c2 := one_cnt C hK hm2
  have hW := rV_without (J := J) hVK
  have hWl : (nWithout (N K) J).length ≤ 16 := by
    have h1 := nd_len (M := nWith (nWithout (N K) J) J 0 0) (n := 2 * NJ) (rV_nd hN (fun s => by
      rw [cnt_with (Nat.le_refl 0), cnt_without]
      have := cn_ge (N := N) (s := s) hK
      by_cases e1 : s = 2 * J
      · subst e1; rw [if_pos (by omega), if_pos rfl, if_neg (by omega)]; omega
      · by_cases e2 : s = 2 * J + 1
        · subst e2; rw [if_pos (by omega), if_neg (by omega), if_pos rfl]; omega
        · rw [if_neg (by omega), if_neg e1, if_neg e2]; omega)) (rV_with hW hJ (Nat.le_refl 0)).1
    rw [len_with (Nat.le_refl 0)] at h1
    omega
  have hrV : rV NJ row := by rw [hrow]; split; exact hW; exact hN.2 n hn
  have hrl : row.length ≤ 16 := by
    rw [hrow]
    by_cases e : n = K
    · rw [if_pos e]; exact hWl
    · rw [if_neg e]
      have h1 := nd_len (M := nWith (N n) J 0 0) (n := 2 * NJ) (rV_nd hN (fun s => by
        rw [cnt_with (Nat.le_refl 0)]
        have h2 := cn_ge2 (N := N) (s := s) e hn hK
        by_cases e1 : s = 2 * J
        · subst e1; rw [if_pos rfl, if_neg (by omega)]; omega
        · by_cases e2 : s = 2 * J + 1
          · subst e2; rw [if_neg (by omega), if_pos rfl]; omega
          · rw [if_neg e1, if_neg e2]; omega)) (rV_with (hN.2 n hn) hJ (Nat.le_refl 0)).1
      rw [len_with (Nat.le_refl 0)] at h1
      omega
  have hRK := C.2.2.2.2.1 K hK
  have eW : rWithout (R K) (nI J) = mp (nWithout (N K) J) := by rw [hRK]; exact rWithout_mp (C.s18 hK) (by omega)
  have hgn := C.gn hK hW.1 (by omega)
  unfold mvPut
  rw [eW]
  by_cases c : (siC NP NJ w ck (vv n) (mp row) (nI J) (S n) (gn NP NJ w ck (vv K) (mp (nWithout (N K) J)) - q.1)).2.1 = -1
  · rw [if_pos c]; exact hq
  · rw [if_neg c]
    obtain ⟨i, k, -, hik, hk, h6, h7, h8, h9⟩ := siC_spec c
    generalize siC NP NJ w ck (vv n) (mp row) (nI J) (S n) (gn NP NJ w ck (vv K) (mp (nWithout (N K) J)) - q.1) = Z at h6 h7 h8
    rw [List.length_map] at hk
    have i1 : Z.2.2.1.toNatClampNeg = i := by rw [h6]; exact nI_clamp (by omega)
    have i2 : Z.2.2.2.toNatClampNeg - 1 = k := by rw [h6]; show (nI (k + 1)).toNatClampNeg - 1 = k; rw [nI_clamp (by omega)]; omega
    rw [i1, i2, rWith_mp hik hrl]
    rw [rWith_mp hik hrl] at h9
    obtain ⟨hg, hj, hv, -, hR, hc, h7'⟩ := id C
    have ha := adds_I hg hj (hv.2 n hn) hJ hrV.1 hrl hik hk
    rw [← h7] at ha
    obtain ⟨N0, -, hV0, -, -, hq0, hq1⟩ := hq
    have hqb : q.1.toInt ≤ 200000 := by
      rw [hq1]
      have hb : ∀ (N : Nat → List Nat) (m : Nat), m ≤ NV → gV NJ NV N → 0 ≤ csI w vv m N ∧ csI w vv m N ≤ 21000 * m := by
        intro N m
        induction m with
        | zero => intro _ _; exact ⟨Int.le_refl 0, Int.le_refl 0⟩
        | succ m ih =>
          intro hm hV
          have h1 := ih (by omega) hV
          have h2 := tCost_I (ck := ck) hg hj (hv.2 m (by omega)) (hV.2 m (by omega)).1 (by have := gV_len hV (n := m) (by omega); omega)
          show 0 ≤ csI w vv m N + costI w (vv m) (N m) ∧ csI w vv m N + costI w (vv m) (N m) ≤ _
          omega
      have b1 := hb N NV (Nat.le_refl _) hN
      have b2 := hb N0 NV (Nat.le_refl _) hV0
      have := C.2.2.1.1
      omega
    have hlim := i_sub hgn.1 (rfl : q.1.toInt = q.1.toInt) (by omega)
    have h8' := (i_lt ha.1 hlim).mp h8
    have hgain := i_sub hgn.1 ha.1 (by omega)
    have hrl18 : (nWith row J i k).length ≤ 18 := by rw [len_with hik]; omega
    have hrW := rV_with hrV hJ hik
    have hcap := allowed_cap hg hj (hv.2 n hn) hrW.1 hrl18 (by rw [← tRideR_eq (tAllowed_9 h9)]; exact tAllowed_9 h9)
    by_cases e : n = K
    · subst e
      rw [if_pos rfl] at hrow ⊢
      subst hrow
      have hcn : ∀ s, (nWith (nWithout (N n) J) J i k).count s = (N n).count s := fun s => by
        rw [cnt_with hik, cnt_without]
        by_cases e1 : s = 2 * J
        · subst e1; rw [if_pos (by omega), if_pos rfl, if_neg (by omega), c1]
        · by_cases e2 : s = 2 * J + 1
          · subst e2; rw [if_pos (by omega), if_neg (by omega), if_pos rfl, c2]
          · rw [if_neg (by omega), if_neg e1, if_neg e2]; rfl
      have hup := csI_up (w := w) (vv := vv) (N := N) (L := nWith (nWithout (N n) J) J i k) hn
      have hcs : ∀ s, cn NV (va_up N n (nWith (nWithout (N n) J) J i k)) s = cn NV N s := fun s => by
        have h1 := cn_up (N := N) (L := nWith (nWithout (N n) J) J i k) (s := s) hn
        have := hcn s
        omega
      refine ⟨va_up N n (nWith (nWithout (N n) J) J i k), fun m hm => ?_, ⟨fun s => by rw [hcs]; exact hN.1 s, fun m hm => ?_⟩, hcs, fun m hm => ?_, ?_, ?_⟩
      · show kp2 NV n _ n _ R q.2 m = mp (if m = n then _ else N m)
        rw [kp2_at hm]
        by_cases e : m = n
        · rw [if_pos e, if_pos e]
        · rw [if_neg e, if_neg e, if_neg e]; exact hR m hm
      · show rV NJ (if m = n then _ else N m)
        by_cases e : m = n
        · rw [if_pos e]; exact hrW
        · rw [if_neg e]; exact hN.2 m hm
      · show capOk w (vv m) (if m = n then _ else N m)
        by_cases e : m = n
        · rw [if_pos e, e]; exact hcap
        · rw [if_neg e]; exact hc m hm
      · show 0 ≤ (gn NP NJ w ck (vv n) (mp (nWithout (N n) J)) - Z.2.1).toInt
        rw [hgain]; omega
      · show (gn NP NJ w ck (vv n) (mp (nWithout (N n) J)) - Z.2.1).toInt = _
        rw [hgain]; omega
    · rw [if_neg e] at hrow ⊢
      subst hrow
      have hcn : ∀ s, (nWithout (N K) J).count s + (nWith (N n) J i k).count s = (N K).count s + (N n).count s := fun s => by
        rw [cnt_with hik, cnt_without]
        by_cases e1 : s = 2 * J
        · subst e1; rw [if_pos (by omega), if_pos rfl, if_neg (by omega), c1]; omega
        · by_cases e2 : s = 2 * J + 1
          · subst e2; rw [if_pos (by omega), if_neg (by omega), if_pos rfl, c2]; omega
          · rw [if_neg (by omega), if_neg e1, if_neg e2]; omega
      have eb : va_up N K (nWithout (N K) J) n = N n := if_neg e
      have hup := csI_up (w := w) (vv := vv) (N := N) (L := nWithout (N K) J) hK
      have hup2 := csI_up (w := w) (vv := vv) (N := va_up N K (nWithout (N K) J)) (L := nWith (N n) J i k) hn
      rw [eb] at hup2
      have hat : ∀ m, va_up (va_up N K (nWithout (N K) J)) n (nWith (N n) J i k) m = if m = K then nWithout (N K) J else if m = n then nWith (N n) J i k else N m := fun m => by
        show (if m = n then _ else if m = K then _ else N m) = _
        by_cases z : m = K
        · rw [if_pos z, if_pos z, if_neg (fun c => e (c.symm.trans z))]
        · rw [if_neg z, if_neg z]
      have hcs : ∀ s, cn NV (va_up (va_up N K (nWithout (N K) J)) n (nWith (N n) J i k)) s = cn NV N s := fun s => by
        have h1 := cn_up (N := N) (L := nWithout (N K) J) (s := s) hK
        have h2 := cn_up (N := va_up N K (nWithout (N K) J)) (L := nWith (N n) J i k) (s := s) hn
        rw [eb] at h2
        have := hcn s
        omega
      refine ⟨va_up (va_up N K (nWithout (N K) J)) n (nWith (N n) J i k), fun m hm => ?_, ⟨fun s => by rw [hcs]; exact hN.1 s, fun m hm => ?_⟩, hcs, fun m hm => ?_, ?_, ?_⟩
      · show kp2 NV K _ n _ R q.2 m = mp (va_up (va_up N K (nWithout (N K) J)) n (nWith (N n) J i k) m)
        rw [kp2_at hm, hat]
        by_cases z : m = K
        · rw [if_pos z, if_pos z]
        · rw [if_neg z, if_neg z]
          by_cases z2 : m = n
          · rw [if_pos z2, if_pos z2]
          · rw [if_neg z2, if_neg z2]; exact hR m hm
      · rw [hat]
        by_cases z : m = K
        · rw [if_pos z]; exact hW
        · rw [if_neg z]
          by_cases z2 : m = n
          · rw [if_pos z2]; exact hrW
          · rw [if_neg z2]; exact hN.2 m hm
      · rw [hat]
        by_cases z : m = K
        · rw [if_pos z, z]; exact allowed_cap hg hj (hv.2 K hK) hW.1 (by omega) (hal e)
        · rw [if_neg z]
          by_cases z2 : m = n
          · rw [if_pos z2, z2]; exact hcap
          · rw [if_neg z2]; exact hc m hm
      · show 0 ≤ (gn NP NJ w ck (vv K) (mp (nWithout (N K) J)) - Z.2.1).toInt
        rw [hgain]; omega
      · show (gn NP NJ w ck (vv K) (mp (nWithout (N K) J)) - Z.2.1).toInt = _
        rw [hgain]; omega
end
