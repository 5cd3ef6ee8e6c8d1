/-! all kinds; a search's beginning; what all costs -/
section
variable {NP NJ NV : Nat} {w vv : Nat → Nat → Int32} {ck : Int32} {N : Nat → List Nat} {R : Nat → List Int32}
theorem mv_good {S : Nat → Nat} (C : sC NP NJ NV w vv ck N R) {q : IY} (hq : qG NJ NV w vv N q) : qG NJ NV w vv N (mvJ NP NJ NV w ck vv R S 0 q) := by
  have hJ9 := C.2.1.1
  have h3 := C.2.2.1.1
  unfold mvJ
  refine fold_inv _ _ (fun J q h1 hq => ?_) hq
  have h1 := List.mem_range'_1.mp h1
  unfold mvOne
  have neg1 : (-1 : Int32) < 0 := by decide
  rcases C.carr (J := J) (by omega) with ⟨K, hK, m1, e1, -⟩ | ⟨-, e1⟩
  · rw [e1, if_neg (nI_pos (by omega)), if_neg (fun c => absurd ((nI_leN (by omega) (by omega)).mp c) (by omega)), nI_clamp (by omega)]
    by_cases c1 : boundF NV R vv (nI J) = true
    · rw [if_pos c1]; exact hq
    · rw [if_neg c1]
      have eW : rWithout (R K) (nI J) = mp (nWithout (N K) J) := by rw [C.2.2.2.2.1 K hK]; exact rWithout_mp (C.s18 hK) (by omega)
      unfold mvN
      refine fold_inv _ _ (fun n q hn hq => ?_) hq
      have hn : n < NV := by have := List.mem_range'_1.mp hn; omega
      unfold mvStep
      rw [eW]
      by_cases e : n = K
      · rw [if_pos e]
        exact mv_put C (by omega) hK hn m1 (by rw [if_pos e]) (fun c => absurd e c) hq
      · rw [if_neg e]
        by_cases c2 : tAllowed (tRide NP NJ w ck (vv K) (mp (nWithout (N K) J))) (vv K) = true
        · rw [if_pos c2, C.2.2.2.2.1 n hn]
          exact mv_put C (by omega) hK hn m1 (by rw [if_neg e]) (fun _ => tAllowed_9 c2) hq
        · rw [if_neg c2]; exact hq
  · rw [e1, if_pos neg1]; exact hq
theorem sk_good {S : Nat → Nat} (C : sC NP NJ NV w vv ck N R) {kd : Nat} {q : IY} (hq : qG NJ NV w vv N q) : qG NJ NV w vv N (skF NP NJ NV w ck vv R S kd q) := by
  unfold skF
  split
  · exact mv_good C hq
  · split
    · exact sw_good C hq
    · split
      · exact tr_good C hq
      · exact en_good C hq
/-- two searches that differ in what is not looked at -/
def iyR (NV : Nat) (q r : IY) : Prop := q.1 = r.1 ∧ ∀ n, n < NV → q.2 n = r.2 n
theorem fold_rel {α β : Type} {P : β → β → Prop} {f : β → α → β} : ∀ (l : List α) (b c : β), (∀ x b c, P b c → P (f b x) (f c x)) → P b c → P (l.foldl f b) (l.foldl f c) := by
  intro l
  induction l with
  | nil => intro b c _ h; exact h
  | cons x l ih => intro b c hf h; exact ih _ _ hf (hf x b c h)
theorem iyR_new {NV a b : Nat} {La Lb : List Int32} {R : Nat → List Int32} {g : Int32} {q r : IY} : iyR NV (g, kp2 NV a La b Lb R q.2) (g, kp2 NV a La b Lb R r.2) := ⟨rfl, fun n hn => by show kp2 NV a La b Lb R q.2 n = kp2 NV a La b Lb R r.2 n; rw [kp2_at hn, kp2_at hn]⟩
theorem off2_rel {a b : Nat} {La Lb : List Int32} {q r : IY} (h : iyR NV q r) : iyR NV (off2 NP NJ NV w ck vv R a La b Lb q) (off2 NP NJ NV w ck vv R a La b Lb r) := by
  unfold off2
  rw [h.1]
  split
  · split
    · split
      · exact h
      · exact iyR_new
    · split
      · split
        · exact h
        · exact iyR_new
      · exact h
  · exact h
theorem mvPut_rel {S : Nat → Nat} {J K n : Nat} {row : List Int32} {q r : IY} (h : iyR NV q r) : iyR NV (mvPut NP NJ NV w ck vv R S J K n row q) (mvPut NP NJ NV w ck vv R S J K n row r) := by
  unfold mvPut
  rw [h.1]
  split
  · exact h
  · exact iyR_new
theorem sk_rel {S : Nat → Nat} {kd : Nat} {q r : IY} (h : iyR NV q r) : iyR NV (skF NP NJ NV w ck vv R S kd q) (skF NP NJ NV w ck vv R S kd r) := by
  unfold skF
  split
  · unfold mvJ
    refine fold_rel _ _ _ (fun J b c h => ?_) h
    unfold mvOne
    split
    · exact h
    · split
      · exact h
      · split
        · exact h
        · unfold mvN
          refine fold_rel _ _ _ (fun n b c h => ?_) h
          unfold mvStep
          split
          · exact mvPut_rel h
          · split
            · exact mvPut_rel h
            · exact h
  · split
    · unfold swJ
      refine fold_rel _ _ _ (fun J b c h => ?_) h
      unfold swK
      refine fold_rel _ _ _ (fun J2 b c h => ?_) h
      unfold swStep
      split
      · exact h
      · split
        · exact h
        · split
          · exact h
          · split
            · split
              · exact h
              · split
                · exact h
                · exact off2_rel h
            · exact h
    · split
      · unfold trN
        refine fold_rel _ _ _ (fun n b c h => ?_) h
        unfold trI
        refine fold_rel _ _ _ (fun i b c h => ?_) h
        unfold trK
        refine fold_rel _ _ _ (fun k b c h => ?_) h
        unfold trStep
        split
        · exact h
        · exact off2_rel h
      · unfold enA
        refine fold_rel _ _ _ (fun a b c h => ?_) h
        unfold enB
        refine fold_rel _ _ _ (fun a2 b c h => ?_) h
        unfold enI
        refine fold_rel _ _ _ (fun i b c h => ?_) h
        unfold enK
        refine fold_rel _ _ _ (fun k b c h => ?_) h
        unfold enStep
        split
        · exact h
        · split
          · exact h
          · exact off2_rel h
theorem tCost_vx {v : Nat → Int32} {b : Int32} {L : List Int32} : tCost NP NJ w ck (vx v b) L = tCost NP NJ w ck v L := rfl
theorem costI_vx {v : Nat → Int32} {b : Int32} {M : List Nat} : costI w (vx v b) M = costI w v M := rfl
theorem ss_at {vv : Nat → Nat → Int32} {Y : Nat → List Int32} {m : Nat} : (ssFrom NP NJ NV w ck R 0 (vv, Y)).1 m = (if m < NV then vx (vv m) (tCost NP NJ w ck (vv m) (R m)) else vv m) ∧ (ssFrom NP NJ NV w ck R 0 (vv, Y)).2 m = (if m < NV then R m else Y m) := by
  unfold ssFrom
  have key : ∀ (k n : Nat) (q : (Nat → Nat → Int32) × (Nat → List Int32)), (((List.range' n k).foldl (ssStep NP NJ w ck R) q).1 m = if n ≤ m ∧ m < n + k then vx (q.1 m) (tCost NP NJ w ck (q.1 m) (R m)) else q.1 m) ∧ (((List.range' n k).foldl (ssStep NP NJ w ck R) q).2 m = if n ≤ m ∧ m < n + k then R m else q.2 m) := by
    intro k
    induction k with
    | zero => intro n q; exact ⟨by rw [if_neg (by omega)]; rfl, by rw [if_neg (by omega)]; rfl⟩
    | succ k ih =>
      intro n q
      obtain ⟨h1, h2⟩ := ih (n + 1) (ssStep NP NJ w ck R q n)
      rw [List.range'_succ, List.foldl_cons, h1, h2]
      have e1 : (ssStep NP NJ w ck R q n).1 m = if m = n then vx (q.1 n) (tCost NP NJ w ck (q.1 n) (R n)) else q.1 m := rfl
      have e2 : (ssStep NP NJ w ck R q n).2 m = if m = n then R n else q.2 m := rfl
      by_cases c : m = n
      · subst c
        have z1 : ¬ (m + 1 ≤ m ∧ m < m + 1 + k) := by omega
        have z2 : m ≤ m ∧ m < m + (k + 1) := by omega
        rw [if_neg z1, if_neg z1, e1, e2, if_pos rfl, if_pos rfl, if_pos z2, if_pos z2]
        exact ⟨rfl, rfl⟩
      · rw [e1, e2, if_neg c, if_neg c]
        by_cases c2 : n + 1 ≤ m ∧ m < n + 1 + k
        · rw [if_pos c2, if_pos c2, if_pos (by omega), if_pos (by omega)]; exact ⟨rfl, rfl⟩
        · rw [if_neg c2, if_neg c2, if_neg (by omega), if_neg (by omega)]; exact ⟨rfl, rfl⟩
  obtain ⟨h1, h2⟩ := key (NV - 0) 0 (vv, Y)
  rw [h1, h2]
  by_cases c : m < NV
  · rw [if_pos c, if_pos c, if_pos (by omega), if_pos (by omega)]; exact ⟨rfl, rfl⟩
  · rw [if_neg c, if_neg c, if_neg (by omega), if_neg (by omega)]; exact ⟨rfl, rfl⟩
/-- the plan is sound, with its rows -/
def pC (NP NJ NV : Nat) (w vv : Nat → Nat → Int32) (N : Nat → List Nat) (R : Nat → List Int32) : Prop := gOk NP w ∧ jOk NP NJ w ∧ (NV ≤ 3 ∧ ∀ n, n < NV → vOk NP (vv n)) ∧ gV NJ NV N ∧ (∀ n, n < NV → R n = mp (N n)) ∧ ∀ n, n < NV → capOk w (vv n) (N n)
theorem pC.start (C : pC NP NJ NV w vv N R) {Y : Nat → List Int32} : sC NP NJ NV w (ssFrom NP NJ NV w ck R 0 (vv, Y)).1 ck N R := by
  obtain ⟨hg, hj, hv, hN, hR, hc⟩ := C
  refine ⟨hg, hj, ⟨hv.1, fun n hn => ?_⟩, hN, hR, fun n hn => ?_, fun n hn => ?_⟩
  · rw [ss_at.1, if_pos hn]; exact hv.2 n hn
  · rw [ss_at.1, if_pos hn]; exact hc n hn
  · rw [ss_at.1, if_pos hn]; rfl
theorem csI_vx {vv vv' : Nat → Nat → Int32} {N : Nat → List Nat} : ∀ {m : Nat}, (∀ n, n < m → ∀ M, costI w (vv n) M = costI w (vv' n) M) → csI w vv m N = csI w vv' m N := by
  intro m
  induction m with
  | zero => intro _; rfl
  | succ m ih => intro h; show csI w vv m N + _ = csI w vv' m N + _; rw [ih (fun n hn => h n (by omega)), h m (by omega)]
theorem start_good (C : pC NP NJ NV w vv N R) {Y : Nat → List Int32} : qG NJ NV w (ssFrom NP NJ NV w ck R 0 (vv, Y)).1 N (0, (ssFrom NP NJ NV w ck R 0 (vv, Y)).2) := by
  have C2 := C.start (ck := ck) (Y := Y)
  obtain ⟨hg, hj, hv, hN, hR, hc⟩ := C
  refine ⟨N, fun n hn => ?_, hN, fun s => rfl, C2.2.2.2.2.2.1, Int.le_refl 0, ?_⟩
  · show (ssFrom NP NJ NV w ck R 0 (vv, Y)).2 n = _
    rw [ss_at.2, if_pos hn]; exact hR n hn
  · show (0 : Int) = _
    omega
theorem ss_again {Y Y' : Nat → List Int32} : (ssFrom NP NJ NV w ck R 0 ((ssFrom NP NJ NV w ck R 0 (vv, Y)).1, Y')).1 = (ssFrom NP NJ NV w ck R 0 (vv, Y)).1 := by
  funext m
  rw [ss_at.1, ss_at.1]
  by_cases c : m < NV
  · rw [if_pos c, if_pos c, tCost_vx]
    funext k
    unfold vx
    by_cases z : k = 7
    · rw [if_pos z, if_pos z]
    · rw [if_neg z, if_neg z]
  · rw [if_neg c, if_neg c]
/-- the fines of the jobs that no route holds -/
def opI (w : Nat → Nat → Int32) (c : Nat → Nat) : Nat → Int
  | 0 => 0
  | J + 1 => opI w c J + if c (2 * J) = 0 then (w 3 J).toInt else 0
theorem cn_zero {NV : Nat} {N : Nat → List Nat} {s : Nat} : cn NV N s = 0 ↔ ∀ n, n < NV → s ∉ N n := by
  constructor
  · intro h n hn c
    have := cn_ge (N := N) (s := s) hn
    have := List.count_pos_iff.mpr c
    omega
  · induction NV with
    | zero => intro _; rfl
    | succ m ih =>
      intro h
      show cn m N s + (N m).count s = 0
      rw [ih (fun n hn => h n (by omega)), List.count_eq_zero.mpr (h m (by omega))]
theorem pC.s18 (C : pC NP NJ NV w vv N R) {n : Nat} (hn : n < NV) : s18 (N n) := fun s hs => by
  have h1 := (C.2.2.2.1.2 n hn).1 s hs
  have := C.2.1.1
  omega
theorem pC.len (C : pC NP NJ NV w vv N R) {n : Nat} (hn : n < NV) : (N n).length ≤ 18 := by
  have := gV_len C.2.2.2.1 hn
  have := C.2.1.1
  omega
theorem pC.carr (C : pC NP NJ NV w vv N R) {J : Nat} (hJ : J < 9) : (∃ n, n < NV ∧ 2 * J ∈ N n ∧ carrF NV R (nI J) = nI n ∧ ∀ m, m < n → 2 * J ∉ N m) ∨ ((∀ n, n < NV → 2 * J ∉ N n) ∧ carrF NV R (nI J) = -1) := carr_mp (R := R) C.2.2.1.1 (fun n hn => C.s18 hn) (fun n hn => C.len hn) C.2.2.2.2.1 hJ
theorem csI_rng (C : pC NP NJ NV w vv N R) {m : Nat} (hm : m ≤ NV) : 0 ≤ csI w vv m N ∧ csI w vv m N ≤ 21000 * m := by
  obtain ⟨hg, hj, hv, hN, hR, hc⟩ := id C
  induction m with
  | zero => exact ⟨Int.le_refl 0, Int.le_refl 0⟩
  | succ m ih =>
    have h1 := ih (by omega)
    have h2 := tCost_I (ck := 0) hg hj (hv.2 m (by omega)) (hN.2 m (by omega)).1 (C.len (by omega))
    show 0 ≤ csI w vv m N + costI w (vv m) (N m) ∧ csI w vv m N + costI w (vv m) (N m) ≤ _
    omega
theorem opI_rng (hj : jOk NP NJ w) {c : Nat → Nat} {m : Nat} (hm : m ≤ NJ) : 0 ≤ opI w c m ∧ opI w c m ≤ 999 * m := by
  induction m with
  | zero => exact ⟨Int.le_refl 0, Int.le_refl 0⟩
  | succ m ih =>
    have h1 := ih (by omega)
    have h2 := hj.2.2 m (by omega)
    show 0 ≤ opI w c m + (if c (2 * m) = 0 then (w 3 m).toInt else 0) ∧ opI w c m + (if c (2 * m) = 0 then (w 3 m).toInt else 0) ≤ _
    split <;> omega
theorem cs_I (C : pC NP NJ NV w vv N R) : (csFrom NP NJ NV w ck vv R 0 0).toInt = csI w vv NV N := by
  obtain ⟨hg, hj, hv, hN, hR, hc⟩ := id C
  have h3 := hv.1
  have key : ∀ (k n : Nat) (s : Int32), n + k ≤ NV → s.toInt = csI w vv n N → ((List.range' n k).foldl (fun s n => s + tCost NP NJ w ck (vv n) (R n)) s).toInt = csI w vv (n + k) N := by
    intro k
    induction k with
    | zero => intro n s _ h; exact h
    | succ k ih =>
      intro n s hk h
      rw [List.range'_succ, List.foldl_cons]
      have h1 := tCost_I (ck := ck) hg hj (hv.2 n (by omega)) (hN.2 n (by omega)).1 (C.len (by omega))
      have h2 := csI_rng C (m := n) (by omega)
      have e := ih (n + 1) _ (by omega) (show (s + tCost NP NJ w ck (vv n) (R n)).toInt = csI w vv n N + costI w (vv n) (N n) by rw [hR n (by omega)]; exact i_add h h1.1 (by omega))
      rw [e, show n + 1 + k = n + (k + 1) by omega]
  have h := key (NV - 0) 0 0 (by omega) rfl
  rw [Nat.zero_add, Nat.sub_zero] at h
  unfold csFrom
  exact h
/-- what all costs, in whole numbers -/
theorem cost_I (C : pC NP NJ NV w vv N R) : (costF NP NJ NV w ck vv R).toInt = csI w vv NV N + opI w (cn NV N) NJ := by
  obtain ⟨hg, hj, hv, hN, hR, hc⟩ := id C
  have h3 := hv.1
  have hJ9 := hj.1
  have hb := csI_rng C (m := NV) (Nat.le_refl _)
  have key : ∀ (k J : Nat) (s : Int32), J + k ≤ NJ → s.toInt = csI w vv NV N + opI w (cn NV N) J → ((List.range' J k).foldl (fnStep NV w R) s).toInt = csI w vv NV N + opI w (cn NV N) (J + k) := by
    intro k
    induction k with
    | zero => intro J s _ h; exact h
    | succ k ih =>
      intro J s hk h
      rw [List.range'_succ, List.foldl_cons]
      have hb2 := opI_rng hj (c := cn NV N) (m := J) (by omega)
      have hf := hj.2.2 J (by omega)
      have e := ih (J + 1) (fnStep NV w R s J) (by omega) (by
        unfold fnStep
        show _ = csI w vv NV N + (opI w (cn NV N) J + if cn NV N (2 * J) = 0 then (w 3 J).toInt else 0)
        rcases C.carr (J := J) (by omega) with ⟨n, hn, m1, e1, -⟩ | ⟨m1, e1⟩
        · rw [e1, if_neg (nI_ne1 (by omega)), if_neg (fun c => (cn_zero.mp c) n hn m1), Int.add_zero]; exact h
        · rw [e1, if_pos rfl, if_pos (cn_zero.mpr m1), nI_clamp (by omega), ← Int.add_assoc]; exact i_add h rfl (by omega))
      rw [e, show J + 1 + k = J + (k + 1) by omega]
  have h := key (NJ - 0) 0 (csFrom NP NJ NV w ck vv R 0 0) (by omega) (by rw [cs_I C]; show _ = _ + (0 : Int); omega)
  rw [Nat.zero_add, Nat.sub_zero] at h
  unfold costF fnFrom
  exact h
theorem opI_congr {c d : Nat → Nat} {m : Nat} (h : ∀ s, c s = d s) : opI w c m = opI w d m := by
  rw [show c = d from funext h]
theorem mb_at {Y R : Nat → List Int32} {m : Nat} : mbFrom NV Y 0 R m = if m < NV then Y m else R m := by
  unfold mbFrom
  have key : ∀ (l : List Nat) (R : Nat → List Int32), (l.foldl (mbStep Y) R) m = if m ∈ l then Y m else R m := by
    intro l
    induction l with
    | nil => intro R; rfl
    | cons x l ih =>
      intro R
      rw [List.foldl_cons, ih]
      have e1 : mbStep Y R x m = if m = x then Y x else R m := rfl
      by_cases h1 : m ∈ l
      · rw [if_pos h1, if_pos (List.mem_cons_of_mem _ h1)]
      · rw [if_neg h1, e1]
        by_cases h2 : m = x
        · subst h2; rw [if_pos rfl, if_pos List.mem_cons_self]
        · rw [if_neg h2, if_neg (fun c => by rcases List.mem_cons.mp c with c | c; exact h2 c; exact h1 c)]
  rw [key]
  by_cases c : m < NV
  · rw [if_pos c, if_pos (List.mem_range'_1.mpr ⟨Nat.zero_le _, by omega⟩)]
  · rw [if_neg c, if_neg (fun q => c (by have := List.mem_range'_1.mp q; omega))]
/-- a change that was found is made: the plan stays sound, and all costs less by the gain -/
theorem made_good (C : pC NP NJ NV w vv N R) {Y : Nat → List Int32} {q : IY} (hq : qG NJ NV w (ssFrom NP NJ NV w ck R 0 (vv, Y)).1 N q) :
    ∃ N', pC NP NJ NV w (ssFrom NP NJ NV w ck R 0 (vv, Y)).1 N' (mbFrom NV q.2 0 R) ∧ (∀ s, cn NV N' s = cn NV N s) ∧ 0 ≤ q.1.toInt ∧ (costF NP NJ NV w ck (ssFrom NP NJ NV w ck R 0 (vv, Y)).1 (mbFrom NV q.2 0 R)).toInt = (costF NP NJ NV w ck vv R).toInt - q.1.toInt ∧ q.1.toInt ≤ 63000 := by
  have C2 := C.start (ck := ck) (Y := Y)
  obtain ⟨N', h1, h2, h3, h4, h5, h6⟩ := hq
  have hC' : pC NP NJ NV w (ssFrom NP NJ NV w ck R 0 (vv, Y)).1 N' (mbFrom NV q.2 0 R) := ⟨C2.1, C2.2.1, C2.2.2.1, h2, fun n hn => by rw [mb_at, if_pos hn]; exact h1 n hn, h4⟩
  have hvx : ∀ M, csI w (ssFrom NP NJ NV w ck R 0 (vv, Y)).1 NV M = csI w vv NV M := fun M => csI_vx (fun n hn M => by rw [ss_at.1, if_pos hn]; rfl)
  refine ⟨N', hC', h3, h5, ?_, ?_⟩
  · rw [cost_I hC', cost_I C, opI_congr h3, h6, hvx, hvx]; omega
  · have b1 := csI_rng C (m := NV) (Nat.le_refl _)
    have b2 := csI_rng hC' (m := NV) (Nat.le_refl _)
    have := C.2.2.1.1
    rw [h6, hvx, hvx]
    rw [hvx] at b2
    omega
end
