/-! rows as lists of natural numbers -/
abbrev mp (M : List Nat) : List Int32 := M.map nI
def s18 (M : List Nat) : Prop := ∀ s, s ∈ M → s < 18
theorem nI_inj {a b : Nat} (ha : a < 2147483648) (hb : b < 2147483648) : nI a = nI b ↔ a = b := by
  rw [i_eq (nI_toInt ha) (nI_toInt hb)]; omega
theorem jOf_nI : ∀ s, s < 18 → jOf (nI s) = nI (s / 2) := by decide +kernel
theorem isF_nI : ∀ s, s < 18 → isF (nI s) = decide (s % 2 = 0) := by decide +kernel
theorem rIdx_mp {s : Nat} (hs : s < 2147483648) : ∀ (M : List Nat), (∀ x, x ∈ M → x < 2147483648) → rIdx (mp M) (nI s) = if s ∈ M then some (M.idxOf s) else none := by
  intro M
  induction M with
  | nil => intro _; rfl
  | cons a M ih =>
    intro hM
    show (if nI a = nI s then some 0 else (rIdx (mp M) (nI s)).map (· + 1)) = _
    rw [ih (fun x hx => hM x (List.mem_cons_of_mem _ hx))]
    by_cases h : a = s
    · subst h
      simp
    · have hn : ¬ nI a = nI s := fun c => h ((nI_inj (hM a List.mem_cons_self) hs).mp c)
      rw [if_neg hn]
      by_cases hm : s ∈ M
      · rw [if_pos hm, if_pos (List.mem_cons_of_mem _ hm), show (a :: M).idxOf s = M.idxOf s + 1 by rw [List.idxOf_cons, (beq_eq_false_iff_ne (a := a) (b := s)).mpr h]; rfl]
        rfl
      · rw [if_neg hm, if_neg (fun c => by rcases List.mem_cons.mp c with q | q; exact h q.symm; exact hm q)]
        rfl
theorem rFind_mp {s : Nat} {M : List Nat} (hs : s < 2147483648) (hM : ∀ x, x ∈ M → x < 2147483648) : rFind (mp M) (nI s) = if s ∈ M then nI (M.idxOf s) else -1 := by
  unfold rFind
  rw [rIdx_mp hs M hM]
  by_cases h : s ∈ M
  · rw [if_pos h, if_pos h]; show nI (0 + _) = _; rw [Nat.zero_add]
  · rw [if_neg h, if_neg h]; rfl
theorem nI_ne1 {n : Nat} (h : n < 2147483648) : ¬ nI n = -1 := fun c => by
  have := (i_eq (nI_toInt h) (show (-1 : Int32).toInt = (-1 : Int) from rfl)).mp c
  omega
def nWithout (M : List Nat) (J : Nat) : List Nat := M.filter (fun s => decide (s / 2 ≠ J))
def nWith (M : List Nat) (J i k : Nat) : List Nat := M.take i ++ [2 * J] ++ (M.take k).drop i ++ [2 * J + 1] ++ M.drop k
def nTurned (M : List Nat) (i k : Nat) : List Nat := M.take i ++ ((M.take (k + 1)).drop i).reverse ++ M.drop (k + 1)
def nJoined (M B : List Nat) (i k : Nat) : List Nat := M.take i ++ B.drop k
def nSw (a b x : Nat) : Nat := if x = a then b else if x = b then a else x
def nSwap (a b s : Nat) : Nat := if s % 2 = 0 then 2 * nSw a b (s / 2) else 2 * nSw a b (s / 2) + 1
theorem rWithout_mp {M : List Nat} {J : Nat} (hM : s18 M) (hJ : J < 9) : rWithout (mp M) (nI J) = mp (nWithout M J) := by
  unfold rWithout nWithout mp
  rw [List.filter_map]
  congr 1
  apply List.filter_congr
  intro s hs
  have h := hM s hs
  show decide (jOf (nI s) ≠ nI J) = decide (s / 2 ≠ J)
  rw [jOf_nI s h]
  exact decide_eq_decide.mpr (not_congr (nI_inj (by omega) (by omega)))
theorem rWith_mp {M : List Nat} {J i k : Nat} (hik : i ≤ k) (h : M.length ≤ 16) : rWith (mp M) (nI J) i k = mp (nWith M J i k) := by
  unfold rWith
  have e : (mp M).take i ++ [fOf (nI J)] ++ ((mp M).take k).drop i ++ [bOf (nI J)] ++ (mp M).drop k = mp (nWith M J i k) := by
    unfold nWith mp
    rw [fOf_nI, bOf_nI]
    simp only [List.map_append, List.map_take, List.map_drop, List.map_cons, List.map_nil]
  rw [e]
  apply List.take_of_length_le
  unfold nWith mp
  simp only [List.length_map, List.length_append, List.length_take, List.length_drop, List.length_cons, List.length_nil]
  omega
theorem rTurned_mp {M : List Nat} {i k : Nat} : rTurned (mp M) i k = mp (nTurned M i k) := by
  unfold rTurned nTurned mp
  simp only [List.map_append, List.map_take, List.map_drop, List.map_reverse]
theorem rJoined_mp {M B : List Nat} {i k : Nat} (h : (nJoined M B i k).length ≤ 18) : rJoined (mp M) (mp B) i k = mp (nJoined M B i k) := by
  unfold rJoined
  have e : (mp M).take i ++ (mp B).drop k = mp (nJoined M B i k) := by
    unfold nJoined mp
    simp only [List.map_append, List.map_take, List.map_drop]
  rw [e]
  exact List.take_of_length_le (by rw [List.length_map]; exact h)
set_option maxRecDepth 100000 in
theorem rSwap_nI : ∀ s, s < 18 → ∀ a, a < 9 → ∀ b, b < 9 → rSwap (nI a) (nI b) (nI s) = nI (nSwap a b s) := by decide +kernel
theorem rSwap_mp {M : List Nat} {a b : Nat} (hM : s18 M) (ha : a < 9) (hb : b < 9) : (mp M).map (rSwap (nI a) (nI b)) = mp (M.map (nSwap a b)) := by
  unfold mp
  rw [List.map_map, List.map_map]
  exact List.map_congr_left (fun s hs => rSwap_nI s (hM s hs) a ha b hb)
/-- each stop where a job is brought has its fetching ahead, in the row or before it -/
def bOk : (Nat → Prop) → List Nat → Prop
  | _, [] => True
  | P, s :: M => (s % 2 = 1 → P (s - 1)) ∧ bOk (fun x => x = s ∨ P x) M
theorem bOk_mono {M : List Nat} : ∀ {P Q : Nat → Prop}, (∀ x, P x → Q x) → bOk P M → bOk Q M := by
  induction M with
  | nil => intro P Q _ _; trivial
  | cons s M ih => intro P Q h hb; exact ⟨fun c => h _ (hb.1 c), ih (fun x hx => hx.imp id (h x)) hb.2⟩
theorem bOk_app {A : List Nat} : ∀ {P : Nat → Prop} {B : List Nat}, bOk P (A ++ B) ↔ bOk P A ∧ bOk (fun x => x ∈ A ∨ P x) B := by
  induction A with
  | nil => intro P B; simp [bOk]
  | cons s A ih =>
    intro P B
    show (_ ∧ bOk _ (A ++ B)) ↔ (_ ∧ bOk _ A) ∧ _
    rw [ih, and_assoc]
    have e : ∀ x, (x ∈ A ∨ (x = s ∨ P x)) ↔ (x ∈ s :: A ∨ P x) := fun x => by
      rw [List.mem_cons]
      exact ⟨fun h => h.elim (fun a => Or.inl (Or.inr a)) (fun h => h.elim (fun a => Or.inl (Or.inl a)) Or.inr), fun h => h.elim (fun h => h.elim (fun a => Or.inr (Or.inl a)) Or.inl) (fun a => Or.inr (Or.inr a))⟩
    constructor
    · rintro ⟨h1, h2, h3⟩; exact ⟨h1, h2, bOk_mono (fun x hx => (e x).mp hx) h3⟩
    · rintro ⟨h1, h2, h3⟩; exact ⟨h1, h2, bOk_mono (fun x hx => (e x).mpr hx) h3⟩
theorem bOk_all {M : List Nat} : ∀ {P : Nat → Prop}, (∀ s, s ∈ M → s % 2 = 1 → P (s - 1)) → bOk P M := by
  induction M with
  | nil => intro P _; trivial
  | cons s M ih => intro P h; exact ⟨h s List.mem_cons_self, ih (fun x hx hx2 => Or.inr (h x (List.mem_cons_of_mem _ hx) hx2))⟩
/-- where a job is brought, its fetching stands in the row or before it -/
theorem bOk_mem {M : List Nat} : ∀ {P : Nat → Prop}, bOk P M → ∀ s, s ∈ M → s % 2 = 1 → s - 1 ∈ M ∨ P (s - 1) := by
  induction M with
  | nil => intro P _ s hs; cases hs
  | cons a M ih =>
    intro P hb s hs h1
    rcases List.mem_cons.mp hs with rfl | hs
    · exact Or.inr (hb.1 h1)
    · rcases ih hb.2 s hs h1 with h | h | h
      · exact Or.inl (List.mem_cons_of_mem _ h)
      · exact Or.inl (by rw [h]; exact List.mem_cons_self)
      · exact Or.inr h
theorem bOk_drop {M : List Nat} : ∀ {P Q : Nat → Prop}, bOk (fun x => P x ∨ Q x) M → (∀ s, s ∈ M → s % 2 = 1 → ¬ P (s - 1)) → bOk Q M := by
  induction M with
  | nil => intro P Q _ _; trivial
  | cons s M ih =>
    intro P Q hb h
    refine ⟨fun c => (hb.1 c).elim (fun q => absurd q (h s List.mem_cons_self c)) id, ih (P := P) (bOk_mono (fun x hx => ?_) hb.2) (fun x hx => h x (List.mem_cons_of_mem _ hx))⟩
    rcases hx with hx | hx | hx
    · exact Or.inr (Or.inl hx)
    · exact Or.inl hx
    · exact Or.inr (Or.inr hx)
theorem bOk_filter {f : Nat → Bool} (hf : ∀ s, s % 2 = 1 → f (s - 1) = f s) {M : List Nat} : ∀ {P Q : Nat → Prop}, (∀ x, P x → f x = true → Q x) → bOk P M → bOk Q (M.filter f) := by
  induction M with
  | nil => intro P Q _ _; trivial
  | cons s M ih =>
    intro P Q h hb
    by_cases c : f s = true
    · rw [List.filter_cons_of_pos c]
      exact ⟨fun c2 => h _ (hb.1 c2) (by rw [hf s c2]; exact c), ih (fun x hx hfx => hx.imp id (fun z => h x z hfx)) hb.2⟩
    · rw [List.filter_cons_of_neg c]
      exact ih (fun x hx hfx => hx.elim (fun z => absurd (by rw [← z]; exact hfx) c) (fun z => h x z hfx)) hb.2
theorem bOk_map {g : Nat → Nat} (h1 : ∀ s, g s % 2 = s % 2) (h2 : ∀ s, s % 2 = 1 → g (s - 1) = g s - 1) {M : List Nat} : ∀ {P Q : Nat → Prop}, (∀ x, P x → Q (g x)) → bOk P M → bOk Q (M.map g) := by
  induction M with
  | nil => intro P Q _ _; trivial
  | cons s M ih =>
    intro P Q h hb
    refine ⟨fun c => ?_, ih (fun x hx => hx.imp (fun z => by rw [z]) (h x)) hb.2⟩
    rw [h1] at c
    rw [← h2 s c]
    exact h _ (hb.1 c)
