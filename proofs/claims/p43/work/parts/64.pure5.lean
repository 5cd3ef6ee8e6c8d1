/-! all routes: which stops they hold, what they cost -/
def cn : Nat → (Nat → List Nat) → Nat → Nat
  | 0, _, _ => 0
  | n + 1, N, s => cn n N s + (N n).count s
theorem cn_congr {N N' : Nat → List Nat} {s : Nat} : ∀ {n : Nat}, (∀ k, k < n → (N k).count s = (N' k).count s) → cn n N s = cn n N' s := by
  intro n
  induction n with
  | zero => intro _; rfl
  | succ n ih => intro h; show cn n N s + _ = cn n N' s + _; rw [ih (fun k hk => h k (by omega)), h n (by omega)]
theorem cn_up {N : Nat → List Nat} {a : Nat} {L : List Nat} {s : Nat} : ∀ {n : Nat}, a < n → cn n (va_up N a L) s + (N a).count s = cn n N s + L.count s := by
  intro n
  induction n with
  | zero => intro h; omega
  | succ n ih =>
    intro h
    show cn n (va_up N a L) s + (va_up N a L n).count s + _ = cn n N s + (N n).count s + _
    by_cases e : a = n
    · subst e
      have e1 : cn a (va_up N a L) s = cn a N s := cn_congr (fun k hk => by show (if k = a then L else N k).count s = _; rw [if_neg (by omega)])
      have e2 : va_up N a L a = L := if_pos rfl
      rw [e1, e2]; omega
    · have h1 := ih (by omega : a < n)
      have e2 : va_up N a L n = N n := if_neg (fun c => e c.symm)
      rw [e2]; omega
theorem cn_ge {N : Nat → List Nat} {a s : Nat} : ∀ {n : Nat}, a < n → (N a).count s ≤ cn n N s := by
  intro n
  induction n with
  | zero => intro h; omega
  | succ n ih =>
    intro h
    show _ ≤ cn n N s + (N n).count s
    by_cases e : a = n
    · subst e; omega
    · have := ih (by omega : a < n); omega
theorem cn_ge2 {N : Nat → List Nat} {a b s : Nat} (hab : a ≠ b) : ∀ {n : Nat}, a < n → b < n → (N a).count s + (N b).count s ≤ cn n N s := by
  intro n
  induction n with
  | zero => intro h; omega
  | succ n ih =>
    intro ha hb
    show _ ≤ cn n N s + (N n).count s
    by_cases e : a = n
    · subst e; have := cn_ge (N := N) (s := s) (by omega : b < a); omega
    · by_cases e2 : b = n
      · subst e2; have := cn_ge (N := N) (s := s) (by omega : a < b); omega
      · have := ih (by omega) (by omega); omega
def csI (w : Nat → Nat → Int32) (vv : Nat → Nat → Int32) : Nat → (Nat → List Nat) → Int
  | 0, _ => 0
  | n + 1, N => csI w vv n N + costI w (vv n) (N n)
theorem csI_congr {w vv : Nat → Nat → Int32} {N N' : Nat → List Nat} : ∀ {n : Nat}, (∀ k, k < n → N k = N' k) → csI w vv n N = csI w vv n N' := by
  intro n
  induction n with
  | zero => intro _; rfl
  | succ n ih => intro h; show csI w vv n N + _ = csI w vv n N' + _; rw [ih (fun k hk => h k (by omega)), h n (by omega)]
theorem csI_up {w vv : Nat → Nat → Int32} {N : Nat → List Nat} {a : Nat} {L : List Nat} : ∀ {n : Nat}, a < n → csI w vv n (va_up N a L) + costI w (vv a) (N a) = csI w vv n N + costI w (vv a) L := by
  intro n
  induction n with
  | zero => intro h; omega
  | succ n ih =>
    intro h
    show csI w vv n (va_up N a L) + costI w (vv n) (va_up N a L n) + _ = csI w vv n N + costI w (vv n) (N n) + _
    by_cases e : a = n
    · subst e
      have e1 : csI w vv a (va_up N a L) = csI w vv a N := csI_congr (fun k hk => if_neg (by omega))
      have e2 : va_up N a L a = L := if_pos rfl
      rw [e1, e2]; omega
    · have h1 := ih (by omega : a < n)
      have e2 : va_up N a L n = N n := if_neg (fun c => e c.symm)
      rw [e2]; omega
/-- a row that could be driven: stops of jobs that are there, both of each, the fetching ahead -/
def rV (NJ : Nat) (M : List Nat) : Prop := (∀ s, s ∈ M → s < 2 * NJ) ∧ (∀ J, 2 * J ∈ M → 2 * J + 1 ∈ M) ∧ bOk (fun _ => False) M
/-- all routes: each stop once -/
def gV (NJ NV : Nat) (N : Nat → List Nat) : Prop := (∀ s, cn NV N s ≤ 1) ∧ ∀ n, n < NV → rV NJ (N n)
theorem gV_nd {NJ NV n : Nat} {N : Nat → List Nat} (h : gV NJ NV N) (hn : n < NV) : (N n).Nodup := List.nodup_iff_count.mpr (fun s => Nat.le_trans (cn_ge hn) (h.1 s))
theorem gV_dis {NJ NV a b s : Nat} {N : Nat → List Nat} (h : gV NJ NV N) (ha : a < NV) (hb : b < NV) (hab : a ≠ b) (hs : s ∈ N a) : s ∉ N b := fun c => by
  have h1 := cn_ge2 (N := N) (s := s) hab ha hb
  have h2 := List.count_pos_iff.mpr hs
  have h3 := List.count_pos_iff.mpr c
  have := h.1 s
  omega
theorem nd_len : ∀ {n : Nat} {M : List Nat}, M.Nodup → (∀ s, s ∈ M → s < n) → M.length ≤ n := by
  intro n
  induction n with
  | zero =>
    intro M _ h
    cases M with
    | nil => exact Nat.le_refl 0
    | cons a M => exact absurd (h a List.mem_cons_self) (by omega)
  | succ n ih =>
    intro M hn h
    by_cases c : n ∈ M
    · have h1 := ih (M := M.erase n) (hn.erase n) (fun s hs => by
        have h2 := h s (List.mem_of_mem_erase hs)
        have h3 : s ≠ n := fun e => by subst e; exact (hn.mem_erase_iff.mp hs).1 rfl
        omega)
      rw [List.length_erase_of_mem c] at h1
      omega
    · have := ih hn (fun s hs => by
        have h2 := h s hs
        have h3 : s ≠ n := fun e => by subst e; exact c hs
        omega)
      omega
theorem gV_len {NJ NV n : Nat} {N : Nat → List Nat} (h : gV NJ NV N) (hn : n < NV) : (N n).length ≤ 2 * NJ := nd_len (gV_nd h hn) (h.2 n hn).1
theorem gV_len2 {NJ NV a b : Nat} {N : Nat → List Nat} (h : gV NJ NV N) (ha : a < NV) (hb : b < NV) (hab : a ≠ b) : (N a).length + (N b).length ≤ 2 * NJ := by
  have h1 : (N a ++ N b).Nodup := List.nodup_append.mpr ⟨gV_nd h ha, gV_nd h hb, fun x hx y hy e => gV_dis h ha hb hab hx (by rw [e]; exact hy)⟩
  have h2 := nd_len h1 (n := 2 * NJ) (fun s hs => (List.mem_append.mp hs).elim ((h.2 a ha).1 s) ((h.2 b hb).1 s))
  rw [List.length_append] at h2
  exact h2
/-- what is carried after some stops -/
def loadI (w : Nat → Nat → Int32) : List Nat → Int
  | [] => 0
  | s :: M => (w 8 s).toInt + loadI w M
def capOk (w : Nat → Nat → Int32) (v : Nat → Int32) (M : List Nat) : Prop := ∀ A B, M = A ++ B → loadI w A ≤ (v 1).toInt
section
variable {w : Nat → Nat → Int32} {ck cap : Int}
theorem iRun_9 : ∀ (M : List Nat) (T : Nat → Int), (M.foldl (iV w ck cap) T) 9 ≠ 0 → T 9 ≠ 0 ∧ (M.foldl (iV w ck cap) T) 9 = T 9 := by
  intro M
  induction M with
  | nil => intro T h; exact ⟨h, rfl⟩
  | cons s M ih =>
    intro T h
    obtain ⟨h1, h2⟩ := ih (iV w ck cap T s) h
    have e : iV w ck cap T s 9 = if (w 6 s).toInt < iBeg w T s then 0 else if T 4 + (w 8 s).toInt ≤ cap then T 9 else 0 := rfl
    rw [List.foldl_cons, h2]
    rw [e] at h1 ⊢
    by_cases c1 : (w 6 s).toInt < iBeg w T s
    · rw [if_pos c1] at h1; exact absurd rfl h1
    · rw [if_neg c1] at h1 ⊢
      by_cases c2 : T 4 + (w 8 s).toInt ≤ cap
      · rw [if_pos c2] at h1 ⊢; exact ⟨h1, rfl⟩
      · rw [if_neg c2] at h1; exact absurd rfl h1
theorem iRun_4 : ∀ (M : List Nat) (T : Nat → Int), (M.foldl (iV w ck cap) T) 4 = T 4 + loadI w M := by
  intro M
  induction M with
  | nil => intro T; show T 4 = T 4 + 0; omega
  | cons s M ih =>
    intro T
    rw [List.foldl_cons, ih]
    show T 4 + (w 8 s).toInt + loadI w M = T 4 + ((w 8 s).toInt + loadI w M)
    omega
theorem iRun_cap : ∀ (M : List Nat) (T : Nat → Int), (M.foldl (iV w ck cap) T) 9 ≠ 0 → ∀ A B, M = A ++ B → A ≠ [] → T 4 + loadI w A ≤ cap := by
  intro M
  induction M with
  | nil =>
    intro T _ A B e hA
    cases A with
    | nil => exact absurd rfl hA
    | cons a A => cases e
  | cons s M ih =>
    intro T h A B e hA
    cases A with
    | nil => exact absurd rfl hA
    | cons a A =>
      rw [List.cons_append] at e
      obtain ⟨rfl, e1⟩ := List.cons.inj e
      have h9 := (iRun_9 M _ h).1
      have hc : T 4 + (w 8 s).toInt ≤ cap := by
        have e9 : iV w ck cap T s 9 = if (w 6 s).toInt < iBeg w T s then 0 else if T 4 + (w 8 s).toInt ≤ cap then T 9 else 0 := rfl
        rw [e9] at h9
        by_cases c1 : (w 6 s).toInt < iBeg w T s
        · rw [if_pos c1] at h9; exact absurd rfl h9
        · rw [if_neg c1] at h9
          by_cases c2 : T 4 + (w 8 s).toInt ≤ cap
          · exact c2
          · rw [if_neg c2] at h9; exact absurd rfl h9
      show T 4 + ((w 8 s).toInt + loadI w A) ≤ cap
      cases A with
      | nil => show T 4 + ((w 8 s).toInt + 0) ≤ cap; omega
      | cons x A =>
        have h2 := ih (iV w ck cap T s) h (x :: A) B e1 (by simp)
        have e4 : iV w ck cap T s 4 = T 4 + (w 8 s).toInt := rfl
        rw [e4] at h2
        omega
end
section
variable {NP NJ : Nat} {w : Nat → Nat → Int32}
/-- an allowed row's loads fit -/
theorem allowed_cap {v : Nat → Int32} {ck : Int32} {M : List Nat} (hg : gOk NP w) (hj : jOk NP NJ w) (hv : vOk NP v) (hM : ∀ s, s ∈ M → s < 2 * NJ) (hn : M.length ≤ 18) (h : ¬ tRide NP NJ w ck v (mp M) 9 = 0) : capOk w v M := by
  have h9 := tRide_rel (ck := ck) hg hj hv hM hn 9 (by omega)
  have hne : iRide w ck.toInt v M 9 ≠ 0 := fun c => h ((i_eq h9 (show (0 : Int32).toInt = (0 : Int) from rfl)).mpr c)
  have hr : iRun w ck.toInt v M 9 ≠ 0 := fun c => hne (by
    show (if iRun w ck.toInt v M 3 + iHD w v (iRun w ck.toInt v M) ≤ (v 3).toInt then iRun w ck.toInt v M 9 else 0) = 0
    rw [c]; split <;> rfl)
  intro A B e
  cases A with
  | nil => show (0 : Int) ≤ _; have := hv.2.1; omega
  | cons a A =>
    have h2 := iRun_cap M (iS v) hr (a :: A) B e (by simp)
    have e0 : iS v 4 = 0 := rfl
    rw [e0, Int.zero_add] at h2
    exact h2
end
