/-! rides of whole rows, in whole numbers -/
def iS (v : Nat → Int32) : Nat → Int := ti (v 0).toInt (v 2).toInt (v 2).toInt (v 2).toInt 0 0 0 0 0 1
def iRun (w : Nat → Nat → Int32) (ck : Int) (v : Nat → Int32) (M : List Nat) : Nat → Int := M.foldl (iV w ck (v 1).toInt) (iS v)
def iHD (w : Nat → Nat → Int32) (v : Nat → Int32) (T : Nat → Int) : Int := DI w (T 0).toNat (v 0).toInt.toNat
def iHome (w : Nat → Nat → Int32) (v : Nat → Int32) (T : Nat → Int) : Nat → Int :=
  ti (v 0).toInt (T 3 + iHD w v T) (T 2) (T 3) (T 4) (T 5) (T 6) (T 7 + iHD w v T) (T 8 + iHD w v T * T 4) (if T 3 + iHD w v T ≤ (v 3).toInt then T 9 else 0)
def iRide (w : Nat → Nat → Int32) (ck : Int) (v : Nat → Int32) (M : List Nat) : Nat → Int := iHome w v (iRun w ck v M)
section
variable {NP NJ : Nat} {w : Nat → Nat → Int32}
theorem iS_rel {v : Nat → Int32} (hv : vOk NP v) (hg : gOk NP w) : iRel NP 0 (tStart v) (iS v) := by
  obtain ⟨⟨h, hh, e⟩, h1, h2, h3, h4⟩ := hv
  have h12 := hg.1
  have e0 : (v 0).toInt = (h : Int) := by rw [e]; exact nI_toInt (by omega)
  refine ⟨fun k hk => ?_, ⟨h, hh, e0⟩, ?_, ?_, ?_, ?_, ?_, ?_⟩
  · rcases (by omega : k = 0 ∨ k = 1 ∨ k = 2 ∨ k = 3 ∨ k = 4 ∨ k = 5 ∨ k = 6 ∨ k = 7 ∨ k = 8 ∨ k = 9) with rfl | rfl | rfl | rfl | rfl | rfl | rfl | rfl | rfl | rfl <;> rfl
  · show 0 ≤ (v 2).toInt ∧ (v 2).toInt ≤ _
    omega
  all_goals exact ⟨by show _ ≤ (0 : Int); omega, by show (0 : Int) ≤ _; omega⟩
theorem iRun_rel {v : Nat → Int32} {ck : Int32} (hg : gOk NP w) (hj : jOk NP NJ w) {n : Nat} : ∀ (M : List Nat) (t : Nat → Int32) (T : Nat → Int), (∀ s, s ∈ M → s < 2 * NJ) → n + M.length ≤ 18 → iRel NP n t T → iRel NP (n + M.length) ((M.map nI).foldl (tVisit NP NJ w ck (v 1)) t) (M.foldl (iV w ck.toInt (v 1).toInt) T) := by
  intro M
  induction M generalizing n with
  | nil => intro t T _ _ h; exact h
  | cons s M ih =>
    intro t T hM hn h
    rw [List.length_cons] at hn
    have h1 := ih (n := n + 1) _ _ (fun x hx => hM x (List.mem_cons_of_mem _ hx)) (by omega) (iV_step (ck := ck) (cap := v 1) hg hj (hM s List.mem_cons_self) (by omega) h)
    rw [List.length_cons, show n + (M.length + 1) = n + 1 + M.length by omega]
    exact h1
theorem tRun_rel {v : Nat → Int32} {ck : Int32} {M : List Nat} (hg : gOk NP w) (hj : jOk NP NJ w) (hv : vOk NP v) (hM : ∀ s, s ∈ M → s < 2 * NJ) (hn : M.length ≤ 18) : iRel NP M.length (tRun NP NJ w ck v (M.map nI)) (iRun w ck.toInt v M) := by
  have h := iRun_rel (v := v) (ck := ck) hg hj M _ _ hM (by omega) (iS_rel hv hg)
  rw [Nat.zero_add] at h
  exact h
theorem iHD_rng {v : Nat → Int32} {T : Nat → Int} (hg : gOk NP w) (hv : vOk NP v) (hT : ∃ p : Nat, p < NP ∧ T 0 = p) : 0 ≤ iHD w v T ∧ iHD w v T ≤ 120 := by
  obtain ⟨⟨h, hh, e⟩, -⟩ := hv
  obtain ⟨p, hp, e0⟩ := hT
  have h12 := hg.1
  unfold iHD
  rw [e0, e, nI_toInt (by omega), Int.toNat_natCast, Int.toNat_natCast]
  exact hg.rng hp hh
/-- a whole ride: the class's numbers, and their bounds -/
theorem tRide_rel {v : Nat → Int32} {ck : Int32} {M : List Nat} (hg : gOk NP w) (hj : jOk NP NJ w) (hv : vOk NP v) (hM : ∀ s, s ∈ M → s < 2 * NJ) (hn : M.length ≤ 18) :
    ∀ k, k < 10 → (tRide NP NJ w ck v (M.map nI) k).toInt = iRide w ck.toInt v M k := by
  have hr := tRun_rel (ck := ck) hg hj hv hM hn
  obtain ⟨hk, ⟨p, hp, e0⟩, h3, h4, h5, h6, h7, h8⟩ := hr
  obtain ⟨⟨h, hh, e⟩, hv1, hv2, hv3, hv4⟩ := id hv
  have h12 := hg.1
  have hw := hg.rng hp hh
  have eD : iHD w v (iRun w ck.toInt v M) = DI w p h := by
    unfold iHD
    rw [e0, e, nI_toInt (by omega), Int.toNat_natCast, Int.toNat_natCast]
  have e1 : tRun NP NJ w ck v (M.map nI) 0 = nI p := (i_eq (hk 0 (by omega)) (nI_toInt (by omega))).mpr e0
  have ew : (wayF NP (w 2) (tRun NP NJ w ck v (M.map nI) 0) (v 0)).toInt = DI w p h := by rw [e1, e]; exact wayF_nI hg hp hh
  have bm := bMul hw.1 hw.2 (b := iRun w ck.toInt v M 4) (by omega) (by omega)
  have e3 := i_add (hk 3 (by omega)) ew (by omega)
  intro k hk9
  unfold iRide iHome tRide tHome
  rw [eD]
  rcases (by omega : k = 0 ∨ k = 1 ∨ k = 2 ∨ k = 3 ∨ k = 4 ∨ k = 5 ∨ k = 6 ∨ k = 7 ∨ k = 8 ∨ k = 9) with rfl | rfl | rfl | rfl | rfl | rfl | rfl | rfl | rfl | rfl
  · rfl
  · exact e3
  · exact hk 2 (by omega)
  · exact hk 3 (by omega)
  · exact hk 4 (by omega)
  · exact hk 5 (by omega)
  · exact hk 6 (by omega)
  · exact i_add (hk 7 (by omega)) ew (by omega)
  · exact i_add (hk 8 (by omega)) (i_mul ew (hk 4 (by omega)) (by omega)) (by omega)
  · show (if _ ≤ v 3 then tRun NP NJ w ck v (M.map nI) 9 else 0).toInt = (if iRun w ck.toInt v M 3 + DI w p h ≤ (v 3).toInt then iRun w ck.toInt v M 9 else 0)
    by_cases c : tRun NP NJ w ck v (M.map nI) 3 + wayF NP (w 2) (tRun NP NJ w ck v (M.map nI) 0) (v 0) ≤ v 3
    · rw [if_pos c, if_pos ((i_le e3 rfl).mp c)]; exact hk 9 (by omega)
    · rw [if_neg c, if_neg ((not_congr (i_le e3 rfl)).mp c)]; rfl
/-- how long a path is that goes from p over some places -/
def pLen (w : Nat → Nat → Int32) : Nat → List Nat → Int
  | _, [] => 0
  | p, q :: r => DI w p q + pLen w q r
def lenI (w : Nat → Nat → Int32) (h : Nat) (M : List Nat) : Int := pLen w h (M.map (plc w) ++ [h])
theorem pLen_app {a : List Nat} : ∀ (p : Nat) (b : List Nat), pLen w p (a ++ b) = pLen w p a + pLen w (a.getLast?.getD p) b := by
  induction a with
  | nil => intro p b; simp [pLen]
  | cons q a ih =>
    intro p b
    show DI w p q + pLen w q (a ++ b) = DI w p q + pLen w q a + _
    rw [ih, ← Int.add_assoc]
    congr 2
    cases a with
    | nil => rfl
    | cons x a => simp [List.getLast?_cons]
theorem iRun_len {ck cap : Int} : ∀ (M : List Nat) (T : Nat → Int), (M.foldl (iV w ck cap) T) 7 = T 7 + pLen w (T 0).toNat (M.map (plc w)) ∧ ((M.foldl (iV w ck cap) T) 0).toNat = ((M.map (plc w)).getLast?.getD (T 0).toNat) := by
  intro M
  induction M with
  | nil => intro T; simp [pLen]
  | cons s M ih =>
    intro T
    obtain ⟨h1, h2⟩ := ih (iV w ck cap T s)
    have e0 : (iV w ck cap T s 0).toNat = plc w s := Int.toNat_natCast _
    refine ⟨?_, ?_⟩
    · rw [List.foldl_cons, h1, e0]
      show T 7 + DI w (T 0).toNat (plc w s) + _ = T 7 + (DI w (T 0).toNat (plc w s) + _)
      rw [Int.add_assoc]
    · rw [List.foldl_cons, h2, e0]
      cases M with
      | nil => rfl
      | cons x M => simp [List.getLast?_cons]
theorem iRide_len {ck : Int} {v : Nat → Int32} {M : List Nat} {h : Nat} (hh : (v 0).toInt = (h : Int)) : iRide w ck v M 7 = lenI w h M := by
  obtain ⟨h1, h2⟩ := iRun_len (w := w) (ck := ck) (cap := (v 1).toInt) M (iS v)
  have e0 : (iS v 0).toNat = h := by show (v 0).toInt.toNat = h; rw [hh]; exact Int.toNat_natCast h
  show iRun w ck v M 7 + iHD w v (iRun w ck v M) = _
  unfold iHD
  rw [show iRun w ck v M 7 = _ from h1, show (iRun w ck v M 0).toNat = _ from h2, e0, hh, Int.toNat_natCast]
  unfold lenI
  rw [pLen_app]
  show 0 + _ + _ = _
  rw [Int.zero_add]
  simp [pLen]
/-- what a route costs -/
def costI (w : Nat → Nat → Int32) (v : Nat → Int32) (M : List Nat) : Int := if M = [] then 0 else (v 5).toInt + (v 4).toInt * lenI w (v 0).toInt.toNat M
theorem pLen_rng (hg : gOk NP w) {p : Nat} {b : List Nat} (hp : p < NP) (hb : ∀ q, q ∈ b → q < NP) : 0 ≤ pLen w p b ∧ pLen w p b ≤ 120 * b.length := by
  induction b generalizing p with
  | nil => simp [pLen]
  | cons q b ih =>
    have h1 := hg.rng hp (hb q List.mem_cons_self)
    have h2 := ih (hb q List.mem_cons_self) (fun x hx => hb x (List.mem_cons_of_mem _ hx))
    rw [List.length_cons]
    show 0 ≤ DI w p q + pLen w q b ∧ DI w p q + pLen w q b ≤ _
    omega
theorem plc_lt (hg : gOk NP w) (hj : jOk NP NJ w) {s : Nat} (hs : s < 2 * NJ) : plc w s < NP := (sOk_pl (hj.2.1 s hs) hg.1).1
theorem lenI_rng (hg : gOk NP w) (hj : jOk NP NJ w) {h : Nat} {M : List Nat} (hh : h < NP) (hM : ∀ s, s ∈ M → s < 2 * NJ) : 0 ≤ lenI w h M ∧ lenI w h M ≤ 120 * (M.length + 1) := by
  have h1 := pLen_rng hg (p := h) (b := M.map (plc w) ++ [h]) hh (fun q hq => by
    rcases List.mem_append.mp hq with h1 | h1
    · obtain ⟨s, hs, rfl⟩ := List.mem_map.mp h1
      exact plc_lt hg hj (hM s hs)
    · rw [List.mem_singleton.mp h1]; exact hh)
  rw [List.length_append, List.length_map, List.length_singleton] at h1
  unfold lenI
  omega
theorem tCost_I {v : Nat → Int32} {ck : Int32} {M : List Nat} (hg : gOk NP w) (hj : jOk NP NJ w) (hv : vOk NP v) (hM : ∀ s, s ∈ M → s < 2 * NJ) (hn : M.length ≤ 18) : (tCost NP NJ w ck v (M.map nI)).toInt = costI w v M ∧ 0 ≤ costI w v M ∧ costI w v M ≤ 21000 := by
  obtain ⟨⟨h, hh, e⟩, hv1, hv2, hv3, hv4⟩ := id hv
  have h12 := hg.1
  have e0 : (v 0).toInt = (h : Int) := by rw [e]; exact nI_toInt (by omega)
  have hr := tRide_rel (ck := ck) hg hj hv hM hn 7 (by omega)
  rw [iRide_len e0] at hr
  have hl := lenI_rng hg hj hh hM
  have b1 : 0 ≤ (v 4).toInt * lenI w h M := Int.mul_nonneg (by omega) hl.1
  have b2 : (v 4).toInt * lenI w h M ≤ 9 * lenI w h M := Int.mul_le_mul_of_nonneg_right hv3.2 hl.1
  unfold tCost costI
  rw [List.length_map, e0, Int.toNat_natCast]
  cases M with
  | nil => exact ⟨rfl, by simp, by simp⟩
  | cons s M =>
    have hne : ¬ nI (s :: M).length = 0 := fun c => by
      have := (i_eq (nI_toInt (n := (s :: M).length) (by omega)) (show (0 : Int32).toInt = (0 : Int) from rfl)).mp c
      rw [List.length_cons] at this
      omega
    rw [if_neg hne, if_neg (by simp)]
    refine ⟨i_add rfl (i_mul rfl hr (by omega)) (by omega), by omega, by omega⟩
end
