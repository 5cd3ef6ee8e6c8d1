/-! a job is told; a place is told -/
section
variable {NP NJ NV : Nat} {w vv : Nat → Nat → Int32} {ck : Int32} {N : Nat → List Nat} {R : Nat → List Int32}
theorem upd_at {f : Nat → Int32} {k j : Nat} {x : Int32} : upd f k x j = if j = k then x else f j := rfl
theorem tj_at {a b c d e : Int32} (k s : Nat) : tjF w NJ a b c d e k s =
    if k = 4 then (if s = 2 * NJ + 1 then b else if s = 2 * NJ then a else w 4 s)
    else if k = 8 then (if s = 2 * NJ + 1 then -c else if s = 2 * NJ then c else w 8 s)
    else if k = 7 then (if s = 2 * NJ + 1 then d else if s = 2 * NJ then d else w 7 s)
    else if k = 5 then (if s = 2 * NJ + 1 then 0 else if s = 2 * NJ then 0 else w 5 s)
    else if k = 6 then (if s = 2 * NJ + 1 then 1440 else if s = 2 * NJ then 1440 else w 6 s)
    else if k = 3 then (if s = NJ then e else w 3 s) else w k s := by
  by_cases h4 : k = 4
  · subst h4; rfl
  · rw [if_neg h4]
    by_cases h8 : k = 8
    · subst h8; rfl
    · rw [if_neg h8]
      by_cases h7 : k = 7
      · subst h7; rfl
      · rw [if_neg h7]
        by_cases h5 : k = 5
        · subst h5; rfl
        · rw [if_neg h5]
          by_cases h6 : k = 6
          · subst h6; rfl
          · rw [if_neg h6]
            have t : ∀ (W : Nat → Nat → Int32) (K : Nat) (x y z : Int32), tsW W K x y z k = W k := fun W K x y z => by
              show (if k = 6 then _ else if k = 5 then _ else if k = 7 then _ else if k = 8 then _ else if k = 4 then _ else W k) = W k
              rw [if_neg h6, if_neg h5, if_neg h7, if_neg h8, if_neg h4]
            show tsW (tsW (va_up w 3 (upd (w 3) NJ e)) (2 * NJ) a c d) (2 * NJ + 1) b (-c) d k s = _
            rw [t, t]
            show (if k = 3 then upd (w 3) NJ e else w k) s = _
            by_cases h3 : k = 3
            · subst h3; rfl
            · rw [if_neg h3, if_neg h3]
theorem addJob_pC (C : pC NP NJ NV w vv N R) (hNJ : NJ < 9) {p q : Nat} {c d e : Int32} (hp : p < NP) (hq : q < NP) (hc1 : 1 ≤ c.toInt ∧ c.toInt ≤ 20) (hd : 0 ≤ d.toInt ∧ d.toInt ≤ 30) (he : 0 ≤ e.toInt ∧ e.toInt ≤ 999) :
    pC NP (NJ + 1) NV (tjF w NJ (nI p) (nI q) c d e) vv N R ∧ (costF NP (NJ + 1) NV (tjF w NJ (nI p) (nI q) c d e) ck vv R).toInt = (costF NP NJ NV w ck vv R).toInt + e.toInt := by
  obtain ⟨hg, hj, hv, hN, hR, hc⟩ := id C
  have old : ∀ k s, s < 2 * NJ → k ≠ 3 → tjF w NJ (nI p) (nI q) c d e k s = w k s := fun k s hs hk => by
    rw [tj_at]
    have n1 : ¬ s = 2 * NJ + 1 := by omega
    have n2 : ¬ s = 2 * NJ := by omega
    rw [if_neg n1, if_neg n2, if_neg n1, if_neg n2, if_neg n1, if_neg n2, if_neg n1, if_neg n2, if_neg n1, if_neg n2, if_neg hk]
    by_cases h4 : k = 4
    · rw [if_pos h4, h4]
    · rw [if_neg h4]
      by_cases h8 : k = 8
      · rw [if_pos h8, h8]
      · rw [if_neg h8]
        by_cases h7 : k = 7
        · rw [if_pos h7, h7]
        · rw [if_neg h7]
          by_cases h5 : k = 5
          · rw [if_pos h5, h5]
          · rw [if_neg h5]
            by_cases h6 : k = 6
            · rw [if_pos h6, h6]
            · rw [if_neg h6]
  have n1 : ¬ 2 * NJ = 2 * NJ + 1 := by omega
  have hg' : gOk NP (tjF w NJ (nI p) (nI q) c d e) := ⟨hg.1, hg.2.1, fun a b ha hb => hg.2.2 a b ha hb⟩
  have z0 : (0 : Int32).toInt = (0 : Int) := rfl
  have z14 : (1440 : Int32).toInt = (1440 : Int) := rfl
  have hn : (-c).toInt = -c.toInt := i_neg rfl (by omega)
  have hj' : jOk NP (NJ + 1) (tjF w NJ (nI p) (nI q) c d e) := by
    refine ⟨by omega, fun s hs => ?_, fun J hJ => ?_⟩
    · by_cases c1 : s < 2 * NJ
      · unfold sOk
        rw [old 4 s c1 (by omega), old 7 s c1 (by omega), old 5 s c1 (by omega), old 6 s c1 (by omega), old 8 s c1 (by omega)]
        exact hj.2.1 s c1
      · rcases (by omega : s = 2 * NJ ∨ s = 2 * NJ + 1) with rfl | rfl
        · refine ⟨⟨p, hp, ?_⟩, ?_, ?_, ?_, ?_⟩
          · rw [tj_at, if_pos rfl, if_neg n1, if_pos rfl]
          · rw [tj_at, if_neg (by omega), if_neg (by omega), if_pos rfl, if_neg n1, if_pos rfl]; exact hd
          · rw [tj_at, if_neg (by omega), if_neg (by omega), if_neg (by omega), if_pos rfl, if_neg n1, if_pos rfl, z0]; omega
          · rw [tj_at, if_neg (by omega), if_neg (by omega), if_neg (by omega), if_neg (by omega), if_pos rfl, if_neg n1, if_pos rfl, z14]; omega
          · rw [tj_at, if_neg (by omega), if_pos rfl, if_neg n1, if_pos rfl]; omega
        · refine ⟨⟨q, hq, ?_⟩, ?_, ?_, ?_, ?_⟩
          · rw [tj_at, if_pos rfl, if_pos rfl]
          · rw [tj_at, if_neg (by omega), if_neg (by omega), if_pos rfl, if_pos rfl]; exact hd
          · rw [tj_at, if_neg (by omega), if_neg (by omega), if_neg (by omega), if_pos rfl, if_pos rfl, z0]; omega
          · rw [tj_at, if_neg (by omega), if_neg (by omega), if_neg (by omega), if_neg (by omega), if_pos rfl, if_pos rfl, z14]; omega
          · rw [tj_at, if_neg (by omega), if_pos rfl, if_pos rfl, hn]; omega
    · by_cases c1 : J < NJ
      · rw [old 8 (2 * J) (by omega) (by omega), old 8 (2 * J + 1) (by omega) (by omega)]
        have e3 : tjF w NJ (nI p) (nI q) c d e 3 J = w 3 J := by
          show upd (w 3) NJ e J = w 3 J
          exact if_neg (by omega)
        rw [e3]
        exact hj.2.2 J c1
      · have e1 : J = NJ := by omega
        subst e1
        have e3 : tjF w J (nI p) (nI q) c d e 3 J = e := by
          show upd (w 3) J e J = e
          exact if_pos rfl
        have e4 : tjF w J (nI p) (nI q) c d e 8 (2 * J) = c := by rw [tj_at, if_neg (by omega), if_pos rfl, if_neg n1, if_pos rfl]
        have e5 : tjF w J (nI p) (nI q) c d e 8 (2 * J + 1) = -c := by rw [tj_at, if_neg (by omega), if_pos rfl, if_pos rfl]
        rw [e3, e4, e5]
        exact ⟨hc1.1, hn, he.1, he.2⟩
  have hlt : ∀ n, n < NV → ∀ s, s ∈ N n → s < 2 * NJ := fun n hn s hs => (hN.2 n hn).1 s hs
  have C' : pC NP (NJ + 1) NV (tjF w NJ (nI p) (nI q) c d e) vv N R := ⟨hg', hj', hv, ⟨hN.1, fun n hn => ⟨fun s hs => by have := hlt n hn s hs; omega, (hN.2 n hn).2⟩⟩, hR, fun n hn => capOk_congr (w := w) (fun s hs => old 8 s (hlt n hn s hs) (by omega)) rfl (hc n hn)⟩
  refine ⟨C', ?_⟩
  have e1 : csI (tjF w NJ (nI p) (nI q) c d e) vv NV N = csI w vv NV N := csI_congr2 (fun n hn => costI_congr (w := w) rfl (fun s hs => old 4 s (hlt n hn s hs) (by omega)))
  have e2 : opI (tjF w NJ (nI p) (nI q) c d e) (cn NV N) (NJ + 1) = opI w (cn NV N) NJ + e.toInt := by
    show opI (tjF w NJ (nI p) (nI q) c d e) (cn NV N) NJ + (if cn NV N (2 * NJ) = 0 then (tjF w NJ (nI p) (nI q) c d e 3 NJ).toInt else 0) = _
    have e3 : tjF w NJ (nI p) (nI q) c d e 3 NJ = e := by
      show upd (w 3) NJ e NJ = e
      exact if_pos rfl
    rw [e3, if_pos (cn_zero.mpr (fun n hn h => by have := hlt n hn _ h; omega)), opI_congr2 (w := w) (d := cn NV N) (fun J hJ => ⟨rfl, by
      show upd (w 3) NJ e J = w 3 J
      exact if_neg (by omega)⟩)]
  rw [cost_I C', cost_I C, e1, e2]
  omega
theorem tp_at {xs ys : Nat → Int32} {n : Nat} {jx jy : Int32} (hn : n < 12) {a b : Nat} (ha : a < 12) (hb : b < 12) : ∀ (k i : Nat) (W : Nat → Int32), i + k ≤ n + 1 → ((List.range' i k).foldl (tpStep xs ys n jx jy) W) (a * 12 + b) =
    if b = n ∧ i ≤ a ∧ a < i + k then ab (xs a - jx) + ab (ys a - jy) else if a = n ∧ i ≤ b ∧ b < i + k then ab (xs b - jx) + ab (ys b - jy) else W (a * 12 + b) := by
  intro k
  induction k with
  | zero => intro i W _; rw [if_neg (by omega), if_neg (by omega)]; rfl
  | succ k ih =>
    intro i W hk
    rw [List.range'_succ, List.foldl_cons, ih (i + 1) _ (by omega)]
    have e : tpStep xs ys n jx jy W i (a * 12 + b) = if a * 12 + b = n * 12 + i then ab (xs i - jx) + ab (ys i - jy) else if a * 12 + b = i * 12 + n then ab (xs i - jx) + ab (ys i - jy) else W (a * 12 + b) := rfl
    rw [e]
    by_cases c1 : b = n ∧ i + 1 ≤ a ∧ a < i + 1 + k
    · rw [if_pos c1, if_pos (by omega)]
    · rw [if_neg c1]
      by_cases c2 : a = n ∧ i + 1 ≤ b ∧ b < i + 1 + k
      · rw [if_pos c2]
        by_cases c3 : b = n ∧ i ≤ a ∧ a < i + (k + 1)
        · rw [if_pos c3, c2.1, c3.1]
        · rw [if_neg c3, if_pos (by omega)]
      · rw [if_neg c2]
        by_cases c3 : a * 12 + b = n * 12 + i
        · rw [if_pos c3]
          have h1 : a = n := by omega
          have h2 : b = i := by omega
          by_cases c4 : b = n ∧ i ≤ a ∧ a < i + (k + 1)
          · rw [if_pos c4, ← h2, c4.1, h1]
          · rw [if_neg c4, if_pos (by omega), h2]
        · rw [if_neg c3]
          by_cases c4 : a * 12 + b = i * 12 + n
          · rw [if_pos c4]
            have h1 : a = i := by omega
            have h2 : b = n := by omega
            rw [if_pos (by omega), h1]
          · rw [if_neg c4, if_neg (by omega), if_neg (by omega)]
theorem addPlace_pC (C : pC NP NJ NV w vv N R) (hNP : NP < 12) {jx jy : Int32} (hx : 0 ≤ jx.toInt ∧ jx.toInt ≤ 60) (hy : 0 ≤ jy.toInt ∧ jy.toInt ≤ 60) : pC (NP + 1) NJ NV (tpF w NP jx jy) vv N R := by
  obtain ⟨hg, hj, hv, hN, hR, hc⟩ := id C
  have e0 : ∀ p, tpF w NP jx jy 0 p = if p = NP then jx else w 0 p := fun _ => rfl
  have e1 : ∀ p, tpF w NP jx jy 1 p = if p = NP then jy else w 1 p := fun _ => rfl
  have hxy : ∀ p, p < NP + 1 → (0 ≤ (tpF w NP jx jy 0 p).toInt ∧ (tpF w NP jx jy 0 p).toInt ≤ 60) ∧ (0 ≤ (tpF w NP jx jy 1 p).toInt ∧ (tpF w NP jx jy 1 p).toInt ≤ 60) := fun p hp => by
    rw [e0, e1]
    by_cases c : p = NP
    · rw [if_pos c, if_pos c]; exact ⟨hx, hy⟩
    · rw [if_neg c, if_neg c]
      have := hg.2.1 p (by omega)
      exact ⟨⟨this.1, this.2.1⟩, this.2.2⟩
  have e2 : ∀ a b, a < 12 → b < 12 → tpF w NP jx jy 2 (a * 12 + b) = if b = NP ∧ 0 ≤ a ∧ a < 0 + (NP + 1 - 0) then ab (upd (w 0) NP jx a - jx) + ab (upd (w 1) NP jy a - jy) else if a = NP ∧ 0 ≤ b ∧ b < 0 + (NP + 1 - 0) then ab (upd (w 0) NP jx b - jx) + ab (upd (w 1) NP jy b - jy) else w 2 (a * 12 + b) := fun a b ha hb => tp_at (by omega) ha hb (NP + 1 - 0) 0 (w 2) (by omega)
  have F : ∀ a, a < NP + 1 → (ab (upd (w 0) NP jx a - jx) + ab (upd (w 1) NP jy a - jy)).toInt = (max ((tpF w NP jx jy 0 a).toInt - jx.toInt) (jx.toInt - (tpF w NP jx jy 0 a).toInt)) + (max ((tpF w NP jx jy 1 a).toInt - jy.toInt) (jy.toInt - (tpF w NP jx jy 1 a).toInt)) := fun a ha => by
    have h1 := hxy a ha
    have a1 : (upd (w 0) NP jx a).toInt = (tpF w NP jx jy 0 a).toInt := rfl
    have a2 : (upd (w 1) NP jy a).toInt = (tpF w NP jx jy 1 a).toInt := rfl
    have b1 := i_ab (i_sub a1 (rfl : jx.toInt = jx.toInt) (by omega)) (by omega)
    have b2 := i_ab (i_sub a2 (rfl : jy.toInt = jy.toInt) (by omega)) (by omega)
    rw [i_add b1 b2 (by omega)]
    omega
  have hg' : gOk (NP + 1) (tpF w NP jx jy) := by
    refine ⟨by omega, fun p hp => ⟨(hxy p hp).1.1, (hxy p hp).1.2, (hxy p hp).2.1, (hxy p hp).2.2⟩, fun a b ha hb => ?_⟩
    unfold DI
    rw [e2 a b (by omega) (by omega)]
    by_cases c1 : b = NP
    · rw [if_pos (by omega), F a ha]
      rw [e0 b, e1 b, if_pos c1, if_pos c1]
    · rw [if_neg (by omega)]
      by_cases c2 : a = NP
      · rw [if_pos (by omega), F b hb]
        rw [e0 a, e1 a, if_pos c2, if_pos c2]
        omega
      · rw [if_neg (by omega), e0, e0, e1, e1, if_neg c1, if_neg c2, if_neg c1, if_neg c2]
        exact hg.2.2 a b (by omega) (by omega)
  refine ⟨hg', ⟨hj.1, fun s hs => ?_, hj.2.2⟩, ⟨hv.1, fun n hn => ?_⟩, hN, hR, fun n hn => capOk_congr (w := w) (fun s _ => rfl) rfl (hc n hn)⟩
  · obtain ⟨⟨p, hp, e⟩, h⟩ := hj.2.1 s hs
    exact ⟨⟨p, by omega, e⟩, h⟩
  · obtain ⟨⟨p, hp, e⟩, h⟩ := hv.2 n hn
    exact ⟨⟨p, by omega, e⟩, h⟩
end
