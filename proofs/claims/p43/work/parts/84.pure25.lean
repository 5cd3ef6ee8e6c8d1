/-! what the law keeps, road by road -/
section
variable {NP NJ NV : Nat} {w vv : Nat → Nat → Int32} {ck : Int32} {R R' : Nat → List Int32} {S : Nat → Nat}
def IV (NP NJ NV : Nat) (w vv : Nat → Nat → Int32) (R : Nat → List Int32) : Prop := (∃ N, pC NP NJ NV w vv N R) ∧ (∀ n, NV ≤ n → R n = []) ∧ sB vv
theorem place_K {x : Int32} (hN : NP ≤ 12) (h : isPlaceB NP x = true) : ∃ p, p < NP ∧ x = nI p := by
  unfold isPlaceB at h
  rw [Bool.and_eq_true, Bool.not_eq_true', Bool.not_eq_true', decide_eq_false_iff_not, decide_eq_false_iff_not] at h
  obtain ⟨h1, h2⟩ := h
  rw [Int32.lt_iff_toInt_lt] at h1
  rw [Int32.le_iff_toInt_le, nI_toInt (by omega)] at h2
  have h0 : (0 : Int32).toInt = 0 := rfl
  rw [h0] at h1
  exact ⟨x.toInt.toNat, by omega, toI_nI (by omega) (by omega)⟩
theorem or2 {a b : Bool} (h : (a || b) = false) : a = false ∧ b = false := by cases a <;> cases b <;> simp_all
theorem IV.bd (I : IV NP NJ NV w vv R) : NP ≤ 12 ∧ NJ ≤ 9 ∧ NV ≤ 3 := by
  obtain ⟨⟨N, C⟩, -, -⟩ := I
  exact ⟨C.1.1, C.2.1.1, C.2.2.1.1⟩
theorem iv_rows (I : IV NP NJ NV w vv R) (h : (∃ N', pC NP NJ NV w vv N' R') ∧ ∀ n, NV ≤ n → R' n = R n) : IV NP NJ NV w vv R' := ⟨h.1, fun n hn => (h.2 n hn).trans (I.2.1 n hn), I.2.2⟩
theorem iv_7 (I : IV NP NJ NV w vv R) {vv' : Nat → Nat → Int32} (h : ∀ n k, k ≠ 7 → vv' n k = vv n k) : IV NP NJ NV w vv' R := by
  obtain ⟨⟨N, C⟩, h1, h2⟩ := I
  exact ⟨⟨N, pC_7 C h⟩, h1, sB_6 (fun n => h n 6 (by decide)) h2⟩
theorem iv_cost7 (I : IV NP NJ NV w vv R) {vv' : Nat → Nat → Int32} (h : ∀ n k, k ≠ 7 → vv' n k = vv n k) : costF NP NJ NV w ck vv' R = costF NP NJ NV w ck vv R := by
  obtain ⟨⟨N, C⟩, -, -⟩ := I
  exact cost_7 C h
theorem iv_place (I : IV NP NJ NV w vv R) (hNP : NP < 12) {x y : Int32} (h : (outF x 0 60 || outF y 0 60) = false) : IV (NP + 1) NJ NV (tpF w NP x y) vv R := by
  obtain ⟨⟨N, C⟩, h1, h2⟩ := I
  obtain ⟨a, b⟩ := or2 h
  have a1 := outF_I (a := 0) (b := 60) (by decide) (by decide) a
  have b1 := outF_I (a := 0) (b := 60) (by decide) (by decide) b
  exact ⟨⟨N, addPlace_pC C hNP (by omega) (by omega)⟩, h1, h2⟩
theorem iv_vehicle (I : IV NP NJ NV w vv R) (hNV : NV < 3) {ja jb jc jd je jf : Int32} (hp : isPlaceB NP ja = true) (h : (outF jb 1 50 || (outF jc 0 1440 || outF jd jc 1440) || (outF je 1 9 || outF jf 0 200)) = false) :
    IV NP NJ (NV + 1) w (va_up vv NV (avF (vv NV) ja jb jc jd je jf)) R ∧ costF NP NJ (NV + 1) w ck (va_up vv NV (avF (vv NV) ja jb jc jd je jf)) R = costF NP NJ NV w ck vv R := by
  have hb := I.bd
  obtain ⟨⟨N, C⟩, h1, h2⟩ := I
  obtain ⟨p, hp1, hp2⟩ := place_K hb.1 hp
  obtain ⟨e1, e2⟩ := or2 h
  obtain ⟨e3, e4⟩ := or2 e1
  obtain ⟨e5, e6⟩ := or2 e4
  obtain ⟨e7, e8⟩ := or2 e2
  have a1 := outF_I (a := 1) (b := 50) (by decide) (by decide) e3
  have a2 := outF_I (a := 0) (b := 1440) (by decide) (by decide) e5
  have a4 := outF_I (a := 1) (b := 9) (by decide) (by decide) e7
  have a5 := outF_I (a := 0) (b := 200) (by decide) (by decide) e8
  have ec : jc = nI jc.toInt.toNat := toI_nI (by omega) (by omega)
  have a3 : jc.toInt ≤ jd.toInt ∧ jd.toInt ≤ 1440 := by
    rw [ec] at e6
    have := outF_I (a := jc.toInt.toNat) (b := 1440) (by omega) (by decide) e6
    omega
  have hv : vOk NP (avF (vv NV) ja jb jc jd je jf) := ⟨⟨p, hp1, hp2⟩, ⟨by show 1 ≤ jb.toInt; omega, by show jb.toInt ≤ 50; omega⟩, ⟨by show 0 ≤ jc.toInt; omega, a3.1, a3.2⟩, ⟨by show 1 ≤ je.toInt; omega, by show je.toInt ≤ 9; omega⟩, ⟨by show 0 ≤ jf.toInt; omega, by show jf.toInt ≤ 200; omega⟩⟩
  obtain ⟨c1, c2⟩ := addVehicle_pC (ck := ck) C hNV (h1 NV (Nat.le_refl _)) hv
  refine ⟨⟨⟨_, c1⟩, fun n hn => h1 n (by omega), sB_6 (fun n => ?_) h2⟩, c2⟩
  unfold va_up
  by_cases c : n = NV
  · rw [if_pos c, c]; rfl
  · rw [if_neg c]
theorem iv_job (I : IV NP NJ NV w vv R) (hNJ : NJ < 9) {ja jb jc jd je : Int32} (hp : (isPlaceB NP ja && isPlaceB NP jb) = true) (h : (outF jc 1 20 || outF jd 0 30 || outF je 0 999) = false) :
    IV NP (NJ + 1) NV (tjF w NJ ja jb jc jd je) vv R ∧ costF NP (NJ + 1) NV (tjF w NJ ja jb jc jd je) ck vv R = costF NP NJ NV w ck vv R + je := by
  have hb := I.bd
  obtain ⟨⟨N, C⟩, h1, h2⟩ := I
  rw [Bool.and_eq_true] at hp
  obtain ⟨p, hp1, rfl⟩ := place_K hb.1 hp.1
  obtain ⟨q, hq1, rfl⟩ := place_K hb.1 hp.2
  obtain ⟨e1, e2⟩ := or2 h
  obtain ⟨e3, e4⟩ := or2 e1
  have a1 := outF_I (a := 1) (b := 20) (by decide) (by decide) e3
  have a2 := outF_I (a := 0) (b := 30) (by decide) (by decide) e4
  have a3 := outF_I (a := 0) (b := 999) (by decide) (by decide) e2
  obtain ⟨c1, c2⟩ := addJob_pC (ck := ck) C hNJ hp1 hq1 (c := jc) (d := jd) (e := je) (by omega) (by omega) (by omega)
  refine ⟨⟨⟨_, c1⟩, h1, h2⟩, (i_eq c2 (i_add rfl rfl ?_)).mpr rfl⟩
  have b1 := cost_I (ck := ck) C
  have b2 := csI_rng C (m := NV) (Nat.le_refl _)
  have b3 := opI_rng C.2.1 (c := cn NV N) (m := NJ) (Nat.le_refl _)
  omega
theorem iv_hours (I : IV NP NJ NV w vv R) {x fz y z : Int32} (hx : inB NJ x = true) (h : (outF y 0 1440 || outF z y 1440) = false) : IV NP NJ NV (shF w x fz y z) vv R ∧ costF NP NJ NV (shF w x fz y z) ck vv R = costF NP NJ NV w ck vv R := by
  have hb := I.bd
  obtain ⟨⟨N, C⟩, h1, h2⟩ := I
  obtain ⟨J, hJ, e⟩ := inB_K hb.2.1 hx
  obtain ⟨e1, e2⟩ := or2 h
  have a1 := outF_I (a := 0) (b := 1440) (by decide) (by decide) e1
  have ey : y = nI y.toInt.toNat := toI_nI (by omega) (by omega)
  have a2 : 0 ≤ z.toInt ∧ z.toInt ≤ 1440 := by
    rw [ey] at e2
    have := outF_I (a := y.toInt.toNat) (b := 1440) (by omega) (by decide) e2
    omega
  obtain ⟨c1, c2⟩ := setHours_pC (ck := ck) (fz := fz) (y := y) (z := z) C e hJ (by omega) a2
  exact ⟨⟨⟨N, c1⟩, h1, h2⟩, c2⟩
theorem iv_insert (I : IV NP NJ NV w vv R) {x a b : Int32} (hx : inB NJ x = true) (hc : carrF NV R x = -1) : IV NP NJ NV w vv (putR NV R (saBest x (saFrom NP NJ NV w ck vv R x S 0 (1000000, 1000000, -1, -1, a, b)))) := by
  have hb := I.bd
  obtain ⟨⟨N, C⟩, h1, h2⟩ := id I
  obtain ⟨J, hJ, rfl⟩ := inB_K hb.2.1 hx
  obtain ⟨N', c1, c2⟩ := putR_good C hJ (open_of_carr C (by omega) hc) (sa_spec (NP := NP) (NJ := NJ) (NV := NV) (w := w) (vv := vv) (ck := ck) (R := R) (j := nI J) (S := S) (q := (1000000, 1000000, -1, -1, a, b)) (Or.inl rfl))
  exact iv_rows I ⟨⟨N', c1⟩, c2⟩
theorem iv_insertAt (I : IV NP NJ NV w vv R) {x y : Int32} {a b : Nat} (ha : a < 100) (hb9 : b < 100) (hx : (inB NJ x && inB NV y) = true) (hi : iaB (R y.toNatClampNeg).length (nI a) (nI b) = true) (hc : carrF NV R x = -1) :
    IV NP NJ NV w vv (iaF NP NJ w ck vv R x y.toNatClampNeg (nI a).toNatClampNeg ((nI b).toNatClampNeg - 1)).2 := by
  have hb := I.bd
  obtain ⟨⟨N, C⟩, h1, h2⟩ := id I
  rw [Bool.and_eq_true] at hx
  obtain ⟨J, hJ, rfl⟩ := inB_K hb.2.1 hx.1
  obtain ⟨K, hK, rfl⟩ := inB_K (by omega) hx.2
  have eK : (nI K).toNatClampNeg = K := nI_clamp (by omega)
  rw [eK] at hi ⊢
  rw [nI_clamp (by omega), nI_clamp (by omega)]
  have hl : (R K).length ≤ 18 := by rw [C.2.2.2.2.1 K hK, List.length_map]; exact C.len hK
  unfold iaB at hi
  rw [Bool.and_eq_true, Bool.and_eq_true, Bool.not_eq_true', Bool.not_eq_true', decide_eq_false_iff_not, decide_eq_false_iff_not, decide_eq_true_eq] at hi
  obtain ⟨⟨i1, i2⟩, i3⟩ := hi
  have z1 : (1 : Int32).toInt = (1 : Int) := rfl
  have j2 := (not_congr (i_le (nI_toInt (n := b) (by omega)) (nI_toInt (n := a) (by omega)))).mp i2
  have j3 := (i_le (nI_toInt (n := b) (by omega)) (i_add (nI_toInt (n := (R K).length) (by omega)) z1 (by omega))).mp i3
  exact iv_rows I (ia_good C hJ hK hc (by omega) (by omega))
theorem iv_take (I : IV NP NJ NV w vv R) {x : Int32} (hx : inB NJ x = true) : IV NP NJ NV w vv (tkFrom NV x 0 R) := by
  have hb := I.bd
  obtain ⟨⟨N, C⟩, h1, h2⟩ := id I
  obtain ⟨J, hJ, rfl⟩ := inB_K hb.2.1 hx
  have h := tk_good C (J := J) (by omega)
  exact iv_rows I ⟨⟨_, h.1⟩, h.2⟩
theorem iv_rebuild (I : IV NP NJ NV w vv R) (m : Nat) : IV NP NJ NV w vv (rbF NP NJ NV w ck vv S m R).2 := by
  obtain ⟨⟨N, C⟩, h1, h2⟩ := id I
  exact iv_rows I (rb_good m C)
theorem iv_ruin (I : IV NP NJ NV w vv R) (m c : Nat) : IV NP NJ NV w vv (ruF NP NJ NV w ck vv m c R).2 := by
  obtain ⟨⟨N, C⟩, h1, h2⟩ := id I
  exact iv_rows I (ru_good m c C)
theorem iv_repair (I : IV NP NJ NV w vv R) {K : Nat} (hK : K < NV) : IV NP NJ NV w vv (rpF NP NJ NV w ck vv K 9 0 R).2 ∧ (vv K 6 = nI 0 → ¬ tRide NP NJ w ck (vv K) ((rpF NP NJ NV w ck vv K 9 0 R).2 K) 9 = 0) := by
  obtain ⟨⟨N, C⟩, h1, h2⟩ := id I
  obtain ⟨c1, c2, c3⟩ := rp_good (ck := ck) (K := K) 9 0 hK C
  exact ⟨iv_rows I ⟨c1, c2⟩, c3 (C.len hK)⟩
theorem iv_improve (I : IV NP NJ NV w vv R) {Y : Nat → List Int32} (m : Nat) :
    IV NP NJ NV w (imF NP NJ NV w ck S m 0 vv Y R).2.1 (imF NP NJ NV w ck S m 0 vv Y R).2.2 ∧ ¬ (imF NP NJ NV w ck S m 0 vv Y R).1 < 0 ∧ costF NP NJ NV w ck (imF NP NJ NV w ck S m 0 vv Y R).2.1 (imF NP NJ NV w ck S m 0 vv Y R).2.2 = costF NP NJ NV w ck vv R - (imF NP NJ NV w ck S m 0 vv Y R).1 := by
  have hb := I.bd
  obtain ⟨⟨N, C⟩, h1, h2⟩ := I
  have z0 : (0 : Int32).toInt = (0 : Int) := rfl
  have b1 := cost_I (ck := ck) C
  have b2 := csI_rng C (m := NV) (Nat.le_refl _)
  have b3 := opI_rng C.2.1 (c := cn NV N) (m := NJ) (Nat.le_refl _)
  obtain ⟨⟨N', C'⟩, c2, c3, c4, c5⟩ := im_good (S := S) (ck := ck) m 0 (Y := Y) C (by omega) (by omega)
  have b4 := cost_I (ck := ck) C'
  have b5 := csI_rng C' (m := NV) (Nat.le_refl _)
  have b6 := opI_rng C'.2.1 (c := cn NV N') (m := NJ) (Nat.le_refl _)
  refine ⟨⟨⟨N', C'⟩, fun n hn => (c2 n hn).trans (h1 n hn), sB_6 (fun n => c3 n 6 (by decide)) h2⟩, ?_, ?_⟩
  · rw [i_lt rfl z0]; omega
  · refine (i_eq c5 (i_sub rfl rfl (by omega))).mpr ?_
    omega
theorem iv_change (I : IV NP NJ NV w vv R) {Y : Nat → List Int32} {kd : Nat} :
    IV NP NJ NV w (ssFrom NP NJ NV w ck R 0 (vv, Y)).1 (mbFrom NV (skF NP NJ NV w ck (ssFrom NP NJ NV w ck R 0 (vv, Y)).1 R S kd (0, (ssFrom NP NJ NV w ck R 0 (vv, Y)).2)).2 0 R) ∧
      costF NP NJ NV w ck (ssFrom NP NJ NV w ck R 0 (vv, Y)).1 (mbFrom NV (skF NP NJ NV w ck (ssFrom NP NJ NV w ck R 0 (vv, Y)).1 R S kd (0, (ssFrom NP NJ NV w ck R 0 (vv, Y)).2)).2 0 R) = costF NP NJ NV w ck vv R - gF NP NJ NV w ck vv R S kd := by
  obtain ⟨⟨N, C⟩, h1, h2⟩ := I
  obtain ⟨N', c1, c2⟩ := change_good (ck := ck) C (S := S) (Y := Y) (kd := kd)
  rw [gain_any] at c2
  refine ⟨⟨⟨N', c1⟩, fun n hn => ?_, sB_6 (fun n => ss_6 (by decide)) h2⟩, c2⟩
  rw [mb_at, if_neg (by omega)]
  exact h1 n hn
theorem iv_adv (I : IV NP NJ NV w vv R) : IV NP NJ NV w (adFrom NP NJ NV w ck R 0 (0, vv)).2 R := by
  obtain ⟨⟨N, C⟩, h1, h2⟩ := I
  exact ⟨⟨N, advance_pC C⟩, h1, sB_adv C h2⟩
theorem iv_0 {w vv : Nat → Nat → Int32} (hv : ∀ n, vv n 6 = 0) : IV 0 0 0 w vv (fun _ => []) := by
  refine ⟨⟨fun _ => [], ⟨⟨by decide, fun p h => absurd h (by omega), ?_⟩, ⟨by decide, fun s h => absurd h (by omega), fun J h => absurd h (by omega)⟩, ⟨by decide, fun n h => absurd h (by omega)⟩, ⟨fun s => Nat.zero_le _, fun n h => absurd h (by omega)⟩, fun n h => absurd h (by omega), fun n h => absurd h (by omega)⟩⟩, fun n _ => rfl, ⟨fun _ => 0, fun n => hv n, fun _ => Nat.zero_le 18⟩⟩
  intro p q h
  exact absurd h (by omega)
/-- the set stops as the class's numbers say them -/
def sS (vv : Nat → Nat → Int32) : Nat → Nat := fun n => (vv n 6).toNatClampNeg
theorem sS_6 {vv : Nat → Nat → Int32} (h : sB vv) (n : Nat) : vv n 6 = nI (sS vv n) := by
  obtain ⟨S, h1, h2⟩ := h
  have h3 := h2 n
  unfold sS
  rw [h1 n, nI_clamp (n := S n) (by omega)]
theorem sS_18 {vv : Nat → Nat → Int32} (h : sB vv) (n : Nat) : sS vv n ≤ 18 := by
  obtain ⟨S, h1, h2⟩ := h
  have h3 := h2 n
  unfold sS
  rw [h1 n, nI_clamp (n := S n) (by omega)]
  exact h3
theorem sS_7 {vv vv' : Nat → Nat → Int32} (h : ∀ n, vv' n 6 = vv n 6) : sS vv' = sS vv := by
  funext n
  unfold sS
  rw [h n]
end
