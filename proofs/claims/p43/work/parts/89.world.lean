/-- all cells of the system, in one order -/
def WD (cI cV : ClassId) (P F G T za zb : Nat) (fa ia vd ra rb xa ya xb yb : Nat → Nat) (w : Nat → Nat → Int32) (NP NJ NV : Nat) (ck bg : Int32) (vv : Nat → Nat → Int32) (R : Nat → List Int32) (rf : Nat → Nat → Int32) (X : Nat → List Int32) (xf : Nat → Nat → Int32) (Y : Nat → List Int32) (yf : Nat → Nat → Int32) (Z : List Int32) (zf : Nat → Int32) (t fd bo co : Nat → Int32) : va_W := [(P, .inr (5, [.ref F, .ref G, .ref T, .ref za, .ref (ia 0), .ref (ia 1), .ref (ia 2), .int (nI NV), .int bg])), (G, .inl (cV, 3, .inr (.inr (.inr (.inr (fun k => some (vd k))))))), (vd 0, .inr (4, [.int (vv 0 0), .int (vv 0 1), .int (vv 0 2), .int (vv 0 3), .int (vv 0 4), .int (vv 0 5), .int (vv 0 6), .int (vv 0 7), .ref (ra 0), .ref (xa 0), .ref (ya 0)])), (vd 1, .inr (4, [.int (vv 1 0), .int (vv 1 1), .int (vv 1 2), .int (vv 1 3), .int (vv 1 4), .int (vv 1 5), .int (vv 1 6), .int (vv 1 7), .ref (ra 1), .ref (xa 1), .ref (ya 1)])), (vd 2, .inr (4, [.int (vv 2 0), .int (vv 2 1), .int (vv 2 2), .int (vv 2 3), .int (vv 2 4), .int (vv 2 5), .int (vv 2 6), .int (vv 2 7), .ref (ra 2), .ref (xa 2), .ref (ya 2)])), (ra 0, .inr (2, [.ref (rb 0), .int (nI (R 0).length)])), (rb 0, .inl (cI, 18, .inl (rf 0))), (ra 1, .inr (2, [.ref (rb 1), .int (nI (R 1).length)])), (rb 1, .inl (cI, 18, .inl (rf 1))), (ra 2, .inr (2, [.ref (rb 2), .int (nI (R 2).length)])), (rb 2, .inl (cI, 18, .inl (rf 2))), (xa 0, .inr (2, [.ref (xb 0), .int (nI (X 0).length)])), (xb 0, .inl (cI, 18, .inl (xf 0))), (xa 1, .inr (2, [.ref (xb 1), .int (nI (X 1).length)])), (xb 1, .inl (cI, 18, .inl (xf 1))), (xa 2, .inr (2, [.ref (xb 2), .int (nI (X 2).length)])), (xb 2, .inl (cI, 18, .inl (xf 2))), (ya 0, .inr (2, [.ref (yb 0), .int (nI (Y 0).length)])), (yb 0, .inl (cI, 18, .inl (yf 0))), (ya 1, .inr (2, [.ref (yb 1), .int (nI (Y 1).length)])), (yb 1, .inl (cI, 18, .inl (yf 1))), (ya 2, .inr (2, [.ref (yb 2), .int (nI (Y 2).length)])), (yb 2, .inl (cI, 18, .inl (yf 2))), (za, .inr (2, [.ref zb, .int (nI Z.length)])), (zb, .inl (cI, 18, .inl zf)), (ia 0, .inr (1, [.int (fd 0), .int (fd 1), .int (fd 2), .int (fd 3), .int (fd 4), .int (fd 5)])), (ia 1, .inr (1, [.int (bo 0), .int (bo 1), .int (bo 2), .int (bo 3), .int (bo 4), .int (bo 5)])), (ia 2, .inr (1, [.int (co 0), .int (co 1), .int (co 2), .int (co 3), .int (co 4), .int (co 5)])), (T, .inr (3, [.int (t 0), .int (t 1), .int (t 2), .int (t 3), .int (t 4), .int (t 5), .int (t 6), .int (t 7), .int (t 8), .int (t 9)])), (F, .inr (0, [.ref (fa 0), .ref (fa 1), .ref (fa 2), .ref (fa 3), .ref (fa 4), .ref (fa 5), .ref (fa 6), .ref (fa 7), .ref (fa 8), .int (nI NP), .int (nI NJ), .int ck])), (fa 0, .inl (cI, 12, .inl (w 0))), (fa 1, .inl (cI, 12, .inl (w 1))), (fa 2, .inl (cI, 144, .inl (w 2))), (fa 3, .inl (cI, 9, .inl (w 3))), (fa 4, .inl (cI, 18, .inl (w 4))), (fa 5, .inl (cI, 18, .inl (w 5))), (fa 6, .inl (cI, 18, .inl (w 6))), (fa 7, .inl (cI, 18, .inl (w 7))), (fa 8, .inl (cI, 18, .inl (w 8)))]
/-- the cells hold this plan -/
def WOK (cI cV : ClassId) (P F G T za zb : Nat) (fa ia vd ra rb xa ya xb yb : Nat → Nat) (w : Nat → Nat → Int32) (NP NJ NV : Nat) (ck : Int32) (vv : Nat → Nat → Int32) (R : Nat → List Int32) (ws : va_W) : Prop :=
  ∃ (bg : Int32) (rf : Nat → Nat → Int32) (X : Nat → List Int32) (xf : Nat → Nat → Int32) (Y : Nat → List Int32) (yf : Nat → Nat → Int32) (Z : List Int32) (zf t fd bo co : Nat → Int32), (∀ k, rw_ok (R k) (rf k)) ∧ (∀ k, rw_ok (X k) (xf k)) ∧ (∀ k, rw_ok (Y k) (yf k)) ∧ rw_ok Z zf ∧ ws = WD cI cV P F G T za zb fa ia vd ra rb xa ya xb yb w NP NJ NV ck bg vv R rf X xf Y yf Z zf t fd bo co
/-- the machine holds this plan -/
def GS (dC : Nat → ClassId) (dI : Nat → Nat → Nat) (cI cV : ClassId) (P F G T za zb : Nat) (fa ia vd ra rb xa ya xb yb : Nat → Nat) (A : Nat → Prop) (s : State) (ex : va_W) (w : Nat → Nat → Int32) (NP NJ NV : Nat) (ck : Int32) (vv : Nat → Nat → Int32) (R : Nat → List Int32) (H : Heap) (locs : List Loc) : Prop :=
  va_S A s.heap H locs ∧ ∃ ws, WOK cI cV P F G T za zb fa ia vd ra rb xa ya xb yb w NP NJ NV ck vv R ws ∧ va_P (dC, dI) cls (ws ++ ex) H ∧ va_D A (ws ++ ex)
/-- what stands for the whole of a method of the law -/
def LF (dC : Nat → ClassId) (dI : Nat → Nat → Nat) (cI cV : ClassId) (A : Nat → Prop) (s : State) : Prop := va_K (dC, dI) cls (TY cI cV) s ∧ NW s ∧ XW s ∧ ZX A s s.heap ∧ ∀ q : Nat, s.heap.size ≤ q → A q
def EX (E : String) : Prop := E = "java/lang/IndexOutOfBoundsException" ∨ E = "java/lang/IllegalArgumentException" ∨ E = "java/lang/IllegalStateException"
theorem rp_le {NP NJ NV : Nat} {w : Nat → Nat → Int32} {ck : Int32} {vv : Nat → Nat → Int32} {K : Nat} : ∀ (m c : Nat) (R : Nat → List Int32), (rpF NP NJ NV w ck vv K m c R).1 ≤ c + m := by
  intro m
  induction m with
  | zero => intro c R; exact Nat.le_refl _
  | succ m ih =>
    intro c R
    unfold rpF
    by_cases c1 : tRideR NP NJ w ck (vv K) (R K) 9 = 0
    · rw [if_pos c1]
      by_cases c2 : jrF NP NJ w ck (vv K) (R K) = -1
      · rw [if_pos c2]; exact Nat.le_add_right c (m + 1)
      · rw [if_neg c2]; have := ih (c + 1) (tkFrom NV (jrF NP NJ w ck (vv K) (R K)) 0 R); omega
    · rw [if_neg c1]; exact Nat.le_add_right c (m + 1)
theorem nI_ge0 {n : Nat} (h : n < 2147483648) : ¬ nI n < 0 := by
  have z0 : (0 : Int32).toInt = (0 : Int) := rfl
  rw [i_lt (nI_toInt h) z0]
  omega
/-! a call of a method that writes and answers a double -/
section DCalls
variable {p : Program} {l : Launch} {e : Env} {R : Room} {s : State} {m : MethodId} {args : Array Value} {below : List Frame} {meth : Method} {c : Code} {H H0 : Heap} {locs : List Loc} {cells slots : Nat} {Q : State → Prop}
variable {y : MethodName} {bytes cc : ByteArray} {maxL nL n index : Nat} {ret : Option FieldType} {rm : Room} {c0 : Cond} {own C host : String} {b : Addr} {As rest st0 : List Value} {pc : Nat} {ls : Array Slot} {D : va_G} {tys tc : List (ClassId × FieldType)} {A0 : Nat → Prop} {mc ms : Nat}
theorem k_Vd {U9 : Type} {post : UInt64 → U9 → Prop} {ws wc wr : va_W} {w1 : U9 → va_W} {ci q0 : Nat} {qq : vw_C} {fs : List Value} (As : List Value) (isC isR : List Nat) (S : CallFix p m c cc nL s args (c0 :: TB) own)
    (hM : ∀ sz : Nat, Met l y (Cond.code y bytes maxL ret :: TB) rm (PW (.ref b :: As) D wc tc sz) (va_Qd post (QB D w1 tc (va_A wc sz)) (va_A wc sz)) 0 0 (va_A wc sz))
    (h1 : Cond.methodLink own index y ∈ TB) (h2 : Cond.instanceMethod y ∈ TB) (h3 : Cond.selects C y y ∈ TB) (h4 : Cond.initialized C ∈ TB) (h5 : Cond.code y bytes maxL ret ∈ TB)
    (hd : y.cls = C ∧ y.cls ≠ "java/lang/invoke/MethodHandle" ∧ y.cls ≠ "java/lang/invoke/VarHandle" ∧ (parseMethodDescriptor y.desc).map (fun d => d.parameters.length) = some n) (hn : As.length = n)
    (hrm : rm.cells = 0 ∧ rm.slots = 0) (hR : rm.frames + 1 ≤ R.frames ∧ 8 + (maxL + 11) + rm.locals ≤ R.locals)
    (hP : va_P D cls ws H) (hD : va_D A0 ws) (hS : va_S A0 H0 H locs) (hA : ∀ q, H0.size ≤ q → A0 q) (hK : va_K D cls tc s) (hN : NW s)
    (hsC : isC.map (fun i => ws[i]?) = wc.map some) (hsR : isR.map (fun i => ws[i]?) = wr.map some) (hnC : va_nd isC = true) (hnR : va_nd isR = true) (hdis : ∀ i ∈ isR, i ∉ isC)
    (he : wc[q0]? = some (b, .inr (ci, fs))) (hc : cls[ci]? = some qq) (hC : qq.1 = C) (hsz : ls.size = nL) (hst : st0 = As.reverse ++ .ref b :: rest) (hcat : (rest.map fun v => v.category).sum ≤ 8)
    (hdg : decode cc pc = .ok (.invokevirtual index, 3)) (hf : cells ≤ R.cells ∧ slots ≤ R.slots)
    (kk : ∀ (r : UInt64) (u : U9) (H1 : Heap) (locs1 : List Loc), post r u → va_P D cls (wr ++ w1 u) H1 → va_D A0 (wr ++ w1 u) → va_S A0 H0 H1 locs1 → W p l e R s m args below meth c H1 locs1 cells slots Q (F0 m (pc + 3) ls (.double r :: rest))) : W p l e R s m args below meth c H locs cells slots Q (F0 m pc ls st0) := by
  subst hC
  have hPc : va_P D cls wc H := hP.by (fun k => (isC[k]?).getD 0) (fun k q hk => by
    have h9 : (isC.map (fun i => ws[i]?))[k]? = some (some q) := by rw [hsC, List.getElem?_map, hk]; rfl
    rw [List.getElem?_map] at h9
    cases hi : isC[k]? with
    | none => rw [hi] at h9; cases h9
    | some i => rw [hi] at h9; exact Option.some.inj h9)
  have hDc : va_D A0 wc := hD.sub isC hnC hsC
  have hFc := va_free hD hS hA isC hsC
  refine va_calld (va_runV (As := As) (rest := rest) S (hM H.size) (cwV n S.2.2.2.2 (tb_goodV h1 h2 h3 h4 h5) rfl hrm.1 hrm.2 hd hR) ⟨PW_blind, va_recv hK hPc hc he, fun U hU hW => ⟨rfl, by rw [hU], by rw [hU]; exact hPc, va_K.moved hW.alike hK, hDc.weaken (fun _ _ _ _ => trivial), hN.warm hW⟩⟩ rfl hn hsz hst (lv_room hcat) hdg hf) hS (fun q _ h => hFc q h) hFc (fun r u t H1 locs1 ht hvm hw hB hz1 hk1 hS1 => ?_)
  obtain ⟨hP1, hK1, hD1⟩ := hB
  rw [ht] at hP1
  obtain ⟨hP2, hD2⟩ := va_join hP hD isC isR hsC hsR hnR hdis hk1 hFc hP1 hD1
  exact kk r u H1 locs1 hw hP2 hD2 hS1
end DCalls
