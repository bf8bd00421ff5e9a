/-! calls and returns over the steady world; naming of values -/
def zlt {α β : Type} (x : α) (f : α → β) : β := f x
theorem zli {α β : Type} {x : α} {f : α → Option β} {z : β} (h : zlt x f = some z) : ∃ v, x = v ∧ f v = some z := ⟨x, rfl, h⟩
def zcs {β : Type} (q : Option Nat) (x : β) (f : Nat → β) : β := match q with
  | none => x
  | some p => f p
theorem zcsi {β : Type} {q : Option Nat} {x : Option β} {f : Nat → Option β} {z : β} (h : zcs q x f = some z) : (q = none ∧ x = some z) ∨ ∃ p, q = some p ∧ f p = some z := by
  cases q with
  | none => exact Or.inl ⟨rfl, h⟩
  | some p => exact Or.inr ⟨p, rfl, h⟩
def znz (v : Int32) : Bool := decide (¬ v = 0)
theorem znz_ne {v : Int32} (h : znz v = true) : ¬ v = 0 := of_decide_eq_true h
def zbool (v : Int32) : Bool := decide (v = 0) || decide (v = 1)
theorem zbool_or {v : Int32} (h : zbool v = true) : v = 0 ∨ v = 1 := by
  unfold zbool at h
  rw [Bool.or_eq_true, decide_eq_true_eq, decide_eq_true_eq] at h
  exact h
theorem zbool_nar {v : Int32} (h : zbool v = true) : narrow .boolean (.int v) = .int v := by
  rcases zbool_or h with rfl | rfl <;> rfl
theorem zbool_fit {v : Int32} (h : zbool v = true) : fits .boolean (.int v) = true := by
  rcases zbool_or h with rfl | rfl <;> rfl
theorem zbool_vp {v : Int32} (h : zbool v = true) : vp_nar .boolean v = v := by
  rcases zbool_or h with rfl | rfl <;> rfl
def zRi (z : Int32 × zMem) : Option Value → zMem → Prop := fun v M => v = some (.int z.1) ∧ M = z.2
def zRv (z : Int32 × zMem) : Option Value → zMem → Prop := fun v M => v = none ∧ M = z.2
def zRr (a : Nat → Nat) (z : Option Nat × zMem) : Option Value → zMem → Prop := fun v M => v = some (va_rf (z.1.map a)) ∧ M = z.2
/-- a call site of a virtual method: link, words, name, class number -/
def zVk (E : zE) (own : String) (idx : Nat) (yc : zM) (nA ci : Nat) : Prop :=
  zGood E ∧ zLn E own idx yc ∧ Cond.instanceMethod yc.1 ∈ E.1 ∧ Cond.selects yc.1.cls yc.1 yc.1 ∈ E.1 ∧ zNm yc nA ∧ yc.2.2.1 ≤ 17 ∧ ∃ (T : u_T) (N : Nat), E.2.1[ci]? = some (yc.1.cls, T, N)
def zSk (E : zE) (own : String) (idx : Nat) (yc : zM) (nA : Nat) : Prop :=
  zGood E ∧ zLn E own idx yc ∧ Cond.static yc.1 ∈ E.1 ∧ zNm yc nA ∧ yc.2.2.1 ≤ 17
section zSteadyCalls
variable {E : zE} {shp : List zSh} {a : Nat → Nat} {y : zM} {d : Nat} {X : zXt} {F : zFin} {pc n : Nat} {L : List (Option Value)} {st : List Value} {M : zMem}
variable {idx d' : Nat} {yc : zM} {avs rest : List Value}
theorem zS_ireturn {Q : Option Value → zMem → Prop} {v : Int32} {ty : FieldType} (hd : decode y.2.1 pc = .ok (.ireturn, 1)) (hr : y.2.2.2 = some ty) (hna : narrow ty (.int v) = .int v) (hq : Q (some (.int v)) M) : zS E shp a y d X (zFs E shp a Q) pc L [.int v] M := zJ_ireturn hd hr hna ⟨M, rfl, hq⟩
theorem zS_return {Q : Option Value → zMem → Prop} (hd : decode y.2.1 pc = .ok (.return_, 1)) (hr : y.2.2.2 = none) (hq : Q none M) : zS E shp a y d X (zFs E shp a Q) pc L [] M := zJ_return hd hr ⟨M, rfl, hq⟩
theorem zS_areturn {Q : Option Value → zMem → Prop} {v : Value} {C : String} (hd : decode y.2.1 pc = .ok (.areturn, 1)) (hr : y.2.2.2 = some (.object C)) (hv : v = .null ∨ ∃ q, v = .ref q) (hq : Q (some v) M) : zS E shp a y d X (zFs E shp a Q) pc L [v] M := zJ_areturn hd hr (Or.inl ⟨C, rfl⟩) hv ⟨M, rfl, hq⟩
theorem zS_callV {k0 ci nA : Nat} {fs : List (Option Nat)} {Qc : Option Value → zMem → Prop} (hd : decode y.2.1 pc = .ok (.invokevirtual idx, 3)) (hn : pc + 3 = n) (hk : zVk E y.1.cls idx yc nA ci) (hs : shp[k0]? = some (.inr (.inl (ci, fs)))) (hst : st = avs.reverse ++ .ref (a k0) :: rest) (hA : avs.length = nA) (hrest : (rest.map fun v => v.category).sum ≤ 8) (hd' : d' + 1 ≤ d)
    (hM : zK E shp a yc d' (.ref (a k0) :: avs) M Qc) (k : ∀ (v : Option Value) (M1 : zMem), Qc v M1 → zS E shp a y d X F n L (v.toList ++ rest) M1) : zS E shp a y d X F pc L st M := by
  subst hA
  obtain ⟨hG, hl, hi, hsl, hnm, hmx, T, N, hci⟩ := hk
  refine zJ_callV (wc := zw E.2.2.2 a M 0 shp) (wr := []) hG hd hn hl hi hsl hnm (zw_at hs) hci hst hrest hd' hmx (Nat.le_refl _) (Nat.le_refl _) (List.range (zw E.2.2.2 a M 0 shp).length) [] (zAll _) (zAllnd _) rfl rfl (fun i h => by cases h) hM ?_
  rintro v w1 ⟨M1, rfl, hq⟩
  exact k v M1 hq
theorem zS_callS {nA : Nat} {Qc : Option Value → zMem → Prop} (hd : decode y.2.1 pc = .ok (.invokestatic idx, 3)) (hn : pc + 3 = n) (hk : zSk E y.1.cls idx yc nA) (hst : st = avs.reverse ++ rest) (hA : avs.length = nA) (hrest : (rest.map fun v => v.category).sum ≤ 8) (hd' : d' + 1 ≤ d)
    (hM : zK E shp a yc d' avs M Qc) (k : ∀ (v : Option Value) (M1 : zMem), Qc v M1 → zS E shp a y d X F n L (v.toList ++ rest) M1) : zS E shp a y d X F pc L st M := by
  subst hA
  obtain ⟨hG, hl, hi, hnm, hmx⟩ := hk
  refine zJ_callS (wc := zw E.2.2.2 a M 0 shp) (wr := []) hG hd hn hl hi hnm hst hrest hd' hmx (Nat.le_refl _) (Nat.le_refl _) (List.range (zw E.2.2.2 a M 0 shp).length) [] (zAll _) (zAllnd _) rfl rfl (fun i h => by cases h) hM ?_
  rintro v w1 ⟨M1, rfl, hq⟩
  exact k v M1 hq
theorem zS_callVi {k0 ci nA : Nat} {fs : List (Option Nat)} {z : Int32 × zMem} (hd : decode y.2.1 pc = .ok (.invokevirtual idx, 3)) (hn : pc + 3 = n) (hk : zVk E y.1.cls idx yc nA ci) (hs : shp[k0]? = some (.inr (.inl (ci, fs)))) (hst : st = avs.reverse ++ .ref (a k0) :: rest) (hA : avs.length = nA) (hrest : (rest.map fun v => v.category).sum ≤ 8) (hd' : d' + 1 ≤ d)
    (hM : zK E shp a yc d' (.ref (a k0) :: avs) M (zRi z)) (k : zS E shp a y d X F n L (.int z.1 :: rest) z.2) : zS E shp a y d X F pc L st M :=
  zS_callV hd hn hk hs hst hA hrest hd' hM (fun v M1 h => by obtain ⟨rfl, rfl⟩ := h; exact k)
theorem zS_callVv {k0 ci nA : Nat} {fs : List (Option Nat)} {z : Int32 × zMem} (hd : decode y.2.1 pc = .ok (.invokevirtual idx, 3)) (hn : pc + 3 = n) (hk : zVk E y.1.cls idx yc nA ci) (hs : shp[k0]? = some (.inr (.inl (ci, fs)))) (hst : st = avs.reverse ++ .ref (a k0) :: rest) (hA : avs.length = nA) (hrest : (rest.map fun v => v.category).sum ≤ 8) (hd' : d' + 1 ≤ d)
    (hM : zK E shp a yc d' (.ref (a k0) :: avs) M (zRv z)) (k : zS E shp a y d X F n L rest z.2) : zS E shp a y d X F pc L st M :=
  zS_callV hd hn hk hs hst hA hrest hd' hM (fun v M1 h => by obtain ⟨rfl, rfl⟩ := h; exact k)
theorem zS_callVr {k0 ci nA : Nat} {fs : List (Option Nat)} {z : Option Nat × zMem} (hd : decode y.2.1 pc = .ok (.invokevirtual idx, 3)) (hn : pc + 3 = n) (hk : zVk E y.1.cls idx yc nA ci) (hs : shp[k0]? = some (.inr (.inl (ci, fs)))) (hst : st = avs.reverse ++ .ref (a k0) :: rest) (hA : avs.length = nA) (hrest : (rest.map fun v => v.category).sum ≤ 8) (hd' : d' + 1 ≤ d)
    (hM : zK E shp a yc d' (.ref (a k0) :: avs) M (zRr a z)) (k : zS E shp a y d X F n L (va_rf (z.1.map a) :: rest) z.2) : zS E shp a y d X F pc L st M :=
  zS_callV hd hn hk hs hst hA hrest hd' hM (fun v M1 h => by obtain ⟨rfl, rfl⟩ := h; exact k)
theorem zS_callSi {nA : Nat} {z : Int32 × zMem} (hd : decode y.2.1 pc = .ok (.invokestatic idx, 3)) (hn : pc + 3 = n) (hk : zSk E y.1.cls idx yc nA) (hst : st = avs.reverse ++ rest) (hA : avs.length = nA) (hrest : (rest.map fun v => v.category).sum ≤ 8) (hd' : d' + 1 ≤ d)
    (hM : zK E shp a yc d' avs M (zRi z)) (k : zS E shp a y d X F n L (.int z.1 :: rest) z.2) : zS E shp a y d X F pc L st M :=
  zS_callS hd hn hk hst hA hrest hd' hM (fun v M1 h => by obtain ⟨rfl, rfl⟩ := h; exact k)
/-- naming forms -/
theorem zS_istore_n {i : Fin 4} {j : Nat} {x x' : Int32} (hd : decode y.2.1 pc = .ok (.istore_n i, 1)) (hn : pc + 1 = n) (hi : (i : Nat) = j) (hj : j < y.2.2.1) (hx : x = x') (k : zS E shp a y d X F n (L.set j (some (.int x'))) st M) : zS E shp a y d X F pc L (.int x :: st) M := by
  subst hx; exact zJ_istore_n hd hn hi hj k
theorem zS_istore {j : Nat} {x x' : Int32} (hd : decode y.2.1 pc = .ok (.istore j, 2)) (hn : pc + 2 = n) (hj : j < y.2.2.1) (hx : x = x') (k : zS E shp a y d X F n (L.set j (some (.int x'))) st M) : zS E shp a y d X F pc L (.int x :: st) M := by
  subst hx; exact zJ_istore hd hn hj k
theorem zS_iinc {j : Nat} {w : Int} {x v x' : Int32} (hd : decode y.2.1 pc = .ok (.iinc j w, 3)) (hn : pc + 3 = n) (hl : L[j]? = some (some (.int x))) (hv : Int32.ofInt w = v) (hj : j < y.2.2.1) (hx : x + v = x') (k : zS E shp a y d X F n (L.set j (some (.int x'))) st M) : zS E shp a y d X F pc L st M := by
  subst hx; exact zJ_iinc hd hn hl hv hj k
theorem zS_putN {ci j k0 N : Nat} {C : String} {T : u_T} {fs : List (Option Nat)} {v : Int32} {ty0 : Nat → FieldType} {M1 : zMem} (hd : decode y.2.1 pc = .ok (.putfield idx, 3)) (hn : pc + 3 = n) (hf : zFl E y.1.cls idx ci j C T N) (ht : zTy T N ty0) (hfin : (T j).2.2.2 = false) (hs : shp[k0]? = some (.inr (.inl (ci, fs)))) (hj : fs[j]? = some none) (hna : narrow (ty0 j) (.int v) = .int v) (hfit : fits (ty0 j) (.int v) = true) (hM : zu M k0 j v = M1) (k : zS E shp a y d X F n L st M1) : zS E shp a y d X F pc L (.int v :: .ref (a k0) :: st) M := by
  subst hM; exact zS_put hd hn hf ht hfin hs hj hna hfit k
theorem zS_iastN {k0 t0 N jj : Nat} {i x : Int32} {M1 : zMem} (hd : decode y.2.1 pc = .ok (.iastore, 1)) (hn : pc + 1 = n) (hs : shp[k0]? = some (.inl (t0, N))) (ht : E.2.2.2[t0]?.map (·.2) = some .int) (hjj : i.toNatClampNeg = jj) (hi : zin i N = true) (hM : zu M k0 jj x = M1) (k : zS E shp a y d X F n L st M1) : zS E shp a y d X F pc L (.int x :: .int i :: .ref (a k0) :: st) M := by
  subst hjj; subst hM; exact zS_iast hd hn hs ht hi k
theorem zS_zastN {k0 t0 N jj : Nat} {i x : Int32} {M1 : zMem} (hd : decode y.2.1 pc = .ok (.bastore, 1)) (hn : pc + 1 = n) (hs : shp[k0]? = some (.inl (t0, N))) (ht : E.2.2.2[t0]?.map (·.2) = some .boolean) (hjj : i.toNatClampNeg = jj) (hi : zin i N = true) (hx : vp_nar .boolean x = x) (hM : zu M k0 jj x = M1) (k : zS E shp a y d X F n L st M1) : zS E shp a y d X F pc L (.int x :: .int i :: .ref (a k0) :: st) M := by
  subst hjj; subst hM; exact zS_zast hd hn hs ht hi hx k
theorem zS_aald {k0 q : Nat} {i : Int32} {l : List Nat} {C : String} (hd : decode y.2.1 pc = .ok (.aaload, 1)) (hn : pc + 1 = n) (hs : shp[k0]? = some (.inr (.inr l))) (ht : E.2.2.2[2]?.map (·.2) = some (.object C)) (hi : zin i l.length = true) (hq : l[i.toNatClampNeg]? = some q) (k : zS E shp a y d X F n L (.ref (a q) :: st) M) : zS E shp a y d X F pc L (.int i :: .ref (a k0) :: st) M := by
  cases h : E.2.2.2[2]? with
  | none => rw [h] at ht; cases ht
  | some q2 =>
    rw [h] at ht
    have e : q2 = ((E.2.2.2.getD 2 (0, .int)).1, .object C) := by
      rw [List.getD_eq_getElem?_getD, h]
      obtain ⟨a1, b1⟩ := q2
      simp at ht ⊢
      exact ht
    refine zJ_aald hd hn (zw_at hs) (e ▸ h) (zin_in hi) ?_
    have e2 : (l.map a)[i.toNatClampNeg]? = some (a q) := by rw [List.getElem?_map, hq]; rfl
    rw [e2]
    exact k
theorem zS_alen {k0 t0 N : Nat} {v : Int32} {ty : FieldType} (hd : decode y.2.1 pc = .ok (.arraylength, 1)) (hn : pc + 1 = n) (hs : shp[k0]? = some (.inl (t0, N))) (ht : E.2.2.2[t0]?.map (·.2) = some ty) (hv : Int32.ofNat N = v) (k : zS E shp a y d X F n L (.int v :: st) M) : zS E shp a y d X F pc L (.ref (a k0) :: st) M := by
  cases h : E.2.2.2[t0]? with
  | none => rw [h] at ht; cases ht
  | some q =>
    rw [h] at ht
    have e : q = ((E.2.2.2.getD t0 (0, .int)).1, ty) := by
      rw [List.getD_eq_getElem?_getD, h]
      obtain ⟨a1, b1⟩ := q
      simp at ht ⊢
      exact ht
    exact zJ_alen hd hn (zw_at hs) (e ▸ h) hv k
end zSteadyCalls
