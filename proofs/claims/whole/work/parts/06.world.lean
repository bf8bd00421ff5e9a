section zNewA
variable {E : zE} {y : zM} {d mc ms : Nat} {X : zXt} {F : zFin} {pc n : Nat} {L : List (Option Value)} {st : List Value} {ws : va_W} {cells slots : Nat}
theorem zJ_newi {t0 N : Nat} {cI : ClassId} {z : Int32} (hd : decode y.2.1 pc = .ok (.newarray .int, 2)) (hn : pc + 2 = n) (hw : Cond.arrayClass .int ∈ E.1) (ht : E.2.2.2[t0]? = some (cI, .int)) (hz : ¬ z < 0) (hN : z.toNatClampNeg = N) (hb : N * 4 ≤ 536870912) (hmc : cells + 1 ≤ mc) (hms : slots + N ≤ ms) (k : ∀ q : Nat, zJ E y d mc ms X F n L (.ref q :: st) (ws ++ [(q, .inl (cI, N, .inl (fun _ => 0)))]) (cells + 1) (slots + N)) : zJ E y d mc ms X F pc L (.int z :: st) ws cells slots := by
  subst hn
  intro p l e R s m args below meth c A H locs ls C hP hD hS hL
  have hts := C.2.2.2.2.2.1
  have hK := C.2.2.2.2.2.2.2.2.1
  refine va_newa (atype := .int) (ty := .int) (a0 := (N, .inl (fun _ => 0))) C.1 C.2.1 (hts _ hw) rfl hK hP hD hS C.2.2.2.2.2.2.2.1 (fun _ => rfl) hz hN hb (Nat.le_trans hmc C.2.2.2.2.2.2.2.2.2.2.2.1) (Nat.le_trans hms C.2.2.2.2.2.2.2.2.2.2.2.2.1) hd (fun q cA H1 hK1 hP1 hD1 hS1 => ?_)
  have hcc : cA = cI := by
    have h1 := (hK.2 t0 _ ht).2
    have h2 := (hK1.2 E.2.2.2.length (cA, .int) (by simp)).2
    exact Option.some.inj (h2.symm.trans h1)
  subst hcc
  exact k q p l e R s m args below meth c A H1 locs ls C hP1 hD1 hS1 hL
theorem zJ_newz {t0 N : Nat} {cI : ClassId} {z : Int32} (hd : decode y.2.1 pc = .ok (.newarray .boolean, 2)) (hn : pc + 2 = n) (hw : Cond.arrayClass .boolean ∈ E.1) (ht : E.2.2.2[t0]? = some (cI, .boolean)) (hz : ¬ z < 0) (hN : z.toNatClampNeg = N) (hb : N * componentBytes .boolean ≤ 536870912) (hmc : cells + 1 ≤ mc) (hms : slots + N ≤ ms) (k : ∀ q : Nat, zJ E y d mc ms X F n L (.ref q :: st) (ws ++ [(q, .inl (cI, N, .inl (fun _ => 0)))]) (cells + 1) (slots + N)) : zJ E y d mc ms X F pc L (.int z :: st) ws cells slots := by
  subst hn
  intro p l e R s m args below meth c A H locs ls C hP hD hS hL
  have hts := C.2.2.2.2.2.1
  have hK := C.2.2.2.2.2.2.2.2.1
  refine va_newa (atype := .boolean) (ty := .boolean) (a0 := (N, .inl (fun _ => 0))) C.1 C.2.1 (hts _ hw) rfl hK hP hD hS C.2.2.2.2.2.2.2.1 (fun _ => rfl) hz hN hb (Nat.le_trans hmc C.2.2.2.2.2.2.2.2.2.2.2.1) (Nat.le_trans hms C.2.2.2.2.2.2.2.2.2.2.2.2.1) hd (fun q cA H1 hK1 hP1 hD1 hS1 => ?_)
  have hcc : cA = cI := by
    have h1 := (hK.2 t0 _ ht).2
    have h2 := (hK1.2 E.2.2.2.length (cA, .boolean) (by simp)).2
    exact Option.some.inj (h2.symm.trans h1)
  subst hcc
  exact k q p l e R s m args below meth c A H1 locs ls C hP1 hD1 hS1 hL
theorem zJ_newq {t0 N idx : Nat} {cI : ClassId} {z : Int32} {C : String} (hCn : C = "EpochDirectory$Buffer") (hd : decode y.2.1 pc = .ok (.anewarray idx, 3)) (hn : pc + 3 = n) (hw : Cond.classLink y.1.cls idx C ∈ E.1) (ht : E.2.2.2[t0]? = some (cI, .object C)) (hz : ¬ z < 0) (hN : z.toNatClampNeg = N) (hb : N * 4 ≤ 536870912) (hmc : cells + 1 ≤ mc) (hms : slots + N ≤ ms) (k : ∀ q : Nat, zJ E y d mc ms X F n L (.ref q :: st) (ws ++ [(q, .inl (cI, N, .inr (.inr (.inr (.inr (fun _ => none))))))]) (cells + 1) (slots + N)) : zJ E y d mc ms X F pc L (.int z :: st) ws cells slots := by
  subst hn
  intro p l e R s m args below meth c A H locs ls C' hP hD hS hL
  have hts := C'.2.2.2.2.2.1
  have hK := C'.2.2.2.2.2.2.2.2.1
  refine va_newq C'.1 C'.2.1 C'.2.2.2.2.2.2.1 (hts _ hw) (hCn ▸ C'.2.2.2.2.2.2.2.2.2.2.2.2.2.2.1.1) hK hP hD hS C'.2.2.2.2.2.2.2.1 hz hN hb (Nat.le_trans hmc C'.2.2.2.2.2.2.2.2.2.2.2.1) (Nat.le_trans hms C'.2.2.2.2.2.2.2.2.2.2.2.2.1) hd (fun q cA H1 hK1 hP1 hD1 hS1 => ?_)
  have hcc : cA = cI := by
    obtain ⟨-, -, -, -, -, h1⟩ := (hK.2 t0 _ ht).2
    obtain ⟨-, -, -, -, -, h2⟩ := (hK1.2 E.2.2.2.length (cA, .object C) (by simp)).2
    exact Option.some.inj (h2.symm.trans h1)
  subst hcc
  exact k q p l e R s m args below meth c A H1 locs ls C' hP1 hD1 hS1 hL
end zNewA
/-! the steady world: a fixed shape, a memory of ints by place and number -/
abbrev zMem : Type := Nat → Nat → Int32
abbrev zSh : Type := (Nat × Nat) ⊕ (Nat × List (Option Nat)) ⊕ (List Nat)
def zu (M : zMem) (k j : Nat) (v : Int32) : zMem := fun k' => if k' = k then upd (M k) j v else M k'
def zfs (a : Nat → Nat) (m : Nat → Int32) : Nat → List (Option Nat) → List Value
  | _, [] => []
  | j, f :: r => (match f with | some q => .ref (a q) | none => .int (m j)) :: zfs a m (j + 1) r
def zcell (tys : List (ClassId × FieldType)) (a : Nat → Nat) (m : Nat → Int32) (sh : zSh) : va_E := match sh with
  | .inl (t, n) => .inl ((tys.getD t (0, .int)).1, n, .inl m)
  | .inr (.inl (ci, fs)) => .inr (ci, zfs a m 0 fs)
  | .inr (.inr l) => .inl ((tys.getD 2 (0, .int)).1, l.length, .inr (.inr (.inr (.inr (fun j => (l.map a)[j]?)))))
def zw (tys : List (ClassId × FieldType)) (a : Nat → Nat) (M : zMem) : Nat → List zSh → va_W
  | _, [] => []
  | k, sh :: r => (a k, zcell tys a (M k) sh) :: zw tys a M (k + 1) r
theorem zw_get (tys : List (ClassId × FieldType)) (a : Nat → Nat) (M : zMem) : ∀ (l : List zSh) (k i : Nat), (zw tys a M k l)[i]? = (l[i]?).map (fun sh => (a (k + i), zcell tys a (M (k + i)) sh))
  | [], k, i => by simp [zw]
  | sh :: r, k, 0 => by simp [zw]
  | sh :: r, k, i + 1 => by
    rw [zw, List.getElem?_cons_succ, List.getElem?_cons_succ, zw_get tys a M r (k + 1) i]
    rw [show k + 1 + i = k + (i + 1) by omega]
theorem zw_at {tys : List (ClassId × FieldType)} {a : Nat → Nat} {M : zMem} {l : List zSh} {i : Nat} {sh : zSh} (h : l[i]? = some sh) : (zw tys a M 0 l)[i]? = some (a i, zcell tys a (M i) sh) := by
  rw [zw_get, h]; simp
theorem zw_off (tys : List (ClassId × FieldType)) (a : Nat → Nat) (M M' : zMem) : ∀ (l : List zSh) (k : Nat), (∀ j, k ≤ j → M' j = M j) → zw tys a M' k l = zw tys a M k l
  | [], k, _ => rfl
  | sh :: r, k, h => by
    rw [zw, zw, h k (Nat.le_refl _), zw_off tys a M M' r (k + 1) (fun j hj => h j (by omega))]
theorem zw_set (tys : List (ClassId × FieldType)) (a : Nat → Nat) (M : zMem) (m : Nat → Int32) : ∀ (l : List zSh) (k i : Nat) (sh : zSh), l[i]? = some sh → (zw tys a M k l).set i (a (k + i), zcell tys a m sh) = zw tys a (fun j => if j = k + i then m else M j) k l
  | [], k, i, sh, h => by simp at h
  | s0 :: r, k, 0, sh, h => by
    simp at h
    subst h
    rw [zw, List.set_cons_zero, zw]
    simp only [Nat.add_zero, ite_true]
    rw [zw_off tys a M (fun j => if j = k then m else M j) r (k + 1) (fun j hj => if_neg (by omega))]
  | s0 :: r, k, i + 1, sh, h => by
    rw [zw, List.set_cons_succ, zw]
    rw [List.getElem?_cons_succ] at h
    have := zw_set tys a M m r (k + 1) i sh h
    rw [show k + 1 + i = k + (i + 1) by omega] at this
    rw [this]
    simp
theorem zfs_get (a : Nat → Nat) (m : Nat → Int32) : ∀ (l : List (Option Nat)) (k i : Nat), (zfs a m k l)[i]? = (l[i]?).map (fun f => match f with | some q => Value.ref (a q) | none => .int (m (k + i)))
  | [], k, i => by simp [zfs]
  | f :: r, k, 0 => by simp [zfs]
  | f :: r, k, i + 1 => by
    rw [List.getElem?_cons_succ]
    show (zfs a m (k + 1) r)[i]? = _
    rw [zfs_get a m r (k + 1) i]
    rw [show k + 1 + i = k + (i + 1) by omega]
theorem zfs_len (a : Nat → Nat) (m : Nat → Int32) : ∀ (l : List (Option Nat)) (k : Nat), (zfs a m k l).length = l.length
  | [], _ => rfl
  | f :: r, k => by
    show (zfs a m (k + 1) r).length + 1 = _
    rw [zfs_len a m r (k + 1), List.length_cons]
theorem zfs_set (a : Nat → Nat) (m : Nat → Int32) (l : List (Option Nat)) (j : Nat) (v : Int32) (h : l[j]? = some none) : (zfs a m 0 l).set j (.int v) = zfs a (upd m j v) 0 l := by
  apply List.ext_getElem?
  intro i
  rw [zfs_get]
  by_cases hi : i = j
  · subst hi
    have hlt : i < l.length := (List.getElem?_eq_some_iff.mp h).1
    rw [List.getElem?_set_self (by rw [zfs_len]; exact hlt), h]
    simp [upd]
  · rw [List.getElem?_set_ne (Ne.symm hi), zfs_get]
    cases hl : l[i]? with
    | none => rfl
    | some f =>
      cases f with
      | none => simp [upd, hi]
      | some q => rfl
/-- the judgement over the steady world -/
abbrev zS (E : zE) (shp : List zSh) (a : Nat → Nat) (y : zM) (d : Nat) (X : zXt) (F : zFin) (pc : Nat) (L : List (Option Value)) (st : List Value) (M : zMem) : Prop :=
  zJ E y d 0 0 X F pc L st (zw E.2.2.2 a M 0 shp) 0 0
/-- a method's end over the steady world -/
def zFs (E : zE) (shp : List zSh) (a : Nat → Nat) (Q : Option Value → zMem → Prop) : zFin := zMQ E 0 0 (fun v ws => ∃ M, ws = zw E.2.2.2 a M 0 shp ∧ Q v M)
/-- a contract over the steady world -/
def zK (E : zE) (shp : List zSh) (a : Nat → Nat) (y : zM) (d : Nat) (avs : List Value) (M : zMem) (Q : Option Value → zMem → Prop) : Prop :=
  zC E y d 0 0 avs (fun v ws => ∃ M', ws = zw E.2.2.2 a M' 0 shp ∧ Q v M') (zw E.2.2.2 a M 0 shp)
def zin (i : Int32) (n : Nat) : Bool := decide (0 ≤ i) && decide (i.toNatClampNeg < n)
theorem zin_in {i : Int32} {n : Nat} (h : zin i n = true) : vp_in i n := by
  unfold zin at h
  rw [Bool.and_eq_true, decide_eq_true_eq, decide_eq_true_eq] at h
  intro q
  rcases q with q | q
  · rw [Int32.lt_iff_toInt_lt] at q
    have := Int32.le_iff_toInt_le.mp h.1
    omega
  · omega
theorem zgd {α : Type} {b : Bool} {x : Option α} {z : α} (h : (if b = true then x else none) = some z) : b = true ∧ x = some z := by
  by_cases hb : b = true
  · rw [if_pos hb] at h
    exact ⟨hb, h⟩
  · rw [if_neg hb] at h
    cases h
theorem zbd {α β : Type} {x : Option α} {f : α → Option β} {z : β} (h : x.bind f = some z) : ∃ q, x = some q ∧ f q = some z := by
  cases x with
  | none => cases h
  | some q => exact ⟨q, rfl, h⟩
section zSteady
variable {E : zE} {shp : List zSh} {a : Nat → Nat} {y : zM} {d : Nat} {X : zXt} {F : zFin} {pc n : Nat} {L : List (Option Value)} {st : List Value} {M : zMem}
theorem zK.enter {avs : List Value} {Q : Option Value → zMem → Prop} (hy : plainName y.1.cls = true) (hc : (avs.all fun v => v.category == 1) = true) (hn : avs.length ≤ y.2.2.1) (hL : zent avs y.2.2.1 = L) (k : zS E shp a y d zTr (zFs E shp a Q) 0 L [] M) : zK E shp a y d avs M Q := by
  subst hL
  exact zC.enter hy (fun v hv => by simpa using (List.all_eq_true.mp hc) v hv) hn k
theorem zS_geti {idx ci j k0 N : Nat} {C : String} {T : u_T} {fs : List (Option Nat)} (hd : decode y.2.1 pc = .ok (.getfield idx, 3)) (hn : pc + 3 = n) (hf : zFl E y.1.cls idx ci j C T N) (hs : shp[k0]? = some (.inr (.inl (ci, fs)))) (hj : fs[j]? = some none) (k : zS E shp a y d X F n L (.int (M k0 j) :: st) M) : zS E shp a y d X F pc L (.ref (a k0) :: st) M := by
  refine zJ_get hd hn hf (zw_at hs) (fs := zfs a (M k0) 0 fs) ?_ k
  rw [zfs_get, hj]
  simp
theorem zS_getr {idx ci j k0 q N : Nat} {C : String} {T : u_T} {fs : List (Option Nat)} (hd : decode y.2.1 pc = .ok (.getfield idx, 3)) (hn : pc + 3 = n) (hf : zFl E y.1.cls idx ci j C T N) (hs : shp[k0]? = some (.inr (.inl (ci, fs)))) (hj : fs[j]? = some (some q)) (k : zS E shp a y d X F n L (.ref (a q) :: st) M) : zS E shp a y d X F pc L (.ref (a k0) :: st) M := by
  refine zJ_get hd hn hf (zw_at hs) (fs := zfs a (M k0) 0 fs) ?_ k
  rw [zfs_get, hj]
  simp
theorem zS_put {idx ci j k0 N : Nat} {C : String} {T : u_T} {fs : List (Option Nat)} {v : Int32} {ty0 : Nat → FieldType} (hd : decode y.2.1 pc = .ok (.putfield idx, 3)) (hn : pc + 3 = n) (hf : zFl E y.1.cls idx ci j C T N) (ht : zTy T N ty0) (hfin : (T j).2.2.2 = false) (hs : shp[k0]? = some (.inr (.inl (ci, fs)))) (hj : fs[j]? = some none) (hna : narrow (ty0 j) (.int v) = .int v) (hfit : fits (ty0 j) (.int v) = true) (k : zS E shp a y d X F n L st (zu M k0 j v)) : zS E shp a y d X F pc L (.int v :: .ref (a k0) :: st) M := by
  refine zJ_put hd hn hf ht hfin (zw_at hs) (fs := zfs a (M k0) 0 fs) (by rw [zfs_len]; exact (List.getElem?_eq_some_iff.mp hj).1) hna hfit ?_
  have e := zw_set E.2.2.2 a M (upd (M k0) j v) shp 0 k0 _ hs
  rw [zfs_set _ _ _ _ _ hj]
  simp only [Nat.zero_add] at e
  rw [show ((a k0, Sum.inr (ci, zfs a (upd (M k0) j v) 0 fs)) : Nat × va_E) = (a k0, zcell E.2.2.2 a (upd (M k0) j v) (.inr (.inl (ci, fs)))) from rfl, e]
  exact k
theorem zS_iald {k0 t0 N jj : Nat} {i : Int32} (hd : decode y.2.1 pc = .ok (.iaload, 1)) (hn : pc + 1 = n) (hs : shp[k0]? = some (.inl (t0, N))) (ht : E.2.2.2[t0]?.map (·.2) = some .int) (hjj : i.toNatClampNeg = jj) (hi : zin i N = true) (k : zS E shp a y d X F n L (.int (M k0 jj) :: st) M) : zS E shp a y d X F pc L (.int i :: .ref (a k0) :: st) M := by
  subst hjj
  cases h : E.2.2.2[t0]? with
  | none => rw [h] at ht; cases ht
  | some q =>
    rw [h] at ht
    have e : q = ((E.2.2.2.getD t0 (0, .int)).1, .int) := by
      rw [List.getD_eq_getElem?_getD, h]
      obtain ⟨a1, b1⟩ := q
      simp at ht ⊢
      exact ht
    exact zJ_iald hd hn (zw_at hs) (e ▸ h) (zin_in hi) k
theorem zS_zald {k0 t0 N jj : Nat} {i : Int32} (hd : decode y.2.1 pc = .ok (.baload, 1)) (hn : pc + 1 = n) (hs : shp[k0]? = some (.inl (t0, N))) (ht : E.2.2.2[t0]?.map (·.2) = some .boolean) (hjj : i.toNatClampNeg = jj) (hi : zin i N = true) (k : zS E shp a y d X F n L (.int (M k0 jj) :: st) M) : zS E shp a y d X F pc L (.int i :: .ref (a k0) :: st) M := by
  subst hjj
  cases h : E.2.2.2[t0]? with
  | none => rw [h] at ht; cases ht
  | some q =>
    rw [h] at ht
    have e : q = ((E.2.2.2.getD t0 (0, .int)).1, .boolean) := by
      rw [List.getD_eq_getElem?_getD, h]
      obtain ⟨a1, b1⟩ := q
      simp at ht ⊢
      exact ht
    exact zJ_zald hd hn (zw_at hs) (e ▸ h) (zin_in hi) k
theorem zS_iast {k0 t0 N : Nat} {i x : Int32} (hd : decode y.2.1 pc = .ok (.iastore, 1)) (hn : pc + 1 = n) (hs : shp[k0]? = some (.inl (t0, N))) (ht : E.2.2.2[t0]?.map (·.2) = some .int) (hi : zin i N = true) (k : zS E shp a y d X F n L st (zu M k0 i.toNatClampNeg x)) : zS E shp a y d X F pc L (.int x :: .int i :: .ref (a k0) :: st) M := by
  cases h : E.2.2.2[t0]? with
  | none => rw [h] at ht; cases ht
  | some q =>
    rw [h] at ht
    have e : q = ((E.2.2.2.getD t0 (0, .int)).1, .int) := by
      rw [List.getD_eq_getElem?_getD, h]
      obtain ⟨a1, b1⟩ := q
      simp at ht ⊢
      exact ht
    refine zJ_iast hd hn (zw_at hs) (e ▸ h) (zin_in hi) ?_
    have e2 := zw_set E.2.2.2 a M (upd (M k0) i.toNatClampNeg x) shp 0 k0 _ hs
    simp only [Nat.zero_add] at e2
    exact e2 ▸ k
theorem zS_zast {k0 t0 N : Nat} {i x : Int32} (hd : decode y.2.1 pc = .ok (.bastore, 1)) (hn : pc + 1 = n) (hs : shp[k0]? = some (.inl (t0, N))) (ht : E.2.2.2[t0]?.map (·.2) = some .boolean) (hi : zin i N = true) (hx : vp_nar .boolean x = x) (k : zS E shp a y d X F n L st (zu M k0 i.toNatClampNeg x)) : zS E shp a y d X F pc L (.int x :: .int i :: .ref (a k0) :: st) M := by
  cases h : E.2.2.2[t0]? with
  | none => rw [h] at ht; cases ht
  | some q =>
    rw [h] at ht
    have e : q = ((E.2.2.2.getD t0 (0, .int)).1, .boolean) := by
      rw [List.getD_eq_getElem?_getD, h]
      obtain ⟨a1, b1⟩ := q
      simp at ht ⊢
      exact ht
    refine zJ_zast hd hn (zw_at hs) (e ▸ h) (zin_in hi) hx ?_
    have e2 := zw_set E.2.2.2 a M (upd (M k0) i.toNatClampNeg x) shp 0 k0 _ hs
    simp only [Nat.zero_add] at e2
    exact e2 ▸ k
end zSteady
