section zHeap
variable {E : zE} {y : zM} {d mc ms : Nat} {X : zXt} {F : zFin} {pc n : Nat} {L : List (Option Value)} {st : List Value} {ws : va_W} {cells slots : Nat}
/-- a field by its link: class number ci of the tables, slot j -/
def zFl (E : zE) (own : String) (idx ci j : Nat) (C : String) (T : u_T) (N : Nat) : Prop :=
  E.2.1[ci]? = some (C, T, N) ∧ j < N ∧ (∀ w ∈ u_ws C T N, w ∈ E.1) ∧ (T j).1 = C ∧
  ((Cond.fieldLink own idx C (T j).2.1 (T j).2.2.1 ∈ E.1) ∨ ∃ host, Cond.fieldLinkNest own idx C (T j).2.1 (T j).2.2.1 host ∈ lw_tbl)
theorem zJ_get {idx ci j q0 a N : Nat} {C : String} {T : u_T} {fs : List Value} {v : Value} (hd : decode y.2.1 pc = .ok (.getfield idx, 3)) (hn : pc + 3 = n) (hf : zFl E y.1.cls idx ci j C T N) (he : ws[q0]? = some (a, .inr (ci, fs))) (hv : fs[j]? = some v) (k : zJ E y d mc ms X F n L (v :: st) ws cells slots) : zJ E y d mc ms X F pc L (.ref a :: st) ws cells slots := by
  subst hn
  intro p l e R s m args below meth c A H locs ls C' hP hD hS hL
  obtain ⟨h1, h2, h3, h4, h5⟩ := hf
  rcases h5 with h5 | ⟨host, h5⟩
  · exact va_get (ref := C) C'.1 C'.2.1 C'.2.2.2.2.2.1 h3 C'.2.2.2.2.2.2.1 C'.2.2.2.2.2.2.2.2.1 hP q0 he h1 j h2 (C'.2.2.2.2.2.1 _ h5) (fun x h9 => by rw [h4] at h9; exact h9) hv hd (k p l e R s m args below meth c A H locs ls C' hP hD hS hL)
  · exact va_getN (ref := C) C'.1 C'.2.1 C'.2.2.2.2.2.1 h3 C'.2.2.2.2.2.2.1 C'.2.2.2.2.2.2.2.2.1 hP q0 he h1 j h2 (va_Nw.use rfl (C'.2.2.2.2.2.2.2.2.2.2.2.2.2.2.1.2 _ h5 rfl)) (fun x h9 => by rw [h4] at h9; exact h9) hv hd (k p l e R s m args below meth c A H locs ls C' hP hD hS hL)
/-- what a class's table must say for writes -/
def zTy (T : u_T) (N : Nat) (ty0 : Nat → FieldType) : Prop := (∀ k, k < N → parseFieldDescriptor (T k).2.2.1 = some (ty0 k)) ∧ ∀ a, a < N → ∀ b, b < N → a ≠ b → (T a).2.1 ≠ (T b).2.1
theorem zJ_put {idx ci j q0 a N : Nat} {C : String} {T : u_T} {fs : List Value} {v : Value} {ty0 : Nat → FieldType} (hd : decode y.2.1 pc = .ok (.putfield idx, 3)) (hn : pc + 3 = n) (hf : zFl E y.1.cls idx ci j C T N) (ht : zTy T N ty0) (hfin : (T j).2.2.2 = false) (he : ws[q0]? = some (a, .inr (ci, fs))) (hl : j < fs.length) (hna : narrow (ty0 j) v = v) (hfit : fits (ty0 j) v = true) (k : zJ E y d mc ms X F n L st (ws.set q0 (a, .inr (ci, fs.set j v))) cells slots) : zJ E y d mc ms X F pc L (v :: .ref a :: st) ws cells slots := by
  subst hn
  intro p l e R s m args below meth c A H locs ls C' hP hD hS hL
  obtain ⟨h1, h2, h3, h4, h5⟩ := hf
  rcases h5 with h5 | ⟨host, h5⟩
  · exact va_put (ref := C) C'.1 C'.2.1 C'.2.2.2.2.2.1 h3 ty0 ht.1 ht.2 C'.2.2.2.2.2.2.1 C'.2.2.2.2.2.2.2.2.1 hP hD hS q0 he h1 j h2 (C'.2.2.2.2.2.1 _ h5) (fun x h9 => by rw [h4] at h9; exact h9) hfin (ht.1 j h2) hna hfit hl hd (fun H1 locs1 hP1 hD1 hS1 => k p l e R s m args below meth c A H1 locs1 ls C' hP1 hD1 hS1 hL)
  · exact va_putN (ref := C) C'.1 C'.2.1 C'.2.2.2.2.2.1 h3 ty0 ht.1 ht.2 C'.2.2.2.2.2.2.1 C'.2.2.2.2.2.2.2.2.1 hP hD hS q0 he h1 j h2 (va_Nw.use rfl (C'.2.2.2.2.2.2.2.2.2.2.2.2.2.2.1.2 _ h5 rfl)) (fun x h9 => by rw [h4] at h9; exact h9) hfin (ht.1 j h2) hna hfit hl hd (fun H1 locs1 hP1 hD1 hS1 => k p l e R s m args below meth c A H1 locs1 ls C' hP1 hD1 hS1 hL)
theorem zJ_putF {idx ci j q0 a N : Nat} {C : String} {T : u_T} {fs : List Value} {v : Value} {ty0 : Nat → FieldType} (hd : decode y.2.1 pc = .ok (.putfield idx, 3)) (hn : pc + 3 = n) (hf : zFl E y.1.cls idx ci j C T N) (hlk : Cond.fieldLink y.1.cls idx C (T j).2.1 (T j).2.2.1 ∈ E.1) (ht : zTy T N ty0) (hfin : (T j).2.2.2 = true) (hin : y.1.name = "<init>") (hown : C = y.1.cls) (he : ws[q0]? = some (a, .inr (ci, fs))) (hl : j < fs.length) (hna : narrow (ty0 j) v = v) (hfit : fits (ty0 j) v = true) (k : zJ E y d mc ms X F n L st (ws.set q0 (a, .inr (ci, fs.set j v))) cells slots) : zJ E y d mc ms X F pc L (v :: .ref a :: st) ws cells slots := by
  subst hn
  intro p l e R s m args below meth c A H locs ls C' hP hD hS hL
  obtain ⟨h1, h2, h3, h4, h5⟩ := hf
  exact va_putF (ref := C) C'.1 C'.2.1 C'.2.2.2.2.2.1 h3 ty0 ht.1 ht.2 C'.2.2.2.2.2.2.1 C'.2.2.2.2.2.2.2.2.1 hP hD hS q0 he h1 j h2 (C'.2.2.2.2.2.1 _ hlk) (fun x h9 => by rw [h4] at h9; exact h9) hfin (C'.2.2.2.2.2.2.2.2.2.2.2.2.2.1 hin) (h4.trans hown) (ht.1 j h2) hna hfit hl hd (fun H1 locs1 hP1 hD1 hS1 => k p l e R s m args below meth c A H1 locs1 ls C' hP1 hD1 hS1 hL)
theorem zJ_iald {q0 t0 a N : Nat} {cA : ClassId} {f : Nat → Int32} {i : Int32} (hd : decode y.2.1 pc = .ok (.iaload, 1)) (hn : pc + 1 = n) (he : ws[q0]? = some (a, .inl (cA, N, .inl f))) (ht : E.2.2.2[t0]? = some (cA, .int)) (hi : vp_in i N) (k : zJ E y d mc ms X F n L (.int (f i.toNatClampNeg) :: st) ws cells slots) : zJ E y d mc ms X F pc L (.int i :: .ref a :: st) ws cells slots := by
  subst hn
  intro p l e R s m args below meth c A H locs ls C' hP hD hS hL
  exact va_iald C'.1 C'.2.1 C'.2.2.2.2.2.2.2.2.1 hP q0 t0 he ht hi hd (k p l e R s m args below meth c A H locs ls C' hP hD hS hL)
theorem zJ_zald {q0 t0 a N : Nat} {cA : ClassId} {f : Nat → Int32} {i : Int32} (hd : decode y.2.1 pc = .ok (.baload, 1)) (hn : pc + 1 = n) (he : ws[q0]? = some (a, .inl (cA, N, .inl f))) (ht : E.2.2.2[t0]? = some (cA, .boolean)) (hi : vp_in i N) (k : zJ E y d mc ms X F n L (.int (f i.toNatClampNeg) :: st) ws cells slots) : zJ E y d mc ms X F pc L (.int i :: .ref a :: st) ws cells slots := by
  subst hn
  intro p l e R s m args below meth c A H locs ls C' hP hD hS hL
  exact va_zald C'.1 C'.2.1 C'.2.2.2.2.2.2.2.2.1 hP q0 t0 he ht hi hd (k p l e R s m args below meth c A H locs ls C' hP hD hS hL)
theorem zJ_iast {q0 t0 a N : Nat} {cA : ClassId} {f : Nat → Int32} {i x : Int32} (hd : decode y.2.1 pc = .ok (.iastore, 1)) (hn : pc + 1 = n) (he : ws[q0]? = some (a, .inl (cA, N, .inl f))) (ht : E.2.2.2[t0]? = some (cA, .int)) (hi : vp_in i N) (k : zJ E y d mc ms X F n L st (ws.set q0 (a, .inl (cA, N, .inl (upd f i.toNatClampNeg x)))) cells slots) : zJ E y d mc ms X F pc L (.int x :: .int i :: .ref a :: st) ws cells slots := by
  subst hn
  intro p l e R s m args below meth c A H locs ls C' hP hD hS hL
  exact va_iast C'.1 C'.2.1 C'.2.2.2.2.2.2.2.2.1 hP hD hS q0 t0 he ht hi hd (fun H1 locs1 hP1 hD1 hS1 => k p l e R s m args below meth c A H1 locs1 ls C' hP1 hD1 hS1 hL)
theorem zJ_zast {q0 t0 a N : Nat} {cA : ClassId} {f : Nat → Int32} {i x : Int32} (hd : decode y.2.1 pc = .ok (.bastore, 1)) (hn : pc + 1 = n) (he : ws[q0]? = some (a, .inl (cA, N, .inl f))) (ht : E.2.2.2[t0]? = some (cA, .boolean)) (hi : vp_in i N) (hx : vp_nar .boolean x = x) (k : zJ E y d mc ms X F n L st (ws.set q0 (a, .inl (cA, N, .inl (upd f i.toNatClampNeg x)))) cells slots) : zJ E y d mc ms X F pc L (.int x :: .int i :: .ref a :: st) ws cells slots := by
  subst hn
  intro p l e R s m args below meth c A H locs ls C' hP hD hS hL
  exact va_zast C'.1 C'.2.1 C'.2.2.2.2.2.2.2.2.1 hP hD hS q0 t0 he ht hi hd (fun H1 locs1 hP1 hD1 hS1 => k p l e R s m args below meth c A H1 locs1 ls C' (by rw [← hx]; exact hP1) (by rw [← hx]; exact hD1) hS1 hL)
theorem zJ_aald {q0 t0 a N : Nat} {cA : ClassId} {C : String} {f : Nat → Option Nat} {i : Int32} (hd : decode y.2.1 pc = .ok (.aaload, 1)) (hn : pc + 1 = n) (he : ws[q0]? = some (a, .inl (cA, N, .inr (.inr (.inr (.inr f)))))) (ht : E.2.2.2[t0]? = some (cA, .object C)) (hi : vp_in i N) (k : zJ E y d mc ms X F n L (va_rf (f i.toNatClampNeg) :: st) ws cells slots) : zJ E y d mc ms X F pc L (.int i :: .ref a :: st) ws cells slots := by
  subst hn
  intro p l e R s m args below meth c A H locs ls C' hP hD hS hL
  exact va_aldq C'.1 C'.2.1 C'.2.2.2.2.2.2.2.2.1 hP q0 t0 he ht hi hd (k p l e R s m args below meth c A H locs ls C' hP hD hS hL)
theorem zJ_aast {q0 t0 qk ci a v N : Nat} {cA : ClassId} {r : vw_C} {vs : List Value} {f : Nat → Option Nat} {i : Int32} (hd : decode y.2.1 pc = .ok (.aastore, 1)) (hn : pc + 1 = n) (he : ws[q0]? = some (a, .inl (cA, N, .inr (.inr (.inr (.inr f)))))) (ht : E.2.2.2[t0]? = some (cA, .object r.1)) (hv : ws[qk]? = some (v, .inr (ci, vs))) (hc : E.2.1[ci]? = some r) (hi : vp_in i N) (k : zJ E y d mc ms X F n L st (ws.set q0 (a, .inl (cA, N, .inr (.inr (.inr (.inr (va_up f i.toNatClampNeg (some v)))))))) cells slots) : zJ E y d mc ms X F pc L (.ref v :: .int i :: .ref a :: st) ws cells slots := by
  subst hn
  intro p l e R s m args below meth c A H locs ls C' hP hD hS hL
  exact va_astq C'.1 C'.2.1 C'.2.2.2.2.2.2.2.2.1 hP hD hS q0 t0 qk ci he ht hv hc hi hd (fun H1 locs1 hP1 hD1 hS1 => k p l e R s m args below meth c A H1 locs1 ls C' hP1 hD1 hS1 hL)
theorem zJ_alen {q0 t0 a : Nat} {cA : ClassId} {x : vp_A} {ty : FieldType} {v : Int32} (hd : decode y.2.1 pc = .ok (.arraylength, 1)) (hn : pc + 1 = n) (he : ws[q0]? = some (a, .inl (cA, x))) (ht : E.2.2.2[t0]? = some (cA, ty)) (hv : Int32.ofNat x.1 = v) (k : zJ E y d mc ms X F n L (.int v :: st) ws cells slots) : zJ E y d mc ms X F pc L (.ref a :: st) ws cells slots := by
  subst hn
  intro p l e R s m args below meth c A H locs ls C' hP hD hS hL
  exact va_alen C'.1 C'.2.1 C'.2.2.2.2.2.2.2.2.1 hP q0 t0 he ht hv hd (k p l e R s m args below meth c A H locs ls C' hP hD hS hL)
/-- returns -/
theorem zJ_ireturn {Q : Option Value → va_W → Prop} {v : Int32} {ty : FieldType} (hd : decode y.2.1 pc = .ok (.ireturn, 1)) (hr : y.2.2.2 = some ty) (hna : narrow ty (.int v) = .int v) (hq : Q (some (.int v)) ws) : zJ E y d mc ms X (zMQ E mc ms Q) pc L [.int v] ws mc ms := by
  intro p l e R s m args below meth c A H locs ls C hP hD hS hL
  exact W.zret (ty := ty) C.1 C.2.1 (C.2.2.2.1.trans hr) hna (fun t ht hW => ⟨⟨_, ws, rfl, hq, by rw [ht]; exact hP, va_K.moved hW.alike C.2.2.2.2.2.2.2.2.1, hD⟩, hS.F ht⟩) hS.2.2 hd (hlocks := C.2.2.2.2.1)
theorem zJ_return {Q : Option Value → va_W → Prop} (hd : decode y.2.1 pc = .ok (.return_, 1)) (hr : y.2.2.2 = none) (hq : Q none ws) : zJ E y d mc ms X (zMQ E mc ms Q) pc L [] ws mc ms := by
  intro p l e R s m args below meth c A H locs ls C hP hD hS hL
  exact W.vret C.1 C.2.1 (C.2.2.2.1.trans hr) (fun t ht hW => ⟨⟨_, ws, rfl, hq, by rw [ht]; exact hP, va_K.moved hW.alike C.2.2.2.2.2.2.2.2.1, hD⟩, hS.F ht⟩) hS.2.2 hd (hlocks := C.2.2.2.2.1)
theorem zJ_areturn {Q : Option Value → va_W → Prop} {v : Value} {ty : FieldType} (hd : decode y.2.1 pc = .ok (.areturn, 1)) (hr : y.2.2.2 = some ty) (hrt : (∃ n, ty = .object n) ∨ ∃ t, ty = .array t) (hv : v = .null ∨ ∃ a, v = .ref a) (hq : Q (some v) ws) : zJ E y d mc ms X (zMQ E mc ms Q) pc L [v] ws mc ms := by
  intro p l e R s m args below meth c A H locs ls C hP hD hS hL
  exact W.aret C.1 C.2.1 (C.2.2.2.1.trans hr) hrt hv (fun t ht hW => ⟨⟨_, ws, rfl, hq, by rw [ht]; exact hP, va_K.moved hW.alike C.2.2.2.2.2.2.2.2.1, hD⟩, hS.F ht⟩) hS.2.2 hd (hlocks := C.2.2.2.2.1)
theorem zJ_widen {k1 n1 : Nat} (h1 : cells ≤ k1) (h2 : slots ≤ n1) (k : zJ E y d mc ms X F pc L st ws k1 n1) : zJ E y d mc ms X F pc L st ws cells slots := by
  intro p l e R s m args below meth c A H locs ls C hP hD hS hL
  exact W.widen h1 h2 (k p l e R s m args below meth c A H locs ls C hP hD hS hL)
end zHeap
section zCalls
variable {E : zE} {y : zM} {d mc ms : Nat} {X : zXt} {F : zFin} {pc n : Nat} {L : List (Option Value)} {st : List Value} {ws : va_W} {cells slots : Nat}
variable {p : Program} {l : Launch} {e : Env} {R : Room} {s : State} {m : MethodId} {args : Array Value} {below : List Frame} {meth : Method} {c : Code} {A : Nat → Prop} {H : Heap} {locs : List Loc} {ls : Array Slot}
/-- behind a call: the callee's world wc (part of ws, the places isC) is replaced by what came back; the rest wr stays -/
theorem zJ_back {mc' ms' : Nat} {Qc : Option Value → va_W → Prop} {wc wr : va_W} {rest st0 : List Value} {a : Array Value} (C : zCx E y d mc ms X p R s m args meth c A) (hP : va_P E.2.2.1 E.2.1 ws H) (hD : va_D A ws) (hS : va_S A s.heap H locs) (hL : zLoc ls y.2.2.1 L)
    (isC isR : List Nat) (hC : isC.map (fun i => ws[i]?) = wc.map some) (hR : isR.map (fun i => ws[i]?) = wr.map some) (hnd : va_nd isR = true) (hdis : ∀ i ∈ isR, i ∉ isC)
    (hr : va_Run p l e R s m args below meth c H locs cells slots mc' ms' (F0 m pc ls st0) rest (zQ E (va_A wc H.size) Qc a) (va_A wc H.size))
    (k : ∀ (v : Option Value) (w1 : va_W), Qc v w1 → zJ E y d mc ms X F (pc + 3) L (v.toList ++ rest) (wr ++ w1) (cells + mc') (slots + ms')) : W p l e R s m args below meth c H locs cells slots (F below args s A) (F0 m pc ls st0) := by
  intro T hT Xs
  obtain ⟨v, st₀, t, T', L', h0, X', hL', e1, e2, ⟨⟨v2, w1, hv, hq, hP1, hK1, hD1⟩, hz, hk⟩, stp⟩ := hr T hT Xs
  cases hv
  rw [h0] at hz hk
  have hF := va_free (wc := wc) hD hS C.2.2.2.2.2.2.2.1 isC hC
  obtain ⟨hP2, hD2⟩ := va_join (wr := wr) (w1 := w1) hP hD isC isR hC hR hnd hdis (H1 := t.heap) (fun q h1 h2 => hk q h1 h2) hF hP1 hD1
  obtain ⟨t2, a1, b1⟩ := k v w1 hq p l e R s m args below meth c A T'.heap (locs ++ L') ls C (by rw [e1]; exact hP2) hD2
    ⟨Nat.le_trans hS.1 (by rw [e1]; exact hz), fun q h1 h2 => by rw [e1, hk q (Nat.lt_of_lt_of_le h1 hS.1) (fun z => h2 (hF q z))]; exact hS.2.1 q h1 h2, fun q hq => by
      rcases List.mem_append.mp hq with h | h
      · exact hS.2.2 q h
      · exact hF _ (hL' q h)⟩ hL T' rfl X'
  exact ⟨t2, stp t2 a1, b1⟩
/-- a callee: its words stand among ours -/
def zGood (E : zE) : Prop := GoodIn E.1 E.1
theorem zGood.cons (hG : zGood E) {yc : zM} (hc : Cond.code yc.1 yc.2.1 yc.2.2.1 yc.2.2.2 ∈ E.1) : GoodIn E.1 (.code yc.1 yc.2.1 yc.2.2.1 yc.2.2.2 :: E.1) := by
  intro w hw
  rcases List.mem_cons.mp hw with h | h
  · subst h
    exact hG _ hc
  · exact hG w h
theorem zPre {avs : List Value} {wc : va_W} {isC : List Nat} (C : zCx E y d mc ms X p R s m args meth c A) (hP : va_P E.2.2.1 E.2.1 ws H) (hD : va_D A ws) (hC : isC.map (fun i => ws[i]?) = wc.map some) (hn : va_nd isC = true) : PreS s H (va_Pc avs (fun U => U.heap.size = H.size ∧ va_P E.2.2.1 E.2.1 wc U.heap ∧ va_K E.2.2.1 E.2.1 E.2.2.2 U ∧ zXr U ∧ va_D (fun _ => True) wc)) avs := by
  refine ⟨fun a U g mk q => ?_, fun U hU hW => ?_⟩
  · obtain ⟨q0, q1, qP, qK, qA, qD⟩ := q
    exact ⟨q0, q1, qP, va_K.moved (u := U) (U := U.calling g mk a) (Vm.Alike.refl U.vm) qK, zXr.same (u := U) (U := U.calling g mk a) rfl qA, qD⟩
  · refine ⟨rfl, by rw [hU], ?_, va_K.moved hW.alike C.2.2.2.2.2.2.2.2.1, zXr.warm hW C.2.2.2.2.2.2.2.2.2.2.2.2.2.2.1, (hD.sub isC hn hC).weaken (fun _ _ _ _ => trivial)⟩
    rw [hU]
    intro k q hk
    have h1 : (isC.map (fun i => ws[i]?))[k]? = some (some q) := by rw [hC, List.getElem?_map, hk]; rfl
    rw [List.getElem?_map] at h1
    cases hi : isC[k]? with
    | none => rw [hi] at h1; cases h1
    | some i => rw [hi] at h1; exact hP i q (Option.some.inj h1)
/-- what a callee's name must be -/
def zNm (yc : zM) (k : Nat) : Prop := yc.1.cls ≠ "java/lang/invoke/MethodHandle" ∧ yc.1.cls ≠ "java/lang/invoke/VarHandle" ∧ (parseMethodDescriptor yc.1.desc).map (fun d => d.parameters.length) = some k
/-- a link to a callee, direct or in the nest -/
def zLn (E : zE) (own : String) (idx : Nat) (yc : zM) : Prop :=
  (Cond.methodLink own idx yc.1 ∈ E.1 ∨ ∃ host, Cond.methodLinkNest own idx yc.1 host ∈ lw_tbl) ∧ Cond.initialized yc.1.cls ∈ E.1 ∧ Cond.code yc.1 yc.2.1 yc.2.2.1 yc.2.2.2 ∈ E.1
end zCalls
