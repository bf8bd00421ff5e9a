theorem va_nd_of : ∀ (l : List Nat), l.Nodup → va_nd l = true
  | [], _ => rfl
  | a :: l, h => by
    rw [List.nodup_cons] at h
    rw [va_nd, va_nd_of l h.2, Bool.and_true]
    exact decide_eq_true h.1
theorem zAll (ws : va_W) : (List.range ws.length).map (fun i => ws[i]?) = ws.map some := by
  apply List.ext_getElem?
  intro i
  by_cases h : i < ws.length
  · simp [h]
  · simp [h]
theorem zAllnd (n : Nat) : va_nd (List.range n) = true := va_nd_of _ List.nodup_range
section zCalls2
variable {E : zE} {y : zM} {d mc ms : Nat} {X : zXt} {F : zFin} {pc n : Nat} {L : List (Option Value)} {st : List Value} {ws : va_W} {cells slots : Nat}
variable {idx d' mc' ms' : Nat} {yc : zM} {Qc : Option Value → va_W → Prop} {avs rest : List Value} {wc wr : va_W}
theorem zJ_callV {q0 ci b N : Nat} {fs : List Value} {T : u_T} (hG : zGood E) (hd : decode y.2.1 pc = .ok (.invokevirtual idx, 3)) (hn : pc + 3 = n) (hlk : zLn E y.1.cls idx yc) (hin : Cond.instanceMethod yc.1 ∈ E.1) (hsel : Cond.selects yc.1.cls yc.1 yc.1 ∈ E.1) (hnm : zNm yc avs.length)
    (he : ws[q0]? = some (b, .inr (ci, fs))) (hci : E.2.1[ci]? = some (yc.1.cls, T, N)) (hst : st = avs.reverse ++ .ref b :: rest) (hrest : (rest.map fun v => v.category).sum ≤ 8) (hd' : d' + 1 ≤ d) (hmx : yc.2.2.1 ≤ 17) (hmc : cells + mc' ≤ mc) (hms : slots + ms' ≤ ms)
    (isC isR : List Nat) (hC : isC.map (fun i => ws[i]?) = wc.map some) (hnC : va_nd isC = true) (hR : isR.map (fun i => ws[i]?) = wr.map some) (hnd : va_nd isR = true) (hdis : ∀ i ∈ isR, i ∉ isC)
    (hM : zC E yc d' mc' ms' (.ref b :: avs) Qc wc) (k : ∀ (v : Option Value) (w1 : va_W), Qc v w1 → zJ E y d mc ms X F n L (v.toList ++ rest) (wr ++ w1) (cells + mc') (slots + ms')) : zJ E y d mc ms X F pc L st ws cells slots := by
  subst hn
  subst hst
  intro p l e R s m args below meth c A H locs ls C hP hD hS hL
  have hts := C.2.2.2.2.2.1
  have hR1 : (zRm d' mc' ms').frames + 1 ≤ R.frames ∧ 8 + (yc.2.2.1 + 11) + (zRm d' mc' ms').locals ≤ R.locals := by
    have h1 := C.2.2.2.2.2.2.2.2.2.1
    have h2 := C.2.2.2.2.2.2.2.2.2.2.1
    show d' + 1 ≤ R.frames ∧ 8 + (yc.2.2.1 + 11) + 36 * d' ≤ R.locals
    omega
  have hf : cells + mc' ≤ R.cells ∧ slots + ms' ≤ R.slots := ⟨Nat.le_trans hmc C.2.2.2.2.2.2.2.2.2.2.2.1, Nat.le_trans hms C.2.2.2.2.2.2.2.2.2.2.2.2.1⟩
  have hpre := zPre (avs := .ref b :: avs) C hP hD hC hnC
  have hrv := va_recv C.2.2.2.2.2.2.2.2.1 hP hci he
  obtain ⟨hl, hi, hc⟩ := hlk
  refine zJ_back (a := (Value.ref b :: avs).toArray) C hP hD hS hL isC isR hC hR hnd hdis ?_ k
  rcases hl with hl | ⟨host, hl⟩
  · exact va_runV ⟨C.1, C.2.1, C.2.2.1, C.2.2.2.2.2.2.1, hts⟩ (hM l H.size) ⟨callB_of (ws' := E.1) avs.length hts (hG.cons hc) rfl rfl rfl (hts _ hi) (hts _ hl) hnm hR1, hts _ hin, hts _ hsel⟩ ⟨hpre.1, hrv, hpre.2⟩ rfl rfl hL.1.1 rfl (lv_room hrest) hd hf
  · exact va_runVN ⟨C.1, C.2.1, C.2.2.1, C.2.2.2.2.2.2.1, hts⟩ (hM l H.size) ⟨va_cnB (ws' := E.1) avs.length hts (hG.cons hc) rfl rfl rfl (C.2.2.2.2.2.2.2.2.2.2.2.2.2.2.1.2 _ hl rfl) (hts _ hi) hnm hR1, hts _ hin, hts _ hsel⟩ ⟨hpre.1, hrv, hpre.2⟩ rfl rfl hL.1.1 rfl (lv_room hrest) hd hf
theorem zJ_callS (hG : zGood E) (hd : decode y.2.1 pc = .ok (.invokestatic idx, 3)) (hn : pc + 3 = n) (hlk : zLn E y.1.cls idx yc) (hin : Cond.static yc.1 ∈ E.1) (hnm : zNm yc avs.length)
    (hst : st = avs.reverse ++ rest) (hrest : (rest.map fun v => v.category).sum ≤ 8) (hd' : d' + 1 ≤ d) (hmx : yc.2.2.1 ≤ 17) (hmc : cells + mc' ≤ mc) (hms : slots + ms' ≤ ms)
    (isC isR : List Nat) (hC : isC.map (fun i => ws[i]?) = wc.map some) (hnC : va_nd isC = true) (hR : isR.map (fun i => ws[i]?) = wr.map some) (hnd : va_nd isR = true) (hdis : ∀ i ∈ isR, i ∉ isC)
    (hM : zC E yc d' mc' ms' avs Qc wc) (k : ∀ (v : Option Value) (w1 : va_W), Qc v w1 → zJ E y d mc ms X F n L (v.toList ++ rest) (wr ++ w1) (cells + mc') (slots + ms')) : zJ E y d mc ms X F pc L st ws cells slots := by
  subst hn
  subst hst
  intro p l e R s m args below meth c A H locs ls C hP hD hS hL
  have hts := C.2.2.2.2.2.1
  have hR1 : (zRm d' mc' ms').frames + 1 ≤ R.frames ∧ 8 + (yc.2.2.1 + 11) + (zRm d' mc' ms').locals ≤ R.locals := by
    have h1 := C.2.2.2.2.2.2.2.2.2.1
    have h2 := C.2.2.2.2.2.2.2.2.2.2.1
    show d' + 1 ≤ R.frames ∧ 8 + (yc.2.2.1 + 11) + 36 * d' ≤ R.locals
    omega
  have hf : cells + mc' ≤ R.cells ∧ slots + ms' ≤ R.slots := ⟨Nat.le_trans hmc C.2.2.2.2.2.2.2.2.2.2.2.1, Nat.le_trans hms C.2.2.2.2.2.2.2.2.2.2.2.2.1⟩
  have hpre := zPre (avs := avs) C hP hD hC hnC
  obtain ⟨hl, hi, hc⟩ := hlk
  refine zJ_back (a := avs.toArray) C hP hD hS hL isC isR hC hR hnd hdis ?_ k
  rcases hl with hl | ⟨host, hl⟩
  · exact va_runS ⟨C.1, C.2.1, C.2.2.1, C.2.2.2.2.2.2.1, hts⟩ (hM l H.size) ⟨callB_of (ws' := E.1) avs.length hts (hG.cons hc) rfl rfl rfl (hts _ hi) (hts _ hl) hnm hR1, hts _ hin⟩ hpre rfl rfl hL.1.1 rfl (lv_room hrest) hd hf
  · exact va_runSN ⟨C.1, C.2.1, C.2.2.1, C.2.2.2.2.2.2.1, hts⟩ (hM l H.size) ⟨va_cnB (ws' := E.1) avs.length hts (hG.cons hc) rfl rfl rfl (C.2.2.2.2.2.2.2.2.2.2.2.2.2.2.1.2 _ hl rfl) (hts _ hi) hnm hR1, hts _ hin, trivial⟩ hpre rfl rfl hL.1.1 rfl (lv_room hrest) hd hf
theorem zJ_callI {b : Nat} (hG : zGood E) (hd : decode y.2.1 pc = .ok (.invokespecial idx, 3)) (hn : pc + 3 = n) (hlk : zLn E y.1.cls idx yc) (hin : Cond.instanceMethod yc.1 ∈ E.1) (hnm : zNm yc avs.length) (hy1 : yc.1.name = "<init>") (hret : yc.2.2.2 = none)
    (hst : st = avs.reverse ++ .ref b :: rest) (hrest : (rest.map fun v => v.category).sum ≤ 8) (hd' : d' + 1 ≤ d) (hmx : yc.2.2.1 ≤ 17) (hmc : cells + mc' ≤ mc) (hms : slots + ms' ≤ ms)
    (isC isR : List Nat) (hC : isC.map (fun i => ws[i]?) = wc.map some) (hnC : va_nd isC = true) (hR : isR.map (fun i => ws[i]?) = wr.map some) (hnd : va_nd isR = true) (hdis : ∀ i ∈ isR, i ∉ isC)
    (hM : zC E yc d' mc' ms' (.ref b :: avs) Qc wc) (k : ∀ (v : Option Value) (w1 : va_W), Qc v w1 → zJ E y d mc ms X F n L (v.toList ++ rest) (wr ++ w1) (cells + mc') (slots + ms')) : zJ E y d mc ms X F pc L st ws cells slots := by
  subst hn
  subst hst
  intro p l e R s m args below meth c A H locs ls C hP hD hS hL
  have hts := C.2.2.2.2.2.1
  have hR1 : (zRm d' mc' ms').frames + 1 ≤ R.frames ∧ 8 + (yc.2.2.1 + 11) + (zRm d' mc' ms').locals ≤ R.locals := by
    have h1 := C.2.2.2.2.2.2.2.2.2.1
    have h2 := C.2.2.2.2.2.2.2.2.2.2.1
    show d' + 1 ≤ R.frames ∧ 8 + (yc.2.2.1 + 11) + 36 * d' ≤ R.locals
    omega
  have hf : cells + mc' ≤ R.cells ∧ slots + ms' ≤ R.slots := ⟨Nat.le_trans hmc C.2.2.2.2.2.2.2.2.2.2.2.1, Nat.le_trans hms C.2.2.2.2.2.2.2.2.2.2.2.2.1⟩
  have hpre := zPre (avs := .ref b :: avs) C hP hD hC hnC
  obtain ⟨hl, hi, hc⟩ := hlk
  have hM := hM l H.size
  have hgd := hG.cons hc
  rw [hret] at hM hgd
  refine zJ_back (a := (Value.ref b :: avs).toArray) C hP hD hS hL isC isR hC hR hnd hdis ?_ k
  rcases hl with hl | ⟨host, hl⟩
  · exact va_runI ⟨C.1, C.2.1, C.2.2.1, C.2.2.2.2.2.2.1, hts⟩ hM ⟨callB_of (ws' := E.1) avs.length hts hgd rfl rfl rfl (hts _ hi) (hts _ hl) hnm hR1, hy1, hts _ hin⟩ hpre rfl rfl hL.1.1 rfl (lv_room hrest) hd hf
  · exact va_runIN ⟨C.1, C.2.1, C.2.2.1, C.2.2.2.2.2.2.1, hts⟩ hM ⟨va_cnB (ws' := E.1) avs.length hts hgd rfl rfl rfl (C.2.2.2.2.2.2.2.2.2.2.2.2.2.2.1.2 _ hl rfl) (hts _ hi) hnm hR1, hy1, hts _ hin⟩ hpre rfl rfl hL.1.1 rfl (lv_room hrest) hd hf
theorem zJ_max {x z : Int32} (hd : decode y.2.1 pc = .ok (.invokestatic idx, 3)) (hn : pc + 3 = n) (hl : Cond.methodLink y.1.cls idx Lib.Math.max.name ∈ E.1) (hs : Cond.static Lib.Math.max.name ∈ E.1) (hi : Cond.initialized "java/lang/Math" ∈ E.1) (hc : Cond.code Lib.Math.max.name Lib.Math.max.code 2 (some .int) ∈ E.1) (hd' : 1 ≤ d) (hrest : (st.map fun v => v.category).sum ≤ 8) (hmc : cells ≤ mc) (hms : slots ≤ ms) (k : zJ E y d mc ms X F n L (.int (if x < z then z else x) :: st) ws cells slots) : zJ E y d mc ms X F pc L (.int z :: .int x :: st) ws cells slots := by
  subst hn
  intro p l e R s m args below meth c A H locs ls C hP hD hS hL
  have hts := C.2.2.2.2.2.1
  have h1 := C.2.2.2.2.2.2.2.2.2.1
  have h2 := C.2.2.2.2.2.2.2.2.2.2.1
  exact va_mmax C.1 C.2.1 (C.2.2.1.trans hL.1.1.symm) C.2.2.2.2.2.2.1 (hts _ hl) (hts _ hs) (hts _ hi) (hts _ hc) (by omega) (by omega) (Nat.le_trans hmc C.2.2.2.2.2.2.2.2.2.2.2.1) (Nat.le_trans hms C.2.2.2.2.2.2.2.2.2.2.2.2.1) hd (k p l e R s m args below meth c A H locs ls C hP hD hS hL)
theorem zJ_min {x z : Int32} (hd : decode y.2.1 pc = .ok (.invokestatic idx, 3)) (hn : pc + 3 = n) (hl : Cond.methodLink y.1.cls idx Lib.Math.min.name ∈ E.1) (hs : Cond.static Lib.Math.min.name ∈ E.1) (hi : Cond.initialized "java/lang/Math" ∈ E.1) (hc : Cond.code Lib.Math.min.name Lib.Math.min.code 2 (some .int) ∈ E.1) (hd' : 1 ≤ d) (hrest : (st.map fun v => v.category).sum ≤ 8) (hmc : cells ≤ mc) (hms : slots ≤ ms) (k : zJ E y d mc ms X F n L (.int (if z < x then z else x) :: st) ws cells slots) : zJ E y d mc ms X F pc L (.int z :: .int x :: st) ws cells slots := by
  subst hn
  intro p l e R s m args below meth c A H locs ls C hP hD hS hL
  have hts := C.2.2.2.2.2.1
  have h1 := C.2.2.2.2.2.2.2.2.2.1
  have h2 := C.2.2.2.2.2.2.2.2.2.2.1
  exact va_mmin C.1 C.2.1 (C.2.2.1.trans hL.1.1.symm) C.2.2.2.2.2.2.1 (hts _ hl) (hts _ hs) (hts _ hi) (hts _ hc) (by omega) (by omega) (Nat.le_trans hmc C.2.2.2.2.2.2.2.2.2.2.2.1) (Nat.le_trans hms C.2.2.2.2.2.2.2.2.2.2.2.2.1) hd (k p l e R s m args below meth c A H locs ls C hP hD hS hL)
theorem zJ_objInit {a : Nat} (hd : decode y.2.1 pc = .ok (.invokespecial idx, 3)) (hn : pc + 3 = n) (hl : Cond.methodLink y.1.cls idx Lib.objectInit ∈ E.1) (hi : Cond.instanceMethod Lib.objectInit ∈ E.1) (hc : Cond.code Lib.objectInit ⟨#[0xb1]⟩ 1 none ∈ E.1) (hd' : 1 ≤ d) (hrest : (st.map fun v => v.category).sum ≤ 8) (k : zJ E y d mc ms X F n L st ws cells slots) : zJ E y d mc ms X F pc L (.ref a :: st) ws cells slots := by
  subst hn
  intro p l e R s m args below meth c A H locs ls C hP hD hS hL
  have hts := C.2.2.2.2.2.1
  have h1 := C.2.2.2.2.2.2.2.2.2.1
  have h2 := C.2.2.2.2.2.2.2.2.2.2.1
  have h3 := lv_room (m := m) (pc := pc) (ls := ls) (rest := .ref a :: st) hrest
  exact W.objInit (a := a) (rest := st) C.1 C.2.1 C.2.2.2.2.2.2.1 (hts _ hl) (hts _ hi) (hts _ hc) rfl (hL.1.1.trans C.2.2.1.symm) rfl hd (by omega) (by omega) (k p l e R s m args below meth c A H locs ls C hP hD hS hL)
theorem zJ_new {ci N : Nat} {C : String} {T : u_T} {ty0 : Nat → FieldType} {fs : List Value} (hd : decode y.2.1 pc = .ok (.new idx, 3)) (hn : pc + 3 = n) (hc : E.2.1[ci]? = some (C, T, N)) (hu : ∀ w ∈ u_ws C T N, w ∈ E.1) (ht : zTy T N ty0) (hcl : Cond.classLink y.1.cls idx C ∈ E.1) (hinst : Cond.instantiable C N ∈ E.1) (hini : Cond.initialized C ∈ E.1) (hfs : ∀ j, j < N → defaultValue (ty0 j) = vp_V fs j) (hmc : cells + 1 ≤ mc) (hms : slots + N ≤ ms) (k : ∀ q : Nat, zJ E y d mc ms X F n L (.ref q :: st) (ws ++ [(q, .inr (ci, fs))]) (cells + 1) (slots + N)) : zJ E y d mc ms X F pc L st ws cells slots := by
  subst hn
  intro p l e R s m args below meth c A H locs ls C' hP hD hS hL
  have hts := C'.2.2.2.2.2.1
  exact va_new C'.1 C'.2.1 hts hu ty0 ht.1 C'.2.2.2.2.2.2.1 (hts _ hcl) (hts _ hinst) (hts _ hini) C'.2.2.2.2.2.2.2.2.1 hP hD hS C'.2.2.2.2.2.2.2.1 hc hfs (Nat.le_trans hmc C'.2.2.2.2.2.2.2.2.2.2.2.1) (Nat.le_trans hms C'.2.2.2.2.2.2.2.2.2.2.2.2.1) hd (fun q H1 hP1 hD1 hS1 => k q p l e R s m args below meth c A H1 locs ls C' hP1 hD1 hS1 hL)
end zCalls2
theorem zJ_ws {E : zE} {y : zM} {d mc ms : Nat} {X : zXt} {F : zFin} {pc : Nat} {L : List (Option Value)} {st : List Value} {ws ws' : va_W} {cells slots : Nat} (h : ws = ws') (k : zJ E y d mc ms X F pc L st ws' cells slots) : zJ E y d mc ms X F pc L st ws cells slots := h ▸ k
theorem zbufE (q0 q1 q2 q3 : Nat) : va_up (va_up (va_up (va_up (fun _ => none) 0 (some q0)) 1 (some q1)) 2 (some q2)) 3 (some q3) = fun j => ([q0, q1, q2, q3] : List Nat)[j]? := by
  funext j
  unfold va_up
  match j with
  | 0 => rfl
  | 1 => rfl
  | 2 => rfl
  | 3 => rfl
  | j + 4 => simp
theorem zC.enterL {E : zE} {y : zM} {d mc ms : Nat} {L : List (Option Value)} {ws : va_W} {avs : List Value} {Q : Option Value → va_W → Prop} (hy : plainName y.1.cls = true) (hc : (avs.all fun v => v.category == 1) = true) (hn : avs.length ≤ y.2.2.1) (hL : zent avs y.2.2.1 = L) (k : zJ E y d mc ms zTr (zMQ E mc ms Q) 0 L [] ws 0 0) : zC E y d mc ms avs Q ws := by
  subst hL
  exact zC.enter hy (fun v hv => by simpa using (List.all_eq_true.mp hc) v hv) hn k
theorem zJ_iincC {E : zE} {y : zM} {d mc ms : Nat} {X : zXt} {F : zFin} {pc n : Nat} {L : List (Option Value)} {st : List Value} {ws : va_W} {cells slots : Nat} {j : Nat} {w : Int} {x v x' : Int32} (hd : decode y.2.1 pc = .ok (.iinc j w, 3)) (hn : pc + 3 = n) (hl : L[j]? = some (some (.int x))) (hv : Int32.ofInt w = v) (hj : j < y.2.2.1) (hx : x + v = x') (k : zJ E y d mc ms X F n (L.set j (some (.int x'))) st ws cells slots) : zJ E y d mc ms X F pc L st ws cells slots := by
  subst hx; exact zJ_iinc hd hn hl hv hj k
def zclampM (x : Int32) : Int32 := if 4 ≤ x then (if x ≤ 31 then x else 31) else 4
