/-! The judgement zJ: the kit's W with all that is the same at every row put away (machine, code, words, room, frame, locals); the rules, one an instruction. -/
abbrev zM : Type := MethodName × ByteArray × Nat × Option FieldType
abbrev zE : Type := List Cond × List vw_C × va_G × List (ClassId × FieldType)
abbrev zXt : Type := Room → Array Value → State → (Nat → Prop) → Prop
abbrev zFin : Type := List Frame → Array Value → State → (Nat → Prop) → State → Prop
def zl : Nat → List (Option Value) → List (Nat × Value)
  | _, [] => []
  | i, none :: r => zl (i + 1) r
  | i, some v :: r => (i, v) :: zl (i + 1) r
theorem mem_zl : ∀ (L : List (Option Value)) (k : Nat) (q : Nat × Value), q ∈ zl k L ↔ ∃ j, L[j]? = some (some q.2) ∧ q.1 = k + j
  | [], k, q => by simp [zl]
  | none :: r, k, q => by
    rw [zl, mem_zl r (k + 1) q]
    constructor
    · rintro ⟨j, h1, h2⟩
      exact ⟨j + 1, by simpa using h1, by omega⟩
    · rintro ⟨j, h1, h2⟩
      cases j with
      | zero => simp at h1
      | succ j => exact ⟨j, by simpa using h1, by omega⟩
  | some v :: r, k, q => by
    rw [zl, List.mem_cons, mem_zl r (k + 1) q]
    constructor
    · rintro (h | ⟨j, h1, h2⟩)
      · subst h
        exact ⟨0, by simp, by simp⟩
      · exact ⟨j + 1, by simpa using h1, by omega⟩
    · rintro ⟨j, h1, h2⟩
      cases j with
      | zero =>
        left
        simp at h1
        obtain ⟨a, b⟩ := q
        simp at h1 h2 ⊢
        exact ⟨h2, h1.symm⟩
      | succ j => exact Or.inr ⟨j, by simpa using h1, by omega⟩
def zLoc (ls : Array Slot) (n : Nat) (L : List (Option Value)) : Prop := lv_has ls n (zl 0 L) ∧ ∀ w, some w ∈ L → w.category = 1
theorem zLoc.get {ls : Array Slot} {n : Nat} {L : List (Option Value)} (h : zLoc ls n L) {i : Nat} {v : Value} (hi : L[i]? = some (some v)) : ls[i]? = some (.val v) :=
  h.1.2.2 (i, v) ((mem_zl L 0 (i, v)).mpr ⟨i, hi, by simp⟩)
theorem zLoc.put {ls : Array Slot} {n i : Nat} {v : Value} {L : List (Option Value)} (hL : ∀ w, some w ∈ L → w.category = 1) (hv : v.category = 1) (h : lv_has ls n ((i, v) :: (zl 0 L).filter (fun q => !(q.1 == i) && !(q.1 + 1 == i && q.2.category == 2)))) : zLoc ls n (L.set i (some v)) := by
  refine ⟨⟨h.1, h.2.1, fun q hq => ?_⟩, fun w hw => ?_⟩
  · obtain ⟨j, h1, h2⟩ := (mem_zl _ 0 q).mp hq
    simp at h2
    by_cases hj : j = i
    · subst hj
      have hlt : j < L.length := by
        have := (List.getElem?_eq_some_iff.mp h1).1
        simpa using this
      rw [List.getElem?_set_self hlt] at h1
      have e : q.2 = v := by simpa using h1.symm
      have : q = (j, v) := by rw [← e, ← h2]
      rw [this]
      exact h.2.2 (j, v) List.mem_cons_self
    · rw [List.getElem?_set_ne (Ne.symm hj)] at h1
      have hc := hL q.2 (List.mem_of_getElem? h1)
      refine h.2.2 q (List.mem_cons_of_mem _ (List.mem_filter.mpr ⟨(mem_zl L 0 q).mpr ⟨j, h1, by simpa using h2⟩, ?_⟩))
      rw [hc, h2]
      simp [hj]
  · rcases List.mem_or_eq_of_mem_set hw with h1 | h1
    · exact hL w h1
    · cases h1
      exact hv
def zent (vs : List Value) (n : Nat) : List (Option Value) := vs.map some ++ List.replicate (n - vs.length) none
theorem zl_map_some : ∀ (vs : List Value) (k : Nat) (m : Nat), (∀ v ∈ vs, v.category = 1) → zl k (vs.map some ++ List.replicate m none) = lv_args k vs
  | [], k, m, _ => by
    simp only [List.map_nil, List.nil_append, lv_args]
    induction m generalizing k with
    | zero => rfl
    | succ m ih => rw [List.replicate_succ, zl]; exact ih (k + 1)
  | v :: vs, k, m, h => by
    have hv := h v List.mem_cons_self
    rw [List.map_cons, List.cons_append, zl, lv_args, if_neg (by omega), zl_map_some vs (k + 1) m (fun w hw => h w (List.mem_cons_of_mem _ hw))]
theorem lg_sl_len : ∀ (vs : List Value), (∀ v ∈ vs, v.category = 1) → (lg_sl vs).length = vs.length
  | [], _ => rfl
  | v :: vs, h => by
    have hv := h v List.mem_cons_self
    have := lg_sl_len vs (fun w hw => h w (List.mem_cons_of_mem _ hw))
    simp only [lg_sl, List.flatMap_cons, List.length_append, List.length_cons] at this ⊢
    rw [if_neg (by omega)]
    simp only [List.length_cons, List.length_nil]
    omega
theorem zLoc.entry (vs : List Value) {n : Nat} (hc : ∀ v ∈ vs, v.category = 1) (h : vs.length ≤ n) : zLoc ((lg_sl vs ++ List.replicate (n - (lg_sl vs).length) Slot.unset).toArray) n (zent vs n) := by
  refine ⟨?_, fun w hw => ?_⟩
  · rw [zent, zl_map_some vs 0 _ hc]
    exact lv_entry vs (by rw [lg_sl_len vs hc]; exact h)
  · rcases List.mem_append.mp hw with h1 | h1
    · obtain ⟨v, h2, h3⟩ := List.mem_map.mp h1
      cases h3
      exact hc w h2
    · have := List.eq_of_mem_replicate h1
      cases this
def zisN (w : Cond) : Bool := match w with
  | .fieldLinkNest .. => true
  | .methodLinkNest .. => true
  | _ => false
/-- what isn't a word of the tables that a call may carry along: the array class of Buffer, the links in the nest -/
def zXr (U : State) : Prop := va_AO "EpochDirectory$Buffer" U ∧ ∀ w ∈ lw_tbl, zisN w = true → va_Nw w U
theorem zXr.warm {s U : State} (hW : s.WarmedH U.vm) (h : zXr s) : zXr U := by
  refine ⟨va_AO.moved hW.alike h.1, fun w hw hn => ?_⟩
  have h1 := h.2 w hw hn
  unfold zisN at hn
  split at hn
  · exact va_Nw.warmF hW h1
  · exact va_Nw.warmM hW h1
  · cases hn
theorem zXr.same {u U : State} (hvm : u.vm = U.vm) (h : zXr u) : zXr U := by
  refine ⟨va_AO.moved (hvm ▸ Vm.Alike.refl u.vm) h.1, fun w hw hn => ?_⟩
  have h1 := h.2 w hw hn
  unfold zisN at hn
  split at hn
  · exact va_Nw.same rfl hvm h1
  · exact va_Nw.same rfl hvm h1
  · cases hn
def zCx (E : zE) (y : zM) (d mc ms : Nat) (X : zXt) (p : Program) (R : Room) (s : State) (m : MethodId) (args : Array Value) (meth : Method) (c : Code) (A : Nat → Prop) : Prop :=
  p.tables.exec = Jvm.exec ∧ c.code = y.2.1 ∧ c.maxLocals = y.2.2.1 ∧ meth.sig.returnType = y.2.2.2 ∧ meth.locks = false ∧ (∀ w ∈ E.1, w.before args s = true) ∧ s.vm.findClass y.1.cls = some m.cls ∧ (∀ q, s.heap.size ≤ q → A q) ∧ va_K E.2.2.1 E.2.1 E.2.2.2 s ∧ d ≤ R.frames ∧ 36 * d ≤ R.locals ∧ mc ≤ R.cells ∧ ms ≤ R.slots ∧ (y.1.name = "<init>" → meth.name = "<init>") ∧ zXr s ∧ X R args s A
def zJ (E : zE) (y : zM) (d mc ms : Nat) (X : zXt) (F : zFin) (pc : Nat) (L : List (Option Value)) (st : List Value) (ws : va_W) (cells slots : Nat) : Prop :=
  ∀ (p : Program) (l : Launch) (e : Env) (R : Room) (s : State) (m : MethodId) (args : Array Value) (below : List Frame) (meth : Method) (c : Code) (A : Nat → Prop) (H : Heap) (locs : List Loc) (ls : Array Slot),
    zCx E y d mc ms X p R s m args meth c A → va_P E.2.2.1 E.2.1 ws H → va_D A ws → va_S A s.heap H locs → zLoc ls y.2.2.1 L →
    W p l e R s m args below meth c H locs cells slots (F below args s A) (F0 m pc ls st)
/-- a method's end -/
def zQ (E : zE) (A : Nat → Prop) (Q : Option Value → va_W → Prop) : Array Value → State → Outcome → State → Prop := fun _ st oc t =>
  (∃ (v : Option Value) (ws : va_W), oc = .returned v ∧ Q v ws ∧ va_P E.2.2.1 E.2.1 ws t.heap ∧ va_K E.2.2.1 E.2.1 E.2.2.2 t ∧ va_D A ws) ∧ va_F A st t
def zMQ (E : zE) (mc ms : Nat) (Q : Option Value → va_W → Prop) : zFin := fun below args s A => MQ below (zQ E A Q) args s mc ms A
def zRm (d mc ms : Nat) : Room := { frames := d, cells := mc, slots := ms, locals := 36 * d }
/-- a method's contract at a world: it returns, with Q -/
def zC (E : zE) (y : zM) (d mc ms : Nat) (avs : List Value) (Q : Option Value → va_W → Prop) (ws : va_W) : Prop :=
  ∀ (l : Launch) (sz : Nat), Met l y.1 (.code y.1 y.2.1 y.2.2.1 y.2.2.2 :: E.1) (zRm d mc ms) (va_Pc avs (fun U => U.heap.size = sz ∧ va_P E.2.2.1 E.2.1 ws U.heap ∧ va_K E.2.2.1 E.2.1 E.2.2.2 U ∧ zXr U ∧ va_D (fun _ => True) ws)) (zQ E (va_A ws sz) Q) mc ms (va_A ws sz)
def zTr : zXt := fun _ _ _ _ => True
section zRules
variable {E : zE} {y : zM} {d mc ms : Nat} {X : zXt} {F : zFin} {pc n : Nat} {L : List (Option Value)} {st : List Value} {ws : va_W} {cells slots : Nat}
theorem zC.enter {avs : List Value} {Q : Option Value → va_W → Prop} (hy : plainName y.1.cls = true) (hc : ∀ v ∈ avs, v.category = 1) (hn : avs.length ≤ y.2.2.1) (k : zJ E y d mc ms zTr (zMQ E mc ms Q) 0 (zent avs y.2.2.1) [] ws 0 0) : zC E y d mc ms avs Q ws := by
  intro l sz
  refine Met.ofW (cc := y.2.1) (maxL := y.2.2.1) (ret := y.2.2.2) hy rfl ?_
  intro p e s m args below meth c s₁ B hml hv
  obtain ⟨rfl, hsz, hP, hK, hAO, hD0⟩ := hv
  subst hsz
  rw [lg_entry_eq]
  have hts := atoms_spec (ws := .code y.1 y.2.1 y.2.2.1 y.2.2.2 :: E.1) B.pre
  exact k p l e _ s m _ below meth c (va_A ws s.heap.size) s.heap [] _ ⟨B.exec, B.bytes, hml, B.returns, B.notSynchronized, fun w hw => hts w (List.mem_cons_of_mem _ hw), findClass_of_methodNamed B.named, fun q h => Or.inr h, hK, Nat.le_refl _, Nat.le_refl _, Nat.le_refl _, Nat.le_refl _, fun hin => (name_of_methodNamed B.named B.method).1.trans hin, hAO, trivial⟩ hP hD0.self va_S.rf (zLoc.entry avs hc hn)
theorem zJ_iconst {z : Int} {v : Int32} (hd : decode y.2.1 pc = .ok (.iconst z, 1)) (hn : pc + 1 = n) (hv : Int32.ofInt z = v) (k : zJ E y d mc ms X F n L (.int v :: st) ws cells slots) : zJ E y d mc ms X F pc L st ws cells slots := by
  subst hn
  intro p l e R s m args below meth c A H locs ls C hP hD hS hL
  exact lv_iconst C.1 C.2.1 hd hv (k p l e R s m args below meth c A H locs ls C hP hD hS hL)
theorem zJ_bipush {z : Int} {v : Int32} (hd : decode y.2.1 pc = .ok (.bipush z, 2)) (hn : pc + 2 = n) (hv : (Int8.ofInt z).toInt32 = v) (k : zJ E y d mc ms X F n L (.int v :: st) ws cells slots) : zJ E y d mc ms X F pc L st ws cells slots := by
  subst hn
  intro p l e R s m args below meth c A H locs ls C hP hD hS hL
  exact lv_bipush C.1 C.2.1 hd hv (k p l e R s m args below meth c A H locs ls C hP hD hS hL)
theorem zJ_sipush {z : Int} {v : Int32} (hd : decode y.2.1 pc = .ok (.sipush z, 3)) (hn : pc + 3 = n) (hv : (Int16.ofInt z).toInt32 = v) (k : zJ E y d mc ms X F n L (.int v :: st) ws cells slots) : zJ E y d mc ms X F pc L st ws cells slots := by
  subst hn
  intro p l e R s m args below meth c A H locs ls C hP hD hS hL
  exact lv_sipush C.1 C.2.1 hd hv (k p l e R s m args below meth c A H locs ls C hP hD hS hL)
theorem zJ_ldc {i : Nat} {v : Int32} (hd : decode y.2.1 pc = .ok (.ldc i, 2)) (hn : pc + 2 = n) (hw : Jvm.Cond.constant y.1.cls i v ∈ E.1) (k : zJ E y d mc ms X F n L (.int v :: st) ws cells slots) : zJ E y d mc ms X F pc L st ws cells slots := by
  subst hn
  intro p l e R s m args below meth c A H locs ls C hP hD hS hL
  exact lv_ldc C.1 C.2.1 C.2.2.2.2.2.2.1 (C.2.2.2.2.2.1 _ hw) hd (k p l e R s m args below meth c A H locs ls C hP hD hS hL)
theorem zJ_iload_n {i : Fin 4} {j : Nat} {x : Int32} (hd : decode y.2.1 pc = .ok (.iload_n i, 1)) (hn : pc + 1 = n) (hi : (i : Nat) = j) (hl : L[j]? = some (some (.int x))) (k : zJ E y d mc ms X F n L (.int x :: st) ws cells slots) : zJ E y d mc ms X F pc L st ws cells slots := by
  subst hn
  intro p l e R s m args below meth c A H locs ls C hP hD hS hL
  exact lv_iload_n C.1 C.2.1 hd hi (hL.get hl) (k p l e R s m args below meth c A H locs ls C hP hD hS hL)
theorem zJ_iload {j : Nat} {x : Int32} (hd : decode y.2.1 pc = .ok (.iload j, 2)) (hn : pc + 2 = n) (hl : L[j]? = some (some (.int x))) (k : zJ E y d mc ms X F n L (.int x :: st) ws cells slots) : zJ E y d mc ms X F pc L st ws cells slots := by
  subst hn
  intro p l e R s m args below meth c A H locs ls C hP hD hS hL
  exact lv_iload C.1 C.2.1 hd (hL.get hl) (k p l e R s m args below meth c A H locs ls C hP hD hS hL)
theorem zJ_aload_n {i : Fin 4} {j x : Nat} (hd : decode y.2.1 pc = .ok (.aload_n i, 1)) (hn : pc + 1 = n) (hi : (i : Nat) = j) (hl : L[j]? = some (some (.ref x))) (k : zJ E y d mc ms X F n L (.ref x :: st) ws cells slots) : zJ E y d mc ms X F pc L st ws cells slots := by
  subst hn
  intro p l e R s m args below meth c A H locs ls C hP hD hS hL
  exact lv_aload_n C.1 C.2.1 hd hi (hL.get hl) (k p l e R s m args below meth c A H locs ls C hP hD hS hL)
theorem zJ_aload {j x : Nat} (hd : decode y.2.1 pc = .ok (.aload j, 2)) (hn : pc + 2 = n) (hl : L[j]? = some (some (.ref x))) (k : zJ E y d mc ms X F n L (.ref x :: st) ws cells slots) : zJ E y d mc ms X F pc L st ws cells slots := by
  subst hn
  intro p l e R s m args below meth c A H locs ls C hP hD hS hL
  exact lv_aload C.1 C.2.1 hd (hL.get hl) (k p l e R s m args below meth c A H locs ls C hP hD hS hL)
theorem zJ_aload_nN {i : Fin 4} {j : Nat} (hd : decode y.2.1 pc = .ok (.aload_n i, 1)) (hn : pc + 1 = n) (hi : (i : Nat) = j) (hl : L[j]? = some (some .null)) (k : zJ E y d mc ms X F n L (.null :: st) ws cells slots) : zJ E y d mc ms X F pc L st ws cells slots := by
  subst hn
  intro p l e R s m args below meth c A H locs ls C hP hD hS hL
  exact lv_aload_nN C.1 C.2.1 hd hi (hL.get hl) (k p l e R s m args below meth c A H locs ls C hP hD hS hL)
theorem zJ_aloadN {j : Nat} (hd : decode y.2.1 pc = .ok (.aload j, 2)) (hn : pc + 2 = n) (hl : L[j]? = some (some .null)) (k : zJ E y d mc ms X F n L (.null :: st) ws cells slots) : zJ E y d mc ms X F pc L st ws cells slots := by
  subst hn
  intro p l e R s m args below meth c A H locs ls C hP hD hS hL
  exact lv_aloadN C.1 C.2.1 hd (hL.get hl) (k p l e R s m args below meth c A H locs ls C hP hD hS hL)
theorem zJ_istore_n {i : Fin 4} {j : Nat} {x : Int32} (hd : decode y.2.1 pc = .ok (.istore_n i, 1)) (hn : pc + 1 = n) (hi : (i : Nat) = j) (hj : j < y.2.2.1) (k : zJ E y d mc ms X F n (L.set j (some (.int x))) st ws cells slots) : zJ E y d mc ms X F pc L (.int x :: st) ws cells slots := by
  subst hn
  intro p l e R s m args below meth c A H locs ls C hP hD hS hL
  exact lv_istore_n C.1 C.2.1 hd hi hL.1 hj rfl (fun ls' h' => k p l e R s m args below meth c A H locs ls' C hP hD hS (zLoc.put hL.2 rfl h'))
theorem zJ_istore {j : Nat} {x : Int32} (hd : decode y.2.1 pc = .ok (.istore j, 2)) (hn : pc + 2 = n) (hj : j < y.2.2.1) (k : zJ E y d mc ms X F n (L.set j (some (.int x))) st ws cells slots) : zJ E y d mc ms X F pc L (.int x :: st) ws cells slots := by
  subst hn
  intro p l e R s m args below meth c A H locs ls C hP hD hS hL
  exact lv_istore C.1 C.2.1 hd hL.1 hj rfl (fun ls' h' => k p l e R s m args below meth c A H locs ls' C hP hD hS (zLoc.put hL.2 rfl h'))
theorem zJ_astore_n {i : Fin 4} {j x : Nat} (hd : decode y.2.1 pc = .ok (.astore_n i, 1)) (hn : pc + 1 = n) (hi : (i : Nat) = j) (hj : j < y.2.2.1) (k : zJ E y d mc ms X F n (L.set j (some (.ref x))) st ws cells slots) : zJ E y d mc ms X F pc L (.ref x :: st) ws cells slots := by
  subst hn
  intro p l e R s m args below meth c A H locs ls C hP hD hS hL
  exact lv_astore_n C.1 C.2.1 hd hi hL.1 hj rfl (fun ls' h' => k p l e R s m args below meth c A H locs ls' C hP hD hS (zLoc.put hL.2 rfl h'))
theorem zJ_astore {j x : Nat} (hd : decode y.2.1 pc = .ok (.astore j, 2)) (hn : pc + 2 = n) (hj : j < y.2.2.1) (k : zJ E y d mc ms X F n (L.set j (some (.ref x))) st ws cells slots) : zJ E y d mc ms X F pc L (.ref x :: st) ws cells slots := by
  subst hn
  intro p l e R s m args below meth c A H locs ls C hP hD hS hL
  exact lv_astore C.1 C.2.1 hd hL.1 hj rfl (fun ls' h' => k p l e R s m args below meth c A H locs ls' C hP hD hS (zLoc.put hL.2 rfl h'))
theorem zJ_astore_nN {i : Fin 4} {j : Nat} (hd : decode y.2.1 pc = .ok (.astore_n i, 1)) (hn : pc + 1 = n) (hi : (i : Nat) = j) (hj : j < y.2.2.1) (k : zJ E y d mc ms X F n (L.set j (some .null)) st ws cells slots) : zJ E y d mc ms X F pc L (.null :: st) ws cells slots := by
  subst hn
  intro p l e R s m args below meth c A H locs ls C hP hD hS hL
  exact lv_astore_nN C.1 C.2.1 hd hi hL.1 hj rfl (fun ls' h' => k p l e R s m args below meth c A H locs ls' C hP hD hS (zLoc.put hL.2 rfl h'))
theorem zJ_astoreN {j : Nat} (hd : decode y.2.1 pc = .ok (.astore j, 2)) (hn : pc + 2 = n) (hj : j < y.2.2.1) (k : zJ E y d mc ms X F n (L.set j (some .null)) st ws cells slots) : zJ E y d mc ms X F pc L (.null :: st) ws cells slots := by
  subst hn
  intro p l e R s m args below meth c A H locs ls C hP hD hS hL
  exact lv_astoreN C.1 C.2.1 hd hL.1 hj rfl (fun ls' h' => k p l e R s m args below meth c A H locs ls' C hP hD hS (zLoc.put hL.2 rfl h'))
theorem zJ_iinc {j : Nat} {z : Int} {x v : Int32} (hd : decode y.2.1 pc = .ok (.iinc j z, 3)) (hn : pc + 3 = n) (hl : L[j]? = some (some (.int x))) (hv : Int32.ofInt z = v) (hj : j < y.2.2.1) (k : zJ E y d mc ms X F n (L.set j (some (.int (x + v)))) st ws cells slots) : zJ E y d mc ms X F pc L st ws cells slots := by
  subst hn
  intro p l e R s m args below meth c A H locs ls C hP hD hS hL
  obtain ⟨i, hi⟩ := List.getElem?_of_mem ((mem_zl L 0 (j, .int x)).mpr ⟨j, hl, by simp⟩)
  exact lv_iinc C.1 C.2.1 hd hL.1 hi (by rw [hv]) hj rfl (fun ls' h' => k p l e R s m args below meth c A H locs ls' C hP hD hS (zLoc.put hL.2 rfl h'))
end zRules
