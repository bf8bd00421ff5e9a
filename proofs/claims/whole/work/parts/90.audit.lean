/-! included, consistent, follow -/
theorem Inv_w3 {M : zMem} (h : Inv M) (o rS rE : Nat → Int32) : Inv (w3 M 41 o rS rE) := ⟨h.1, h.2.1, h.2.2.1, h.2.2.2.1, h.2.2.2.2.1, h.2.2.2.2.2.1, h.2.2.2.2.2.2⟩
theorem Inv_w3b {M : zMem} (h : Inv M) (o rS rE : Nat → Int32) : Inv (w3 M 24 o rS rE) := ⟨h.1, h.2.1, h.2.2.1, h.2.2.2.1, h.2.2.2.2.1, h.2.2.2.2.2.1, h.2.2.2.2.2.2⟩
theorem Inv_v4 {M : zMem} (h : Inv M) {o : Nat → Int32} (a b c : Nat → Int32) (ho : ∀ i, i ≠ 25 → i ≠ 29 → i ≠ 30 → o i = M 45 i) : Inv (v4 M o a b c) := by
  obtain ⟨E, Nb, C, e1, e2, e3, e4, e5, e6, e7, e8, e9, e10⟩ := h.2.2.2.2.2.2
  refine ⟨?_, ?_, ?_, ?_, h.2.2.2.2.1, h.2.2.2.2.2.1, E, Nb, C, e1, e2, ?_, e4, ?_, e6, e7, e8, e9, e10⟩
  · show M 1 0 = 32 - o 0
    rw [ho 0 (by decide) (by decide) (by decide)]; exact h.1
  · show iFlag (M 0 11) (M 0 12) (o 18) (o 17)
    rw [ho 18 (by decide) (by decide) (by decide), ho 17 (by decide) (by decide) (by decide)]; exact h.2.1
  · show o 21 = M 0 13 ∧ o 22 = M 0 14
    rw [ho 21 (by decide) (by decide) (by decide), ho 22 (by decide) (by decide) (by decide)]; exact h.2.2.1
  · show iAud (M 0 15) (M 0 16) (M 0 17) (o 31) (o 32)
    rw [ho 31 (by decide) (by decide) (by decide), ho 32 (by decide) (by decide) (by decide)]; exact h.2.2.2.1
  · show o 4 = nI E
    rw [ho 4 (by decide) (by decide) (by decide)]; exact e3
  · show o 9 = nI Nb
    rw [ho 9 (by decide) (by decide) (by decide)]; exact e5
/-- what the class's way holds, by the list -/
def WC (L : List (Bool × Nat × Nat)) (fs : Nat) (o rS : Nat → Int32) : Prop := fs < 64 ∧ L.length ≤ 6 ∧ o 2 = nI L.length ∧ o 3 = nI fs ∧ ∀ i q, L[i]? = some q → rS i = nI q.2.1 ∧ q.2.1 < 64 ∧ (q.1 = true ↔ q.2.1 < fs)
def WM (L : List (Bool × Nat × Nat)) (o a : Nat → Int32) : Prop := o 25 = nI L.length ∧ ∀ i q, L[i]? = some q → a i = (if q.1 = true then 1 else 0)
theorem wc_of {e n : Nat} {wh : Bool} (he : e ≤ n) (hn : n < 40) {o rS : Nat → Int32} (h2 : o 2 = nI (wy e wh 6 0 (n + 1)).1.length) (h3 : o 3 = nI (wy e wh 6 0 (n + 1)).2.1) (hr : ∀ i q, (wy e wh 6 0 (n + 1)).1[i]? = some q → rS i = nI q.2.1) : WC (wy e wh 6 0 (n + 1)).1 (wy e wh 6 0 (n + 1)).2.1 o rS := by
  have e6 : (2 : Nat) ^ 6 = 64 := rfl
  obtain ⟨i1, i2, i3, i4, i5⟩ := wy_end e wh 6 0 (n + 1) (Nat.zero_le _) (by omega)
  refine ⟨by omega, wy_len e wh 6 0 (n + 1) (by omega) (by omega), h2, h3, fun i q hq => ?_⟩
  obtain ⟨j1, j2, j3, j4⟩ := i5 q (List.mem_of_getElem? hq)
  exact ⟨hr i q hq, by omega, j1⟩
theorem f_before {N : Nat} (M : zMem) {L : List (Bool × Nat × Nat)} {fs : Nat} {o rS rE : Nat → Int32} (h : WC L fs o rS) {k : Nat} {q : Bool × Nat × Nat} (hq : L[k]? = some q) : f_Wy_isOtherBefore N 41 (nI k) (w3 M 41 o rS rE) = some (if q.1 = true then 1 else 0, w3 M 41 o rS rE) := by
  obtain ⟨g1, g2, g3, g4, g5⟩ := h
  obtain ⟨j1, j2, j3⟩ := g5 k q hq
  have hk : k < L.length := (List.getElem?_eq_some_iff.mp hq).1
  rw [f_Wy_isOtherBefore, if_pos (by decide), if_pos (zin_t (show k < 6 by omega) (by decide)), nI_clamp (show k < 2 ^ 31 by omega), w3_0, w3_1, g4, j1]
  by_cases c : q.1 = true
  · rw [if_neg (by rw [nI_leI (by omega) (by omega)]; have := j3.mp c; omega), if_pos c]
  · rw [if_pos (by rw [nI_leI (by omega) (by omega)]; have h9 : ¬ q.2.1 < fs := fun z => c (j3.mpr z); omega), if_neg c]
/-- two digests joined on the side that a step tells -/
def jn (s : Int32) (r : Bool) (x w : Int32) : Int32 := if r = true then zH s 4 w x else zH s 4 x w
theorem f_join {N : Nat} (M : zMem) {L : List (Bool × Nat × Nat)} {fs : Nat} {o rS rE : Nat → Int32} (h : WC L fs o rS) {k : Nat} {q : Bool × Nat × Nat} (hq : L[k]? = some q) (x w : Int32) : f_HC_join N x w (nI k) (w3 M 41 o rS rE) = some (jn (M 1 0) q.1 x w, w3 M 41 o rS rE) := by
  rw [f_HC_join, f_before M h hq]
  simp only [Option.bind_some]
  unfold jn
  by_cases c : q.1 = true
  · rw [if_pos c, if_neg (show ¬ (1 : Int32) = 0 by decide), f_digest, if_pos c]; rfl
  · rw [if_neg c, if_pos rfl, f_digest, if_neg c]; rfl
/-- all the words joined, from the first on -/
def mk (s : Int32) (L : List (Bool × Nat × Nat)) (w : Nat → Int32) (x : Int32) : Nat → Int32
  | 0 => x
  | i + 1 => jn s (L.getD (L.length - 1 - i) (false, 0, 0)).1 (mk s L w x i) (w i)
/-- those before alone -/
def mo (s : Int32) (L : List (Bool × Nat × Nat)) (w : Nat → Int32) (x : Int32) : Nat → Int32
  | 0 => x
  | i + 1 => if (L.getD (L.length - 1 - i) (false, 0, 0)).1 = true then jn s true (mo s L w x i) (w i) else mo s L w x i
theorem getD_at {L : List (Bool × Nat × Nat)} {i : Nat} (h : i < L.length) : L[i]? = some (L.getD i (false, 0, 0)) := by
  rw [List.getD_eq_getElem?_getD, List.getElem?_eq_getElem h]; rfl
theorem inc_C {N : Nat} (M : zMem) {L : List (Bool × Nat × Nat)} {fs : Nat} {o rS rE : Nat → Int32} (h : WC L fs o rS) {b : Nat} (hb : b < 4) (hd x : Int32) : ∀ d i fuel, i + d = L.length → d < fuel → f_HC_acceptsInclusion_l52 N (28 + 2 * b) fuel hd (mk (M 1 0) L (M (28 + 2 * b + 1)) x i) (nI i) (w3 M 41 o rS rE) = some (if mk (M 1 0) L (M (28 + 2 * b + 1)) x L.length = hd then 1 else 0, w3 M 41 o rS rE) := by
  have g2 := h.2.1
  have g3 := h.2.2.1
  intro d
  induction d with
  | zero =>
    intro i fuel hi hf
    obtain ⟨fuel, rfl⟩ : ∃ m, fuel = m + 1 := ⟨fuel - 1, by omega⟩
    have : i = L.length := by omega
    subst this
    rw [f_HC_acceptsInclusion_l52, w3_0, g3, if_pos (nI_le (Nat.le_refl _) (by omega))]
    by_cases c : mk (M 1 0) L (M (28 + 2 * b + 1)) x L.length = hd
    · rw [if_pos c, if_pos c]
    · rw [if_neg c, if_neg c]
  | succ d ih =>
    intro i fuel hi hf
    obtain ⟨fuel, rfl⟩ : ∃ m, fuel = m + 1 := ⟨fuel - 1, by omega⟩
    have hs : nI L.length - (1 : Int32) - nI i = nI (L.length - 1 - i) := by rw [lN1, nI_subN (by omega), nI_subN (by omega)]
    rw [f_HC_acceptsInclusion_l52, w3_0, g3, if_neg (by rw [nI_leI (by omega) (by omega)]; omega), if_pos (zin_t (show i < 30 by omega) (by decide)), hs, nI_clamp (show i < 2 ^ 31 by omega), w3_ne _ _ _ _ _ (show 28 + 2 * b + 1 ≠ 41 by omega) (show 28 + 2 * b + 1 ≠ 41 + 1 by omega) (show 28 + 2 * b + 1 ≠ 41 + 2 by omega), f_join M h (getD_at (show L.length - 1 - i < L.length by omega))]
    simp only [Option.bind_some, zlt, nI_1]
    exact ih (i + 1) fuel (by omega) (by omega)
theorem inc_M {N : Nat} (M : zMem) {L : List (Bool × Nat × Nat)} {o a b' c' : Nat → Int32} (h : WM L o a) (hL : L.length ≤ 6) {b : Nat} (hb : b < 4) (hd x : Int32) : ∀ d i fuel, i + d = L.length → d < fuel → f_Mo_included_l47 N fuel (nI b) hd (mk (32 - o 0) L (fun i => M 60 (30 * b + i)) x i) (nI i) (v4 M o a b' c') = some (if mk (32 - o 0) L (fun i => M 60 (30 * b + i)) x L.length = hd then 1 else 0, v4 M o a b' c') := by
  obtain ⟨g3, g5⟩ := h
  intro d
  induction d with
  | zero =>
    intro i fuel hi hf
    obtain ⟨fuel, rfl⟩ : ∃ m, fuel = m + 1 := ⟨fuel - 1, by omega⟩
    have : i = L.length := by omega
    subst this
    rw [f_Mo_included_l47, v4_45, g3, if_pos (nI_le (Nat.le_refl _) (by omega))]
    by_cases c : mk (32 - o 0) L (fun i => M 60 (30 * b + i)) x L.length = hd
    · rw [if_pos c, if_pos c]
    · rw [if_neg c, if_neg c]
  | succ d ih =>
    intro i fuel hi hf
    obtain ⟨fuel, rfl⟩ : ∃ m, fuel = m + 1 := ⟨fuel - 1, by omega⟩
    have hs : nI L.length - (1 : Int32) - nI i = nI (L.length - 1 - i) := by rw [lN1, nI_subN (by omega), nI_subN (by omega)]
    have e : (30 : Int32) * nI b + nI i = nI (30 * b + i) := by rw [lN30, nI_mulN, nI_add]
    have hq := getD_at (show L.length - 1 - i < L.length by omega)
    have IH := ih (i + 1) fuel (by omega) (by omega)
    rw [mk] at IH
    rw [f_Mo_included_l47, v4_45, g3, if_neg (by rw [nI_leI (by omega) (by omega)]; omega), hs, e, if_pos (zin_t (show 30 * b + i < 120 by omega) (by decide)), nI_clamp (show 30 * b + i < 2 ^ 31 by omega), v4_ne _ _ _ _ _ (show 60 ≠ 45 by decide) (show 60 ≠ 64 by decide) (show 60 ≠ 65 by decide) (show 60 ≠ 66 by decide)]
    simp only [zlt]
    rw [if_pos (zin_t (show L.length - 1 - i < 8 by omega) (by decide)), nI_clamp (show L.length - 1 - i < 2 ^ 31 by omega), v4_64, g5 _ _ hq]
    unfold jn at IH
    by_cases c : (L.getD (L.length - 1 - i) (false, 0, 0)).1 = true
    · rw [if_pos c] at IH
      rw [if_pos c, if_neg (show ¬ (1 : Int32) = 0 by decide), f_hash]
      simp only [Option.bind_some, f_Mo_included_b108, zlt, nI_1]
      exact IH
    · rw [if_neg c] at IH
      rw [if_neg c, if_pos rfl, f_hash]
      simp only [Option.bind_some, f_Mo_included_b108, zlt, nI_1]
      exact IH
theorem mk_congr (s : Int32) (L : List (Bool × Nat × Nat)) {w w' : Nat → Int32} (x : Int32) : ∀ i, (∀ j, j < i → w j = w' j) → mk s L w x i = mk s L w' x i
  | 0, _ => rfl
  | i + 1, h => by rw [mk, mk, mk_congr s L x i (fun j hj => h j (by omega)), h i (by omega)]
theorem mo_congr (s : Int32) (L : List (Bool × Nat × Nat)) {w w' : Nat → Int32} (x : Int32) : ∀ i, (∀ j, j < i → w j = w' j) → mo s L w x i = mo s L w' x i
  | 0, _ => rfl
  | i + 1, h => by rw [mo, mo, mo_congr s L x i (fun j hj => h j (by omega)), h i (by omega)]
/-- numbers of two epochs in order, or not -/
theorem ord_cases (x y : Int32) : (x < 0 ∨ y < x ∨ (40 : Int32) ≤ y) ∨ ∃ e n, e ≤ n ∧ n < 40 ∧ x = nI e ∧ y = nI n := by
  by_cases c : x < 0
  · exact Or.inl (Or.inl c)
  · obtain ⟨e, he, rfl⟩ := nI_of c
    by_cases c1 : y < nI e
    · exact Or.inl (Or.inr (Or.inl c1))
    · by_cases c2 : (40 : Int32) ≤ y
      · exact Or.inl (Or.inr (Or.inr c2))
      · have y0 : ¬ y < 0 := by
          rw [Int32.lt_iff_toInt_lt] at c1 ⊢
          rw [nI_toInt he] at c1
          rw [tI0]; omega
        obtain ⟨n, hn, rfl⟩ := nI_of y0
        rw [nI_ltI hn he] at c1
        rw [lN40, nI_leI (by decide) hn] at c2
        exact Or.inr ⟨e, n, by omega, by omega, rfl, rfl⟩
theorem f_order_no {N : Nat} {x y : Int32} {M : zMem} {b : Nat} (hb : b < 4) (h : x < 0 ∨ y < x ∨ (40 : Int32) ≤ y) : f_HC_areInOrder N x y M = some (0, M) ∧ f_Mo_inOrder N (nI b) x y M = some (0, M) := by
  unfold f_HC_areInOrder f_Mo_inOrder
  rw [if_neg (nI_pos (show b < 2 ^ 31 by omega)), if_neg (show ¬ (3 : Int32) < nI b by rw [lN3, nI_ltI (by decide) (by omega)]; omega)]
  by_cases c : x < 0
  · rw [if_pos c]; exact ⟨rfl, rfl⟩
  · rw [if_neg c]
    by_cases c1 : y < x
    · rw [if_pos c1]; exact ⟨rfl, rfl⟩
    · rw [if_neg c1, if_pos ((h.resolve_left c).resolve_left c1)]
      exact ⟨rfl, rfl⟩
theorem f_order_at {N e n : Nat} {M : zMem} {b : Nat} (hb : b < 4) (he : e ≤ n) (hn : n < 40) : f_HC_areInOrder N (nI e) (nI n) M = some (1, M) ∧ f_Mo_inOrder N (nI b) (nI e) (nI n) M = some (1, M) := by
  unfold f_HC_areInOrder f_Mo_inOrder
  rw [if_neg (nI_pos (show b < 2 ^ 31 by omega)), if_neg (show ¬ (3 : Int32) < nI b by rw [lN3, nI_ltI (by decide) (by omega)]; omega), if_neg (nI_pos (show e < 2 ^ 31 by omega)), if_neg (show ¬ nI n < nI e by rw [nI_ltI (by omega) (by omega)]; omega), if_neg (show ¬ (40 : Int32) ≤ nI n by rw [lN40, nI_leI (by decide) (by omega)]; omega)]
  exact ⟨rfl, rfl⟩
theorem ok_included {N : Nat} (hN : 7 ≤ N) (x y z rt hd : Int32) : Ok2 (f_ED_included N x y z rt hd) (f_Mo_included N x y z rt hd) := by
  intro M hI
  have hb := hI.2.2.2.2.2.1
  rcases buf_cases x with hx | ⟨b, hb4, rfl⟩
  · refine ⟨0, M, M, by rw [f_ED_included, f_bufferAt_no hx]; rfl, ?_, hI⟩
    rw [f_Mo_included, f_Mo_inOrder]
    by_cases c : x < 0
    · rw [if_pos c]; rfl
    · rw [if_neg c, if_pos (no3 hx c)]; rfl
  · rcases ord_cases y z with ho | ⟨e, n, he, hn, rfl, rfl⟩
    · refine ⟨0, M, M, ?_, ?_, hI⟩
      · rw [f_ED_included, f_bufferAt_at hb4]
        simp only [Option.bind_some, zcs, zis_Bu_of hb4, if_true, f_HC_acceptsInclusion, (f_order_no hb4 ho).1]
      · rw [f_Mo_included, (f_order_no hb4 ho).2]; rfl
    · obtain ⟨a1, c, a2, a3, a4⟩ := hb.get hb4
      obtain ⟨o, rS, rE, q1, q2, q3, q4, q5⟩ := f_go hN M 41 e n true (by decide) he hn
      have q2 : o 2 = nI (wy e false 6 0 (n + 1)).1.length := q2
      have hW := wc_of (wh := false) he hn q2 q3 (fun i q hq => (q5 i q hq).1)
      obtain ⟨o2, a', b', c', p1, p2, p3, p4, p5, p6⟩ := f_way hN (w3 M 41 o rS rE) e n false he hn
      have hWM : WM (wy e false 6 0 (n + 1)).1 o2 a' := ⟨p2, fun i q hq => (p6 i q hq).1⟩
      generalize hLd : (wy e false 6 0 (n + 1)).1 = L at hW hWM q2 p2
      generalize (wy e false 6 0 (n + 1)).2.1 = fs at hW
      have hL6 := hW.2.1
      have hsh : 32 - o2 0 = M 1 0 := by rw [p5 0 (by decide) (by decide) (by decide)]; exact hI.1.symm
      have hwords : ∀ j, j < L.length → L.length ≤ c → M (28 + 2 * b + 1) j = M 60 (30 * b + j) := fun j hj hc => a4 j (by omega)
      have w28 : w3 M 41 o rS rE (28 + 2 * b) = M (28 + 2 * b) := w3_ne _ _ _ _ _ (by omega) (by omega) (by omega)
      refine ⟨if c = L.length then (if mk (M 1 0) L (M (28 + 2 * b + 1)) (zH (M 1 0) 3 rt (nI e)) L.length = hd then 1 else 0) else 0, w3 M 41 o rS rE, v4 (w3 M 41 o rS rE) o2 a' b' c', ?_, ?_, Inv_v4 (Inv_w3 hI _ _ _) _ _ _ p5⟩
      · rw [f_ED_included, f_bufferAt_at hb4]
        simp only [Option.bind_some, zcs, zis_Bu_of hb4, if_true, f_HC_acceptsInclusion, (f_order_at hb4 he hn).1, if_neg (show ¬ (1 : Int32) = 0 by decide)]
        rw [show f_Wy_go N 41 (nI e) (nI n) 1 M = _ from q1]
        simp only [Option.bind_some]
        rw [w28, a3, w3_0, q2]
        by_cases cc : c = L.length
        · rw [if_pos (by rw [cc]), if_pos cc, f_digest]
          simp only [Option.bind_some]
          rw [show f_HC_acceptsInclusion_l52 N (28 + 2 * b) N hd (zH (w3 M 41 o rS rE 1 0) 3 rt (nI e)) 0 (w3 M 41 o rS rE) = _ from inc_C M hW hb4 hd (zH (M 1 0) 3 rt (nI e)) L.length 0 N (by omega) (by omega)]
          simp only [Option.bind_some]
          by_cases c9 : mk (M 1 0) L (M (28 + 2 * b + 1)) (zH (M 1 0) 3 rt (nI e)) L.length = hd
          · rw [if_pos c9, if_neg (show ¬ (1 : Int32) = 0 by decide)]
          · rw [if_neg c9, if_pos rfl]
        · rw [if_neg (by rw [nI_eq (by omega) (by omega)]; exact cc), if_neg cc]
          rfl
      · rw [f_Mo_included, (f_order_at hb4 he hn).2]
        simp only [Option.bind_some, if_neg (show ¬ (1 : Int32) = 0 by decide)]
        rw [show f_Mo_way N (nI e) (nI n) 0 (w3 M 41 o rS rE) = _ from p1]
        simp only [Option.bind_some, if_pos (zin_t hb4 (show 4 < 2 ^ 31 by decide)), nI_clamp (show b < 2 ^ 31 by omega)]
        rw [v4_45, p2, v4_ne _ _ _ _ _ (show 61 ≠ 45 by decide) (show 61 ≠ 64 by decide) (show 61 ≠ 65 by decide) (show 61 ≠ 66 by decide), show w3 M 41 o rS rE 61 b = nI c from a1.trans a3]
        by_cases cc : c = L.length
        · rw [if_pos (by rw [cc]), if_pos cc, f_hash]
          simp only [Option.bind_some]
          rw [v4_45, show f_Mo_included_l47 N N (nI b) hd (zH (32 - o2 0) 3 rt (nI e)) 0 (v4 (w3 M 41 o rS rE) o2 a' b' c') = _ from inc_M (w3 M 41 o rS rE) hWM hL6 hb4 hd (zH (32 - o2 0) 3 rt (nI e)) L.length 0 N (by omega) (by omega), hsh]
          rw [mk_congr (M 1 0) L (w := fun i => w3 M 41 o rS rE 60 (30 * b + i)) (w' := M (28 + 2 * b + 1)) _ L.length (fun j hj => (hwords j hj (by omega)).symm)]
        · rw [if_neg (by rw [nI_eq (by omega) (by omega)]; exact cc), if_neg cc]
