/-! close(): the class writes -/
def apM (X : zMem) (t : Nat) (a b c d e : Int32) : zMem := zu (zu (zu (zu (zu (zu X 6 t a) 7 t b) 8 t c) 9 t d) 10 t e) 5 7 (nI (t + 1))
theorem f_append {N t : Nat} {X : zMem} (h : X 5 7 = nI t) (ht : t < 300) (a b c d e : Int32) : f_St_append N a b c d e X = some (0, apM X t a b c d e) := by
  have z : zin (nI t) 300 = true := zin_t ht (by decide)
  have ct : (nI t).toNatClampNeg = t := nI_clamp (show t < 2 ^ 31 by omega)
  have e1 : zu X 6 t a 5 7 = nI t := by rw [zu_ne _ _ _ (by decide)]; exact h
  have e2 : zu (zu X 6 t a) 7 t b 5 7 = nI t := by rw [zu_ne _ _ _ (by decide)]; exact e1
  have e3 : zu (zu (zu X 6 t a) 7 t b) 8 t c 5 7 = nI t := by rw [zu_ne _ _ _ (by decide)]; exact e2
  have e4 : zu (zu (zu (zu X 6 t a) 7 t b) 8 t c) 9 t d 5 7 = nI t := by rw [zu_ne _ _ _ (by decide)]; exact e3
  have e5 : zu (zu (zu (zu (zu X 6 t a) 7 t b) 8 t c) 9 t d) 10 t e 5 7 = nI t := by rw [zu_ne _ _ _ (by decide)]; exact e4
  rw [f_St_append, h, if_pos (show nI t < 300 by rw [lN300, nI_ltI (by omega) (by decide)]; exact ht), if_pos z, ct, zlt_eq, e1, if_pos z, ct, zlt_eq, e2, if_pos z, ct, zlt_eq, e3, if_pos z, ct, zlt_eq, e4, if_pos z, ct, zlt_eq, e5, zlt_eq, nI_1]
  rfl
theorem ap_5 (X : zMem) (t : Nat) (a b c d e : Int32) : apM X t a b c d e 5 = upd (X 5) 7 (nI (t + 1)) := rfl
theorem ap_6 (X : zMem) (t : Nat) (a b c d e : Int32) : apM X t a b c d e 6 = upd (X 6) t a := rfl
theorem ap_7 (X : zMem) (t : Nat) (a b c d e : Int32) : apM X t a b c d e 7 = upd (X 7) t b := rfl
theorem ap_8 (X : zMem) (t : Nat) (a b c d e : Int32) : apM X t a b c d e 8 = upd (X 8) t c := rfl
theorem ap_9 (X : zMem) (t : Nat) (a b c d e : Int32) : apM X t a b c d e 9 = upd (X 9) t d := rfl
theorem ap_10 (X : zMem) (t : Nat) (a b c d e : Int32) : apM X t a b c d e 10 = upd (X 10) t e := rfl
theorem ap_ne (X : zMem) (t : Nat) (a b c d e : Int32) {k : Nat} (h : ¬ (5 ≤ k ∧ k ≤ 10)) : apM X t a b c d e k = X k := by
  unfold apM
  rw [zu_ne _ _ _ (by omega), zu_ne _ _ _ (by omega), zu_ne _ _ _ (by omega), zu_ne _ _ _ (by omega), zu_ne _ _ _ (by omega), zu_ne _ _ _ (by omega)]
/-- the first j new blocks stand behind the old ones -/
def cB (s : Int32) (m B : Nat → Int32) (W : Nat → Nat) (Nb j : Nat) (Y X : zMem) : Prop := X 5 7 = nI (Nb + j) ∧ X 5 8 = Y 5 8 ∧ (∀ i, i < Nb → X 6 i = Y 6 i ∧ X 7 i = Y 7 i ∧ X 8 i = Y 8 i ∧ X 9 i = Y 9 i) ∧ wrt Nb j m B W (X 6) (X 7) (X 8) ∧ ∀ i, i < j → X 9 (Nb + i) = dT s m (W i) ∧ X 10 (Nb + i) = nI (pl m (W i))
theorem cB_ag {s : Int32} {m B : Nat → Int32} {W : Nat → Nat} {Nb j : Nat} {Y X X' : zMem} (h : cB s m B W Nb j Y X) (g : ∀ k, 5 ≤ k → k ≤ 10 → X' k = X k) : cB s m B W Nb j Y X' := by
  unfold cB
  rw [g 5 (by omega) (by omega), g 6 (by omega) (by omega), g 7 (by omega) (by omega), g 8 (by omega) (by omega), g 9 (by omega) (by omega), g 10 (by omega) (by omega)]
  exact h
theorem cB_step {s : Int32} {m B : Nat → Int32} {W : Nat → Nat} {Nb j : Nat} {Y X : zMem} (h : cB s m B W Nb j Y X) {hh : Nat} (e : W j = hh) : cB s m B W Nb (j + 1) Y (apM X (Nb + j) (bkd m hh) (bfs m B hh) (bsc m B hh) (dT s m hh) (nI (pl m hh))) := by
  subst e
  obtain ⟨h1, h2, h3, h4, h5⟩ := h
  unfold cB
  rw [ap_5, ap_6, ap_7, ap_8, ap_9, ap_10, upd_eq, upd_ne _ _ (show 8 ≠ 7 by decide)]
  refine ⟨by rw [show Nb + j + 1 = Nb + (j + 1) by omega], h2, fun i hi => ?_, fun i hi => ?_, fun i hi => ?_⟩
  · rw [upd_ne _ _ (show i ≠ Nb + j by omega), upd_ne _ _ (show i ≠ Nb + j by omega), upd_ne _ _ (show i ≠ Nb + j by omega), upd_ne _ _ (show i ≠ Nb + j by omega)]
    exact h3 i hi
  · by_cases c : i = j
    · subst c
      rw [upd_eq, upd_eq, upd_eq]
      exact ⟨rfl, rfl, rfl⟩
    · rw [upd_ne _ _ (show Nb + i ≠ Nb + j by omega), upd_ne _ _ (show Nb + i ≠ Nb + j by omega), upd_ne _ _ (show Nb + i ≠ Nb + j by omega)]
      exact h4 i (by omega)
  · by_cases c : i = j
    · subst c
      rw [upd_eq, upd_eq]
      exact ⟨rfl, rfl⟩
    · rw [upd_ne _ _ (show Nb + i ≠ Nb + j by omega), upd_ne _ _ (show Nb + i ≠ Nb + j by omega)]
      exact h5 i (by omega)
/-- what stands while the class writes: the plan, the map, the old tree -/
def cY (s : Int32) (m ok ck la : Nat → Int32) (Nb : Nat) (Y : zMem) : Prop := Y 1 0 = s ∧ Y 4 = ok ∧ Y 3 = ck ∧ Y 11 = la ∧ (∀ n, n < 64 → m n = if ok n = 0 then ck n else ok n) ∧ trOk s Nb (Y 6) (Y 7) (Y 8) (Y 9) ck (blT ck la) ∧ Y 5 8 = nI Nb ∧ Y 12 5 = nI (Wl (fun x => nd m x && tT ok x)).length ∧ (∀ j, j < (Wl (fun x => nd m x && tT ok x)).length → Y 17 j = nI (Wn (fun x => nd m x && tT ok x) j)) ∧ (∀ h, 1 ≤ h → h < 128 → Y 16 h = Bv m ok la Nb h) ∧ ∀ h, 0 < h → h < 128 → pC m ok (Y 13) (Y 14) (Y 15) h
theorem cY_hs {m ok ck : Nat → Int32} (h : ∀ n, n < 64 → m n = if ok n = 0 then ck n else ok n) : ∀ n, n < 64 → ok n = 0 → m n = ck n := fun n hn z => by rw [h n hn, if_pos z]
theorem f_writeNode {N Nb j : Nat} {s : Int32} {m ok ck la : Nat → Int32} {Y X : zMem} (hY : cY s m ok ck la Nb Y) (hj : j < (Wl (fun x => nd m x && tT ok x)).length) (hN : Nb + j < 300) (hB : cB s m (Bv m ok la Nb) (Wn (fun x => nd m x && tT ok x)) Nb j Y X) (hA : ∀ k, k ≠ 0 → ¬ (5 ≤ k ∧ k ≤ 10) → X k = Y k) : ∃ X1, f_ED_writeNode N (nI (Wn (fun x => nd m x && tT ok x) j)) X = some (0, X1) ∧ cB s m (Bv m ok la Nb) (Wn (fun x => nd m x && tT ok x)) Nb (j + 1) Y X1 ∧ ∀ k, ¬ (5 ≤ k ∧ k ≤ 10) → X1 k = X k := by
  obtain ⟨y1, y4, y3, y11, ym, yt, y58, y12, y17, y16, yp⟩ := hY
  obtain ⟨P, R, -, -, w1, w2, w3, w4⟩ := W_sp (fun x => nd m x && tT ok x) hj
  obtain ⟨h, hh⟩ : ∃ h, h = Wn (fun x => nd m x && tT ok x) j := ⟨_, rfl⟩
  rw [← hh] at w1 w2 w3 w4 ⊢
  rw [Bool.and_eq_true] at w1
  have hnd := nd_iff.mp w1.1
  obtain ⟨p1, p2, p3⟩ := yp h (by omega) w3
  obtain ⟨b1, b2, b3, b4, b5⟩ := id hB
  refine ⟨apM X (Nb + j) (bkd m h) (bfs m (Bv m ok la Nb) h) (bsc m (Bv m ok la Nb) h) (dT s m h) (nI (pl m h)), ?_, cB_step hB hh.symm, fun k hk => ap_ne _ _ _ _ _ _ _ hk⟩
  have x1 : X 1 0 = s := by rw [hA 1 (by decide) (by decide)]; exact y1
  rw [f_ED_writeNode, f_isInner w2 w3 (by rw [hA 13 (by decide) (by decide)]; exact p1), Option.bind_some]
  dsimp only
  by_cases c2 : 2 ≤ cT m h
  · have h6 := in_64 c2
    have c1 : ¬ cT m h = 1 := by omega
    have em : (2 : Int32) * nI h = nI (2 * h) := by rw [lN2, nI_mulN]
    obtain ⟨r1, r2⟩ := rk_child (wr := fun x => nd m x && tT ok x) w2 h6
    have d1 : f_St_digestOf N (Bv m ok la Nb (2 * h)) X = some (dT s m (2 * h), X) := dig_child (N := N) (j := j) yt (cY_hs ym) (Nat.le_refl Nb) b1 (Nat.le_refl _) (by omega) (fun i hi => (b3 i hi).2.2.2) (fun i hi => (b5 i hi).1) (by omega) (by omega) (Or.inr (by rw [show 2 * h / 2 = h by omega]; exact c2)) (fun q1 q2 => by rw [← w4]; exact r1 (by rw [q1, q2]; rfl))
    have d2 : f_St_digestOf N (Bv m ok la Nb (2 * h + 1)) X = some (dT s m (2 * h + 1), X) := dig_child (N := N) (j := j) yt (cY_hs ym) (Nat.le_refl Nb) b1 (Nat.le_refl _) (by omega) (fun i hi => (b3 i hi).2.2.2) (fun i hi => (b5 i hi).1) (by omega) (by omega) (Or.inr (by rw [show (2 * h + 1) / 2 = h by omega]; exact c2)) (fun q1 q2 => by rw [← w4]; exact r2 (by rw [q1, q2]; rfl))
    have x16 : X 16 = Y 16 := hA 16 (by decide) (by decide)
    rw [if_pos c2, if_neg (show ¬ (1 : Int32) = 0 by decide), em, nI_1, if_pos (zin_t (show 2 * h < 128 by omega) (by decide)), if_pos (zin_t (show 2 * h + 1 < 128 by omega) (by decide)), nI_clamp (show 2 * h < 2 ^ 31 by omega), nI_clamp (show 2 * h + 1 < 2 ^ 31 by omega), x16, y16 (2 * h) (by omega) (by omega), y16 (2 * h + 1) (by omega) (by omega), f_St_writeInner, d1, Option.bind_some]
    dsimp only
    rw [d2, Option.bind_some]
    dsimp only
    rw [f_digest, Option.bind_some]
    dsimp only
    rw [f_append b1 hN, Option.bind_some, Option.bind_some, x1, ← dT_in2 s m (show 0 < h by omega) h6 (by omega)]
    unfold bkd bfs bsc pl
    rw [if_neg c1, if_neg c1, if_neg c1, if_neg c1]
  · have c1 : cT m h = 1 := by omega
    obtain ⟨n, n1, n2, n3, n4, -⟩ := cT_one s m (128 - h) h (by omega) w2 (by omega) c1
    have hix := idx_lt n
    have hk : f_NM_keyOf N (nI n) X = some (m n, X) := by rw [f_keyOf n1, hA 4 (by decide) (by decide), hA 3 (by decide) (by decide), y4, y3, ← ym n n1]
    have hpl : f_St_placeOfLeaf N (nI n) X = some (nI (64 + idx n), X) := by
      rw [f_St_placeOfLeaf, (f_indexOf n1 _).1, Option.bind_some, lN64, nI_add]
    rw [if_neg c2, if_pos rfl, if_pos (zin_t w3 (by decide)), nI_clamp (show h < 2 ^ 31 by omega), zlt_eq, hA 14 (by decide) (by decide), p2 c1, n2, hk, Option.bind_some]
    dsimp only
    rw [f_St_writeLeaf, f_digest, Option.bind_some]
    dsimp only
    rw [hpl, Option.bind_some]
    dsimp only
    rw [f_append b1 hN, Option.bind_some, Option.bind_some, x1, ← n4]
    unfold bkd bfs bsc
    rw [if_pos c1, if_pos c1, if_pos c1, pl_one c1 n2 n1, n2, nI_clamp (show n < 2 ^ 31 by omega)]
theorem f_dropOpen {N : Nat} : ∀ d i fuel X, i + d = 64 → d < fuel → (∀ n, n < i → X 4 n = 0) → ∃ X', f_NM_dropOpen_l2 N fuel (nI i) X = some (0, X') ∧ (∀ k, k ≠ 2 → k ≠ 4 → X' k = X k) ∧ X' 2 = upd (X 2) 3 0 ∧ ∀ n, n < 64 → X' 4 n = 0 := by
  intro d
  induction d with
  | zero =>
    intro i fuel X hi hf h
    obtain ⟨fuel, rfl⟩ : ∃ m, fuel = m + 1 := ⟨fuel - 1, by omega⟩
    have : i = 64 := by omega
    subst this
    refine ⟨zu X 2 3 0, by rw [f_NM_dropOpen_l2, if_pos (show (64 : Int32) ≤ nI 64 by decide), zlt_eq], fun k k1 k2 => zu_ne _ _ _ k1, zu_eq _ _ _ _, fun n hn => ?_⟩
    rw [zu_ne _ _ _ (by decide)]
    exact h n hn
  | succ d ih =>
    intro i fuel X hi hf h
    obtain ⟨fuel, rfl⟩ : ∃ m, fuel = m + 1 := ⟨fuel - 1, by omega⟩
    obtain ⟨X', a, b, c, e⟩ := ih (i + 1) fuel (zu X 4 i 0) (by omega) (by omega) (fun n hn => by
      rw [zu_eq]
      by_cases q : n = i
      · rw [q, upd_eq]
      · rw [upd_ne _ _ q]; exact h n (by omega))
    refine ⟨X', ?_, fun k k1 k2 => by rw [b k k1 k2, zu_ne _ _ _ k2], by rw [c, zu_ne _ _ _ (by decide)], e⟩
    rw [f_NM_dropOpen_l2, if_neg (show ¬ (64 : Int32) ≤ nI i by rw [lN64, nI_leI (by decide) (by omega)]; omega), if_pos (zin_t (show i < 64 by omega) (by decide)), nI_clamp (show i < 2 ^ 31 by omega), zlt_eq, zlt_eq, nI_1]
    exact a
theorem f_burn0 {N : Nat} {X : zMem} (h : X 0 12 = nI 0) : f_ED_burnFuse N X = some (0, X) := by
  rw [f_ED_burnFuse, if_pos (show X 0 12 = 0 from h)]
theorem f_burnN {N g : Nat} {X : zMem} (h : X 0 12 = nI (g + 1)) (h1 : 1 ≤ g) (h2 : g ≤ 100) : f_ED_burnFuse N X = some (0, zu X 0 12 (nI g)) := by
  have e : zu X 0 12 (nI g) 0 12 = nI g := by rw [zu_eq, upd_eq]
  rw [f_ED_burnFuse, h, if_neg (show ¬ nI (g + 1) = 0 by rw [lN0, nI_eq (by omega) (by decide)]; omega), nI_prd, zlt_eq, e, if_neg (show ¬ nI g = 0 by rw [lN0, nI_eq (by omega) (by decide)]; omega)]
theorem f_burn1 {N : Nat} (hN : 65 ≤ N) {X : zMem} (h : X 0 12 = nI 1) : ∃ X', f_ED_burnFuse N X = some (0, X') ∧ (∀ k, k ≠ 0 → k ≠ 2 → k ≠ 4 → X' k = X k) ∧ X' 0 11 = 1 ∧ X' 0 12 = 0 ∧ (∀ i, i ≠ 11 → i ≠ 12 → X' 0 i = X 0 i) ∧ X' 2 = upd (X 2) 3 0 ∧ ∀ n, n < 64 → X' 4 n = 0 := by
  obtain ⟨X', a, b, c, e⟩ := f_dropOpen (N := N) 64 0 N (zu (zu X 0 12 0) 0 11 1) (by omega) (by omega) (fun n hn => absurd hn (Nat.not_lt_zero _))
  have b0 := b 0 (by decide) (by decide)
  refine ⟨X', ?_, fun k k1 k2 k3 => by rw [b k k2 k3, zu_ne _ _ _ k1, zu_ne _ _ _ k1], ?_, ?_, fun i i1 i2 => ?_, ?_, e⟩
  · have e1 : nI 1 - (1 : Int32) = 0 := by decide
    have e2 : zu X 0 12 0 0 12 = 0 := by rw [zu_eq, upd_eq]
    rw [f_ED_burnFuse, h, if_neg (show ¬ nI 1 = 0 by decide), e1, zlt_eq, e2, if_pos rfl, zlt_eq, f_NM_dropOpen, lN0]
    rw [lN0] at a
    rw [a, Option.bind_some]
  · rw [b0, zu_eq, upd_eq]
  · rw [b0, zu_eq, upd_ne _ _ (by decide), zu_eq, upd_eq]
  · rw [b0, zu_eq, upd_ne _ _ i1, zu_eq, upd_ne _ _ i2]
  · rw [c, zu_ne _ _ _ (by decide), zu_ne _ _ _ (by decide)]
/-- j blocks written and not stopped; stopped behind j -/
def cN (s : Int32) (m B : Nat → Int32) (W : Nat → Nat) (Nb F j : Nat) (Y X : zMem) : Prop := cB s m B W Nb j Y X ∧ (∀ k, k ≠ 0 → ¬ (5 ≤ k ∧ k ≤ 10) → X k = Y k) ∧ X 0 12 = nI (F - j) ∧ ∀ i, i ≠ 12 → X 0 i = Y 0 i
def cS (s : Int32) (m B : Nat → Int32) (W : Nat → Nat) (Nb j : Nat) (Y X : zMem) : Prop := cB s m B W Nb j Y X ∧ (∀ k, k ≠ 0 → k ≠ 2 → k ≠ 4 → ¬ (5 ≤ k ∧ k ≤ 10) → X k = Y k) ∧ X 0 11 = 1 ∧ X 0 12 = 0 ∧ (∀ i, i ≠ 11 → i ≠ 12 → X 0 i = Y 0 i) ∧ X 2 = upd (Y 2) 3 0 ∧ ∀ n, n < 64 → X 4 n = 0
theorem cl_l65 {N Nb F : Nat} (hN : 65 ≤ N) {s : Int32} {m ok ck la : Nat → Int32} {Y : zMem} (hY : cY s m ok ck la Nb Y) (hNb : Nb + (Wl (fun x => nd m x && tT ok x)).length + 1 ≤ 300) (h0 : Y 0 11 = 0) (hF : F ≤ 100) : ∀ d j fuel X, j + d = (Wl (fun x => nd m x && tT ok x)).length → d + 1 < fuel → (F = 0 ∨ j < F) → cN s m (Bv m ok la Nb) (Wn (fun x => nd m x && tT ok x)) Nb F j Y X → ((F = 0 ∨ (Wl (fun x => nd m x && tT ok x)).length < F) ∧ ∃ X', f_ED_close_l65 N fuel (nI j) X = f_ED_close_b106 N X' ∧ cN s m (Bv m ok la Nb) (Wn (fun x => nd m x && tT ok x)) Nb F (Wl (fun x => nd m x && tT ok x)).length Y X') ∨ (1 ≤ F ∧ F ≤ (Wl (fun x => nd m x && tT ok x)).length ∧ ∃ X', f_ED_close_l65 N fuel (nI j) X = some (-9, X') ∧ cS s m (Bv m ok la Nb) (Wn (fun x => nd m x && tT ok x)) Nb F Y X') := by
  have hL := Wl_len (fun x => nd m x && tT ok x)
  intro d
  induction d with
  | zero =>
    intro j fuel X hj hf hF' hX
    obtain ⟨fuel, rfl⟩ : ∃ m, fuel = m + 1 := ⟨fuel - 1, by omega⟩
    have : j = (Wl (fun x => nd m x && tT ok x)).length := by omega
    have x12 : X 12 5 = nI j := by rw [hX.2.1 12 (by decide) (by decide), this]; exact hY.2.2.2.2.2.2.2.1
    refine Or.inl ⟨by omega, X, ?_, by rw [← this]; exact hX⟩
    rw [f_ED_close_l65, x12, if_pos (show nI j ≤ nI j by rw [nI_leI (by omega) (by omega)]; omega)]
  | succ d ih =>
    intro j fuel X hj hf hF' hX
    obtain ⟨fuel, rfl⟩ : ∃ m, fuel = m + 1 := ⟨fuel - 1, by omega⟩
    obtain ⟨x1, x2, x3, x4⟩ := hX
    have hjK : j < (Wl (fun x => nd m x && tT ok x)).length := by omega
    have x12 : X 12 5 = nI (Wl (fun x => nd m x && tT ok x)).length := by rw [x2 12 (by decide) (by decide)]; exact hY.2.2.2.2.2.2.2.1
    have x17 : X 17 j = nI (Wn (fun x => nd m x && tT ok x) j) := by rw [x2 17 (by decide) (by decide)]; exact hY.2.2.2.2.2.2.2.2.1 j hjK
    have x11 : X 0 11 = 0 := by rw [x4 11 (by decide)]; exact h0
    obtain ⟨X1, a1, a2, a3⟩ := f_writeNode (N := N) hY hjK (by omega) x1 x2
    have a30 := a3 0 (by decide)
    have b12 : X1 0 12 = nI (F - j) := by rw [a30]; exact x3
    have start : f_ED_close_l65 N (fuel + 1) (nI j) X = (f_ED_burnFuse N X1).bind fun q97 => zlt (nI j + (1 : Int32)) fun v100 => (f_ED_close_l65 N fuel) v100 q97.2 := by
      rw [f_ED_close_l65, x12, if_neg (show ¬ nI (Wl (fun x => nd m x && tT ok x)).length ≤ nI j by rw [nI_leI (by omega) (by omega)]; omega), x11, if_pos rfl, if_pos (zin_t (show j < 128 by omega) (by decide)), nI_clamp (show j < 2 ^ 31 by omega), x17, a1, Option.bind_some]
    rw [start]
    have fr : ∀ k, k ≠ 0 → ¬ (5 ≤ k ∧ k ≤ 10) → X1 k = Y k := fun k k1 k2 => by rw [a3 k k2, x2 k k1 k2]
    by_cases c1 : F - j = 1
    · rw [c1] at b12
      obtain ⟨X2, e1, e2, e3, e4, e5, e6, e7⟩ := f_burn1 (N := N) hN b12
      obtain ⟨fuel, rfl⟩ : ∃ m, fuel = m + 1 := ⟨fuel - 1, by omega⟩
      have hFj : F = j + 1 := by omega
      refine Or.inr ⟨by omega, by omega, X2, ?_, ?_⟩
      · rw [e1, Option.bind_some, zlt_eq, nI_1]
        dsimp only
        have b106 : f_ED_close_b106 N X2 = some (-9, X2) := by
          rw [f_ED_close_b106, e3, if_neg (show ¬ (1 : Int32) = 0 by decide), f_ED_close_b121, e3, if_neg (show ¬ (1 : Int32) = 0 by decide)]
        rw [f_ED_close_l65, b106, e3, if_neg (show ¬ (1 : Int32) = 0 by decide)]
        by_cases q : X2 12 5 ≤ nI (j + 1)
        · rw [if_pos q]
        · rw [if_neg q]
      · rw [hFj]
        refine ⟨cB_ag a2 (fun k k1 k2 => e2 k (by omega) (by omega) (by omega)), fun k k1 k2 k3 k4 => by rw [e2 k k1 k2 k3, fr k k1 k4], e3, e4, fun i i1 i2 => by rw [e5 i i1 i2, a30, x4 i i2], by rw [e6, fr 2 (by decide) (by decide)], e7⟩
    · have hF2 : F = 0 ∨ j + 1 < F := by omega
      by_cases c0 : F = 0
      · have b0 : X1 0 12 = nI 0 := by rw [b12, c0, Nat.zero_sub]
        rw [f_burn0 b0, Option.bind_some, zlt_eq, nI_1]
        exact ih (j + 1) fuel X1 (by omega) (by omega) hF2 ⟨a2, fr, by rw [b12, c0, Nat.zero_sub, Nat.zero_sub], fun i hi => by rw [a30, x4 i hi]⟩
      · have b1 : X1 0 12 = nI (F - (j + 1) + 1) := by rw [b12]; congr 1; omega
        rw [f_burnN b1 (by omega) (by omega), Option.bind_some, zlt_eq, nI_1]
        exact ih (j + 1) fuel (zu X1 0 12 (nI (F - (j + 1)))) (by omega) (by omega) hF2 ⟨cB_ag a2 (fun k k1 k2 => zu_ne _ _ _ (by omega)), fun k k1 k2 => by rw [zu_ne _ _ _ k1, fr k k1 k2], by rw [zu_eq, upd_eq], fun i hi => by rw [zu_eq, upd_ne _ _ hi, a30, x4 i hi]⟩
