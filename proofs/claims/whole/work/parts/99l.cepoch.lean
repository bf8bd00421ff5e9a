/-! close(): the class closes an epoch -/
theorem cp_l5 {N Nb K : Nat} {m la : Nat → Int32} {W : Nat → Nat} (X : zMem) (x1 x2 : Int32) (h5 : X 5 7 = nI (Nb + K)) (hK : Nb + K + 1 ≤ 300) (h10 : ∀ i, i < K → X 10 (Nb + i) = nI (pl m (W i)) ∧ pl m (W i) < 128) : ∀ d j fuel, j + d = K → d < fuel → f_St_writeCheckpoint_l5 N fuel x1 x2 (nI (Nb + j)) (sr X 11 (LL m la Nb W j)) = some (0, zu (apM (sr X 11 (LL m la Nb W K)) (Nb + K) 3 x1 x2 0 0) 5 8 (nI (Nb + K + 1))) := by
  intro d
  induction d with
  | zero =>
    intro j fuel hj hf
    obtain ⟨fuel, rfl⟩ : ∃ m, fuel = m + 1 := ⟨fuel - 1, by omega⟩
    have : j = K := by omega
    subst this
    have e5 : sr X 11 (LL m la Nb W j) 5 7 = nI (Nb + j) := by rw [sr_ne _ _ (by decide)]; exact h5
    have e6 : apM (sr X 11 (LL m la Nb W j)) (Nb + j) 3 x1 x2 0 0 5 7 = nI (Nb + j + 1) := by rw [ap_5, upd_eq]
    rw [f_St_writeCheckpoint_l5, e5, if_pos (show nI (Nb + j) ≤ nI (Nb + j) by rw [nI_leI (by omega) (by omega)]; omega), f_append e5 (by omega), Option.bind_some, zlt_eq]
    dsimp only
    rw [e6]
  | succ d ih =>
    intro j fuel hj hf
    obtain ⟨fuel, rfl⟩ : ∃ m, fuel = m + 1 := ⟨fuel - 1, by omega⟩
    obtain ⟨q1, q2⟩ := h10 j (by omega)
    have e5 : sr X 11 (LL m la Nb W j) 5 7 = nI (Nb + K) := by rw [sr_ne _ _ (by decide)]; exact h5
    have e10 : sr X 11 (LL m la Nb W j) 10 (Nb + j) = nI (pl m (W j)) := by rw [sr_ne _ _ (by decide)]; exact q1
    rw [f_St_writeCheckpoint_l5, e5, if_neg (show ¬ nI (Nb + K) ≤ nI (Nb + j) by rw [nI_leI (by omega) (by omega)]; omega), if_pos (zin_t (show Nb + j < 300 by omega) (by decide)), nI_clamp (show Nb + j < 2 ^ 31 by omega), e10, if_pos (zin_t q2 (by decide)), nI_clamp (show pl m (W j) < 2 ^ 31 by omega), zlt_eq, zlt_eq, zu_sr, nI_1]
    exact ih (j + 1) fuel (by omega) (by omega)
theorem f_Hi_add_at {N E : Nat} (hN : 41 ≤ N) (hE : E < 40) {s : Int32} {X : zMem} (h1 : X 1 0 = s) (h18 : X 18 6 = nI E) (a b : Int32) : ∃ X', f_Hi_add N a b X = some (0, X') ∧ (∀ k, ¬ (18 ≤ k ∧ k ≤ 23) → X' k = X k) ∧ X' 18 6 = nI (E + 1) ∧ X' 19 = upd (X 19) E a ∧ X' 20 = upd (X 20) E b ∧ X' 21 = upd (X 21) E (zH s 3 b (nI E)) ∧ X' 22 = upd (X 22) E (rd (zH s 4) (upd (X 21) E (zH s 3 b (nI E))) 0 (E + 1)) := by
  have z : zin (nI E) 40 = true := zin_t hE (by decide)
  have cE : (nI E).toNatClampNeg = E := nI_clamp (show E < 2 ^ 31 by omega)
  obtain ⟨A, hA⟩ : ∃ A, A = zu (zu X 19 E a) 20 E b := ⟨_, rfl⟩
  have a18 : A 18 6 = nI E := by rw [hA, zu_ne _ _ _ (by decide), zu_ne _ _ _ (by decide)]; exact h18
  have a1 : A 1 0 = s := by rw [hA, zu_ne _ _ _ (by decide), zu_ne _ _ _ (by decide)]; exact h1
  obtain ⟨B, hB⟩ : ∃ B, B = zu A 21 E (zH s 3 b (nI E)) := ⟨_, rfl⟩
  have b18 : B 18 6 = nI E := by rw [hB, zu_ne _ _ _ (by decide)]; exact a18
  have b1 : B 1 0 = s := by rw [hB, zu_ne _ _ _ (by decide)]; exact a1
  have b21 : B 21 = upd (X 21) E (zH s 3 b (nI E)) := by rw [hB, zu_eq, hA, zu_ne _ _ _ (by decide), zu_ne _ _ _ (by decide)]
  obtain ⟨r', hr⟩ := f_rowDigest (N := N) hN B 0 (E + 1) (by omega) (by omega)
  rw [b1, b21, Nat.zero_add] at hr
  obtain ⟨D, hD⟩ : ∃ D, D = rd (zH s 4) (upd (X 21) E (zH s 3 b (nI E))) 0 (E + 1) := ⟨_, rfl⟩
  rw [← hD] at hr ⊢
  have e18 : zu (sr B 23 r') 22 E D 18 6 = nI E := by rw [zu_ne _ _ _ (by decide), sr_ne _ _ (by decide)]; exact b18
  refine ⟨zu (zu (sr B 23 r') 22 E D) 18 6 (nI (E + 1)), ?_, fun k hk => ?_, ?_, ?_, ?_, ?_, ?_⟩
  · have e0 : zu X 19 E a 18 6 = nI E := by rw [zu_ne _ _ _ (by decide)]; exact h18
    rw [f_Hi_add, h18, if_pos (show nI E < 40 by rw [lN40, nI_ltI (by omega) (by decide)]; exact hE), if_pos z, cE, zlt_eq, e0, if_pos z, cE, zlt_eq, ← hA, a18, f_digest, Option.bind_some, a1, if_pos z, cE, zlt_eq]
    dsimp only
    rw [← hB, b18, nI_1, lN0, hr, Option.bind_some, if_pos z, zlt_eq, cE]
    dsimp only
    rw [e18, zlt_eq, nI_1]
  · rw [zu_ne _ _ _ (by omega), zu_ne _ _ _ (by omega), sr_ne _ _ (by omega), hB, zu_ne _ _ _ (by omega), hA, zu_ne _ _ _ (by omega), zu_ne _ _ _ (by omega)]
  · rw [zu_eq, upd_eq]
  · rw [zu_ne _ _ _ (by decide), zu_ne _ _ _ (by decide), sr_ne _ _ (by decide), hB, zu_ne _ _ _ (by decide), hA, zu_ne _ _ _ (by decide), zu_eq]
  · rw [zu_ne _ _ _ (by decide), zu_ne _ _ _ (by decide), sr_ne _ _ (by decide), hB, zu_ne _ _ _ (by decide), hA, zu_eq, zu_ne _ _ _ (by decide)]
  · rw [zu_ne _ _ _ (by decide), zu_ne _ _ _ (by decide), sr_ne _ _ (by decide), b21]
  · rw [zu_ne _ _ _ (by decide), zu_eq, sr_ne _ _ (by decide), hB, zu_ne _ _ _ (by decide), hA, zu_ne _ _ _ (by decide), zu_ne _ _ _ (by decide)]
theorem ko_l2 {N : Nat} (hN : 65 ≤ N) (m ok ck : Nat → Int32) (hm : ∀ n, n < 64 → m n = if ok n = 0 then ck n else ok n) (Y : zMem) (hY : Y 4 = ok) : ∀ d i fuel X, i + d = 64 → d < fuel → (∀ k, k ≠ 2 → k ≠ 3 → X k = Y k) → (∀ n, n < i → X 3 n = m n) → (∀ n, i ≤ n → n < 64 → X 3 n = ck n) → X 2 2 = nI (nz (X 3) 64) → ∃ X', f_NM_keepOpen_l2 N fuel (nI i) X = some (0, X') ∧ (∀ k, k ≠ 2 → k ≠ 3 → k ≠ 4 → X' k = Y k) ∧ (∀ n, n < 64 → X' 3 n = m n) ∧ X' 2 2 = nI (nz (X' 3) 64) ∧ X' 2 3 = 0 ∧ ∀ n, n < 64 → X' 4 n = 0 := by
  intro d
  induction d with
  | zero =>
    intro i fuel X hi hf hA h3 _ h2
    obtain ⟨fuel, rfl⟩ : ∃ m, fuel = m + 1 := ⟨fuel - 1, by omega⟩
    have : i = 64 := by omega
    subst this
    obtain ⟨X', a, b, c, e⟩ := f_dropOpen (N := N) 64 0 N X (by omega) (by omega) (fun n hn => absurd hn (Nat.not_lt_zero _))
    have b3 := b 3 (by decide) (by decide)
    refine ⟨X', ?_, fun k k1 k2 k3 => by rw [b k k1 k3, hA k k1 k2], fun n hn => by rw [b3]; exact h3 n hn, ?_, ?_, e⟩
    · rw [f_NM_keepOpen_l2, if_pos (show (64 : Int32) ≤ nI 64 by decide), f_NM_dropOpen, lN0, a, Option.bind_some]
    · rw [b3, c, upd_ne _ _ (by decide)]; exact h2
    · rw [c, upd_eq]
  | succ d ih =>
    intro i fuel X hi hf hA h3 h3' h2
    obtain ⟨fuel, rfl⟩ : ∃ m, fuel = m + 1 := ⟨fuel - 1, by omega⟩
    have ii : i < 64 := by omega
    have x4 : X 4 = ok := by rw [hA 4 (by decide) (by decide)]; exact hY
    have x3 : X 3 i = ck i := h3' i (Nat.le_refl _) ii
    have zi : zin (nI i) 64 = true := zin_t ii (by decide)
    have ci : (nI i).toNatClampNeg = i := nI_clamp (show i < 2 ^ 31 by omega)
    -- the new key
    have last : ∀ Z : zMem, (∀ k, k ≠ 2 → Z k = X k) → Z 2 2 = nI (nz (upd (X 3) i (m i)) 64) → ∃ X', f_NM_keepOpen_b35 N (f_NM_keepOpen_l2 N fuel) (nI i) Z = some (0, X') ∧ (∀ k, k ≠ 2 → k ≠ 3 → k ≠ 4 → X' k = Y k) ∧ (∀ n, n < 64 → X' 3 n = m n) ∧ X' 2 2 = nI (nz (X' 3) 64) ∧ X' 2 3 = 0 ∧ ∀ n, n < 64 → X' 4 n = 0 := by
      intro Z hZ hz2
      have z3 : Z 3 = X 3 := hZ 3 (by decide)
      obtain ⟨X', a⟩ := ih (i + 1) fuel (zu Z 3 i (m i)) (by omega) (by omega) (fun k k1 k2 => by rw [zu_ne _ _ _ k2, hZ k k1, hA k k1 k2]) (fun n hn => by
        rw [zu_eq, z3]
        by_cases q : n = i
        · rw [q, upd_eq]
        · rw [upd_ne _ _ q]; exact h3 n (by omega)) (fun n n1 n2 => by
        rw [zu_eq, z3, upd_ne _ _ (by omega)]; exact h3' n (by omega) n2) (by rw [zu_ne _ _ _ (by decide), zu_eq, z3]; exact hz2)
      refine ⟨X', ?_, a.2⟩
      have hk : f_NM_keyOf N (nI i) Z = some (m i, Z) := by rw [f_keyOf ii, hZ 4 (by decide), z3, x4, x3, ← hm i ii]
      rw [f_NM_keepOpen_b35, hk, Option.bind_some, if_pos zi, ci, zlt_eq, zlt_eq, nI_1]
      exact a.1
    rw [f_NM_keepOpen_l2, if_neg (show ¬ (64 : Int32) ≤ nI i by rw [lN64, nI_leI (by decide) (by omega)]; omega), f_wasPut ii, Option.bind_some, x4]
    dsimp only
    by_cases c : ok i = 0
    · rw [if_pos c, if_pos rfl]
      refine last X (fun _ _ => rfl) ?_
      rw [h2]
      congr 1
      refine nz_congr 64 (fun n hn => ?_)
      by_cases q : n = i
      · rw [q, upd_eq, x3, hm i ii, if_pos c]
      · rw [upd_ne _ _ q]
    · have mi : m i ≠ 0 := by rw [hm i ii, if_neg c]; exact c
      rw [if_neg c, if_neg (show ¬ (1 : Int32) = 0 by decide), if_pos zi, ci]
      by_cases c3 : X 3 i = 0
      · rw [if_pos c3, zlt_eq]
        refine last (zu X 2 2 (X 2 2 + 1)) (fun k hk => zu_ne _ _ _ hk) ?_
        rw [zu_eq, upd_eq, h2, nz_upd mi 64 ii, if_pos c3, nI_1]
      · rw [if_neg c3]
        refine last X (fun _ _ => rfl) ?_
        rw [h2, nz_upd mi 64 ii, if_neg c3]
        rfl
/-- the class after an epoch closed whole -/
def cE (s : Int32) (m ok la : Nat → Int32) (Nb E : Nat) (Y X : zMem) : Prop :=
  (∀ k, k ≠ 0 → ¬ (2 ≤ k ∧ k ≤ 11) → ¬ (18 ≤ k ∧ k ≤ 23) → X k = Y k) ∧ (∀ i, i ≠ 11 → i ≠ 12 → X 0 i = Y 0 i) ∧
  (∀ n, n < 64 → X 3 n = m n) ∧ X 2 2 = nI (nz (X 3) 64) ∧ X 2 3 = 0 ∧ (∀ n, n < 64 → X 4 n = 0) ∧
  X 5 7 = nI (Nb + (Wl (fun x => nd m x && tT ok x)).length + 1) ∧ X 5 8 = nI (Nb + (Wl (fun x => nd m x && tT ok x)).length + 1) ∧
  (∀ i, i < Nb → X 6 i = Y 6 i ∧ X 7 i = Y 7 i ∧ X 8 i = Y 8 i ∧ X 9 i = Y 9 i) ∧
  wrt Nb (Wl (fun x => nd m x && tT ok x)).length m (Bv m ok la Nb) (Wn (fun x => nd m x && tT ok x)) (X 6) (X 7) (X 8) ∧
  (∀ i, i < (Wl (fun x => nd m x && tT ok x)).length → X 9 (Nb + i) = dT s m (Wn (fun x => nd m x && tT ok x) i)) ∧
  (X 6 (Nb + (Wl (fun x => nd m x && tT ok x)).length) = 3 ∧ X 7 (Nb + (Wl (fun x => nd m x && tT ok x)).length) = nI E ∧ X 8 (Nb + (Wl (fun x => nd m x && tT ok x)).length) = Bv m ok la Nb 1) ∧
  X 11 = LL m la Nb (Wn (fun x => nd m x && tT ok x)) (Wl (fun x => nd m x && tT ok x)).length ∧
  X 18 6 = nI (E + 1) ∧ X 19 = upd (Y 19) E (Bv m ok la Nb 1) ∧ X 20 = upd (Y 20) E (dT s m 1) ∧ X 21 = upd (Y 21) E (zH s 3 (dT s m 1) (nI E)) ∧ X 22 = upd (Y 22) E (rd (zH s 4) (upd (Y 21) E (zH s 3 (dT s m 1) (nI E))) 0 (E + 1))
theorem f_closeEpoch {N Nb E F : Nat} (hN : 129 ≤ N) {s : Int32} {m ok ck la : Nat → Int32} {Y X : zMem} (hY : cY s m ok ck la Nb Y) (hNb : Nb + (Wl (fun x => nd m x && tT ok x)).length + 1 ≤ 300) (hE : E < 40) (y18 : Y 18 6 = nI E) (y2 : Y 2 2 = nI (nz ck 64)) (hX : cN s m (Bv m ok la Nb) (Wn (fun x => nd m x && tT ok x)) Nb F (Wl (fun x => nd m x && tT ok x)).length Y X) : ∃ X', f_ED_closeEpoch N X = some (0, X') ∧ cE s m ok la Nb E Y X' ∧ X' 0 = X 0 := by
  obtain ⟨y1, y4, y3, y11, ym, yt, y58, y12, y17, y16, yp⟩ := hY
  obtain ⟨⟨b1, b2, b3, b4, b5⟩, xA, x12, x0⟩ := hX
  have hL := Wl_len (fun x => nd m x && tT ok x)
  obtain ⟨K, hK⟩ : ∃ K, K = (Wl (fun x => nd m x && tT ok x)).length := ⟨_, rfl⟩
  unfold cE
  rw [← hK] at hNb b1 b4 b5 hL x12 ⊢
  have x11 : X 11 = la := by rw [xA 11 (by decide) (by decide)]; exact y11
  have hpl : ∀ i, i < K → X 10 (Nb + i) = nI (pl m (Wn (fun x => nd m x && tT ok x) i)) ∧ pl m (Wn (fun x => nd m x && tT ok x) i) < 128 := by
    intro i hi
    refine ⟨(b5 i hi).2, ?_⟩
    obtain ⟨P, R, -, -, w1, w2, w3, w4⟩ := W_sp (fun x => nd m x && tT ok x) (j := i) (by omega)
    rw [Bool.and_eq_true] at w1
    exact (pl_lt w2 w1.1 w3).2
  obtain ⟨Z, hZ⟩ : ∃ Z, Z = zu (apM (sr X 11 (LL m la Nb (Wn (fun x => nd m x && tT ok x)) K)) (Nb + K) 3 (nI E) (Bv m ok la Nb 1) 0 0) 5 8 (nI (Nb + K + 1)) := ⟨_, rfl⟩
  have cp : f_St_writeCheckpoint N (nI E) (Bv m ok la Nb 1) X = some (0, Z) := by
    have := cp_l5 (N := N) (m := m) (la := la) (W := Wn (fun x => nd m x && tT ok x)) X (nI E) (Bv m ok la Nb 1) b1 hNb hpl K 0 N (by omega) (by omega)
    have e0 : sr X 11 (LL m la Nb (Wn (fun x => nd m x && tT ok x)) 0) = X := by
      show sr X 11 la = X
      rw [← x11]; exact sr_self X 11
    rw [e0, Nat.add_zero, ← hZ] at this
    rw [f_St_writeCheckpoint, b2, y58, zlt_eq]
    exact this
  have z5 : Z 5 = upd (upd (X 5) 7 (nI (Nb + K + 1))) 8 (nI (Nb + K + 1)) := by rw [hZ, zu_eq, ap_5, sr_ne _ _ (by decide)]
  have z6 : Z 6 = upd (X 6) (Nb + K) 3 := by rw [hZ, zu_ne _ _ _ (by decide), ap_6, sr_ne _ _ (by decide)]
  have z7 : Z 7 = upd (X 7) (Nb + K) (nI E) := by rw [hZ, zu_ne _ _ _ (by decide), ap_7, sr_ne _ _ (by decide)]
  have z8 : Z 8 = upd (X 8) (Nb + K) (Bv m ok la Nb 1) := by rw [hZ, zu_ne _ _ _ (by decide), ap_8, sr_ne _ _ (by decide)]
  have z9 : Z 9 = upd (X 9) (Nb + K) 0 := by rw [hZ, zu_ne _ _ _ (by decide), ap_9, sr_ne _ _ (by decide)]
  have z11 : Z 11 = LL m la Nb (Wn (fun x => nd m x && tT ok x)) K := by rw [hZ, zu_ne _ _ _ (by decide), ap_ne _ _ _ _ _ _ _ (by decide), sr_at]
  have zo : ∀ k, ¬ (5 ≤ k ∧ k ≤ 11) → Z k = X k := fun k hk => by rw [hZ, zu_ne _ _ _ (by omega), ap_ne _ _ _ _ _ _ _ (by omega), sr_ne _ _ (by omega)]
  have z57 : Z 5 7 = nI (Nb + K + 1) := by rw [z5, upd_ne _ _ (by decide), upd_eq]
  have dg : f_St_digestOf N (Bv m ok la Nb 1) Z = some (dT s m 1, Z) := dig_child (N := N) (j := K) yt (cY_hs ym) (Nat.le_refl Nb) z57 (by omega) hNb (fun i hi => by rw [z9, upd_ne _ _ (by omega)]; exact (b3 i hi).2.2.2) (fun i hi => by rw [z9, upd_ne _ _ (by omega)]; exact (b5 i hi).1) (by omega) (by omega) (Or.inl rfl) (fun q1 q2 => by rw [hK]; exact (rk_W (wr := fun x => nd m x && tT ok x) (by omega) (by omega) (by rw [q1, q2]; rfl)).2)
  obtain ⟨A, a1, a2, a3, a4, a5, a6, a7⟩ := f_Hi_add_at (N := N) (by omega) hE (X := Z) (s := s) (by rw [zo 1 (by decide), xA 1 (by decide) (by decide)]; exact y1) (by rw [zo 18 (by decide), xA 18 (by decide) (by decide)]; exact y18) (Bv m ok la Nb 1) (dT s m 1)
  have z1x : ∀ k, 18 ≤ k → k ≤ 23 → Z k = Y k := fun k k1 k2 => by rw [zo k (by omega), xA k (by omega) (by omega)]
  rw [z1x 19 (by decide) (by decide)] at a4
  rw [z1x 20 (by decide) (by decide)] at a5
  rw [z1x 21 (by decide) (by decide)] at a6 a7
  rw [z1x 22 (by decide) (by decide)] at a7
  have aY : ∀ k, k ≠ 0 → ¬ (5 ≤ k ∧ k ≤ 11) → ¬ (18 ≤ k ∧ k ≤ 23) → A k = Y k := fun k k0 k1 k2 => by rw [a2 k k2, zo k k1, xA k k0 (by omega)]
  obtain ⟨Q, q1, q2, q3, q4, q5, q6⟩ := ko_l2 (N := N) (by omega) m ok ck ym A (by rw [aY 4 (by decide) (by decide) (by decide)]; exact y4) 64 0 N A (by omega) (by omega) (fun _ _ _ => rfl) (fun n hn => absurd hn (Nat.not_lt_zero _)) (fun n _ _ => by rw [aY 3 (by decide) (by decide) (by decide), y3]) (by rw [aY 2 (by decide) (by decide) (by decide), aY 3 (by decide) (by decide) (by decide), y3]; exact y2)
  have qA : ∀ k, 5 ≤ k → k ≤ 11 → Q k = Z k := fun k k1 k2 => by rw [q2 k (by omega) (by omega) (by omega), a2 k (by omega)]
  have qH : ∀ k, 18 ≤ k → k ≤ 23 → Q k = A k := fun k k1 k2 => q2 k (by omega) (by omega) (by omega)
  refine ⟨Q, ?_, ⟨fun k k0 k1 k2 => by rw [q2 k (by omega) (by omega) (by omega), aY k k0 (by omega) k2], fun i i1 i2 => by rw [q2 0 (by decide) (by decide) (by decide), a2 0 (by decide), zo 0 (by decide)]; exact x0 i i2, q3, q4, q5, q6, ?_, ?_, fun i hi => ?_, fun i hi => ?_, fun i hi => ?_, ⟨?_, ?_, ?_⟩, ?_, ?_, ?_, ?_, ?_, ?_⟩, by rw [q2 0 (by decide) (by decide) (by decide), a2 0 (by decide), zo 0 (by decide)]⟩
  · have e16 : X 16 1 = Bv m ok la Nb 1 := by rw [xA 16 (by decide) (by decide)]; exact y16 1 (by omega) (by omega)
    have e18 : X 18 6 = nI E := by rw [xA 18 (by decide) (by decide)]; exact y18
    rw [f_ED_closeEpoch, zlt_eq, e16, e18, cp, Option.bind_some]
    dsimp only
    rw [dg, Option.bind_some]
    dsimp only
    rw [a1, Option.bind_some]
    dsimp only
    rw [f_NM_keepOpen, lN0, q1, Option.bind_some]
  · rw [qA 5 (by decide) (by decide)]; exact z57
  · rw [qA 5 (by decide) (by decide), z5, upd_eq]
  · rw [qA 6 (by decide) (by decide), qA 7 (by decide) (by decide), qA 8 (by decide) (by decide), qA 9 (by decide) (by decide), z6, z7, z8, z9, upd_ne _ _ (show i ≠ Nb + K by omega), upd_ne _ _ (show i ≠ Nb + K by omega), upd_ne _ _ (show i ≠ Nb + K by omega), upd_ne _ _ (show i ≠ Nb + K by omega)]
    exact b3 i hi
  · rw [qA 6 (by decide) (by decide), qA 7 (by decide) (by decide), qA 8 (by decide) (by decide), z6, z7, z8, upd_ne _ _ (show Nb + i ≠ Nb + K by omega), upd_ne _ _ (show Nb + i ≠ Nb + K by omega), upd_ne _ _ (show Nb + i ≠ Nb + K by omega)]
    exact b4 i hi
  · rw [qA 9 (by decide) (by decide), z9, upd_ne _ _ (show Nb + i ≠ Nb + K by omega)]
    exact (b5 i hi).1
  · rw [qA 6 (by decide) (by decide), z6, upd_eq]
  · rw [qA 7 (by decide) (by decide), z7, upd_eq]
  · rw [qA 8 (by decide) (by decide), z8, upd_eq]
  · rw [qA 11 (by decide) (by decide), z11]
  · rw [qH 18 (by decide) (by decide), a3]
  · rw [qH 19 (by decide) (by decide), a4]
  · rw [qH 20 (by decide) (by decide), a5]
  · rw [qH 21 (by decide) (by decide), a6]
  · rw [qH 22 (by decide) (by decide), a7]
/-- the class's end: the last writing may stop it -/
theorem f_b106 {N Nb E F : Nat} (hN : 129 ≤ N) {s : Int32} {m ok ck la : Nat → Int32} {Y X : zMem} (hY : cY s m ok ck la Nb Y) (hNb : Nb + (Wl (fun x => nd m x && tT ok x)).length + 1 ≤ 300) (hE : E < 40) (y18 : Y 18 6 = nI E) (y2 : Y 2 2 = nI (nz ck 64)) (h0 : Y 0 11 = 0) (hF : F ≤ 100) (hF' : F = 0 ∨ (Wl (fun x => nd m x && tT ok x)).length < F) (hX : cN s m (Bv m ok la Nb) (Wn (fun x => nd m x && tT ok x)) Nb F (Wl (fun x => nd m x && tT ok x)).length Y X) : ∃ X', cE s m ok la Nb E Y X' ∧ ((F = (Wl (fun x => nd m x && tT ok x)).length + 1 ∧ f_ED_close_b106 N X = some (-9, X') ∧ X' 0 11 = 1 ∧ X' 0 12 = nI 0) ∨ (F ≠ (Wl (fun x => nd m x && tT ok x)).length + 1 ∧ f_ED_close_b106 N X = some (nI E, X') ∧ X' 0 11 = 0 ∧ X' 0 12 = nI (F - ((Wl (fun x => nd m x && tT ok x)).length + 1)))) := by
  obtain ⟨A, a1, a2, a3⟩ := f_closeEpoch hN hY hNb hE y18 y2 hX
  obtain ⟨-, -, x12, x0⟩ := hX
  have x11 : X 0 11 = 0 := by rw [x0 11 (by decide)]; exact h0
  have a12 : A 0 12 = nI (F - (Wl (fun x => nd m x && tT ok x)).length) := by rw [a3]; exact x12
  have a11 : A 0 11 = 0 := by rw [a3]; exact x11
  have st : f_ED_close_b106 N X = (f_ED_burnFuse N A).bind fun q118 => f_ED_close_b121 N q118.2 := by
    rw [f_ED_close_b106, x11, if_pos rfl, a1, Option.bind_some]
  rw [st]
  obtain ⟨c1, c2, c3, c4, c5, c6, c7⟩ := a2
  by_cases cF : F = (Wl (fun x => nd m x && tT ok x)).length + 1
  · have b12 : A 0 12 = nI 1 := by rw [a12]; congr 1; omega
    obtain ⟨X2, e1, e2, e3, e4, e5, e6, e7⟩ := f_burn1 (N := N) (by omega) b12
    refine ⟨X2, ⟨fun k k0 k1 k2 => by rw [e2 k k0 (by omega) (by omega), c1 k k0 k1 k2], fun i i1 i2 => by rw [e5 i i1 i2, c2 i i1 i2], ?_, ?_, ?_, e7, ?_⟩, Or.inl ⟨cF, ?_, e3, e4⟩⟩
    · rw [e2 3 (by decide) (by decide) (by decide)]; exact c3
    · rw [e2 3 (by decide) (by decide) (by decide), e6, upd_ne _ _ (by decide)]; exact c4
    · rw [e6, upd_eq]
    · rw [e2 5 (by decide) (by decide) (by decide), e2 6 (by decide) (by decide) (by decide), e2 7 (by decide) (by decide) (by decide), e2 8 (by decide) (by decide) (by decide), e2 9 (by decide) (by decide) (by decide), e2 11 (by decide) (by decide) (by decide), e2 18 (by decide) (by decide) (by decide), e2 19 (by decide) (by decide) (by decide), e2 20 (by decide) (by decide) (by decide), e2 21 (by decide) (by decide) (by decide), e2 22 (by decide) (by decide) (by decide)]
      exact c7
    · rw [e1, Option.bind_some]
      dsimp only
      rw [f_ED_close_b121, e3, if_neg (show ¬ (1 : Int32) = 0 by decide)]
  · have c18 : A 18 6 = nI (E + 1) := c7.2.2.2.2.2.2.2.1
    by_cases z : F = 0
    · have b0 : A 0 12 = nI 0 := by rw [a12, z, Nat.zero_sub]
      refine ⟨A, ⟨c1, c2, c3, c4, c5, c6, c7⟩, Or.inr ⟨cF, ?_, a11, by rw [b0, z, Nat.zero_sub]⟩⟩
      rw [f_burn0 b0, Option.bind_some]
      dsimp only
      rw [f_ED_close_b121, a11, if_pos rfl, c18, nI_prd]
    · have b1 : A 0 12 = nI (F - ((Wl (fun x => nd m x && tT ok x)).length + 1) + 1) := by rw [a12]; congr 1; omega
      obtain ⟨g, hg⟩ : ∃ g, g = F - ((Wl (fun x => nd m x && tT ok x)).length + 1) := ⟨_, rfl⟩
      rw [← hg] at b1 ⊢
      have d0 : ∀ k, k ≠ 0 → zu A 0 12 (nI g) k = A k := fun k hk => zu_ne _ _ _ hk
      have d11 : zu A 0 12 (nI g) 0 11 = 0 := by rw [zu_eq, upd_ne _ _ (by decide)]; exact a11
      refine ⟨zu A 0 12 (nI g), ⟨fun k k0 k1 k2 => by rw [d0 k k0]; exact c1 k k0 k1 k2, fun i i1 i2 => by rw [zu_eq, upd_ne _ _ i2]; exact c2 i i1 i2, c3, c4, c5, c6, c7⟩, Or.inr ⟨cF, ?_, d11, by rw [zu_eq, upd_eq]⟩⟩
      rw [f_burnN b1 (by omega) (by omega), Option.bind_some]
      dsimp only
      rw [f_ED_close_b121, d11, if_pos rfl, d0 18 (by decide), c18, nI_prd]
