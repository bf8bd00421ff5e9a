/-! close(): the reference's close() whole -/
theorem lN128 : (128 : Int32) = nI 128 := rfl
theorem cp_l49 {N : Nat} (x1 : Int32) (Y : zMem) : ∀ d i fuel X, i + d = 128 → d < fuel → (∀ k, k ≠ 58 → k ≠ 59 → X k = Y k) → (∀ h, h < i → X 59 h = Y 57 h) → (∀ n, 2 * n < i → X 58 n = Y 56 n) → ∃ f' X', f_Mo_close_l49 N fuel x1 (nI i) X = f_Mo_close_l49 N (f' + 1) x1 (nI 128) X' ∧ (∀ k, k ≠ 58 → k ≠ 59 → X' k = Y k) ∧ (∀ h, h < 128 → X' 59 h = Y 57 h) ∧ ∀ n, n < 64 → X' 58 n = Y 56 n := by
  intro d
  induction d with
  | zero =>
    intro i fuel X hi hf hA h59 h58
    obtain ⟨fuel, rfl⟩ : ∃ m, fuel = m + 1 := ⟨fuel - 1, by omega⟩
    have : i = 128 := by omega
    subst this
    exact ⟨fuel, X, rfl, hA, h59, fun n hn => h58 n (by omega)⟩
  | succ d ih =>
    intro i fuel X hi hf hA h59 h58
    obtain ⟨fuel, rfl⟩ : ∃ m, fuel = m + 1 := ⟨fuel - 1, by omega⟩
    have e57 : X 57 i = Y 57 i := by rw [hA 57 (by decide) (by decide)]
    have e56 : zu X 59 i (Y 57 i) 56 (i / 2) = Y 56 (i / 2) := by rw [zu_ne _ _ _ (by decide), hA 56 (by decide) (by decide)]
    obtain ⟨f', X', a⟩ := ih (i + 1) fuel (zu (zu X 59 i (Y 57 i)) 58 (i / 2) (Y 56 (i / 2))) (by omega) (by omega) (fun k k1 k2 => by rw [zu_ne _ _ _ k1, zu_ne _ _ _ k2, hA k k1 k2]) (fun h hh => by
      rw [zu_ne _ _ _ (by decide), zu_eq]
      by_cases q : h = i
      · rw [q, upd_eq]
      · rw [upd_ne _ _ q]; exact h59 h (by omega)) (fun n hn => by
      rw [zu_eq]
      by_cases q : n = i / 2
      · rw [q, upd_eq]
      · rw [upd_ne _ _ q, zu_ne _ _ _ (by decide)]; exact h58 n (by omega))
    refine ⟨f', X', ?_, a.2⟩
    have z : zin (nI i) 128 = true := zin_t (by omega) (by decide)
    have z2 : zin (nI (i / 2)) 64 = true := zin_t (by omega) (by decide)
    rw [f_Mo_close_l49, if_neg (show ¬ (128 : Int32) ≤ nI i by rw [lN128, nI_leI (by decide) (by omega)]; omega), if_pos z, if_pos z, nI_clamp (show i < 2 ^ 31 by omega), e57, zlt_eq, div2 i (by omega), if_pos z2, if_pos z2, nI_clamp (show i / 2 < 2 ^ 31 by omega), e56, zlt_eq, zlt_eq, nI_1]
    exact a.1
theorem cp_l137 {N : Nat} (Y : zMem) : ∀ d i fuel X, i + d = 128 → d < fuel → (∀ k, k ≠ 56 → k ≠ 57 → X k = Y k) → (∀ h, h < i → X 57 h = Y 59 h) → (∀ n, 2 * n < i → X 56 n = Y 58 n) → ∃ X', f_Mo_close_l137 N fuel (nI i) X = f_Mo_close_l186 N N 0 X' ∧ (∀ k, k ≠ 56 → k ≠ 57 → X' k = Y k) ∧ (∀ h, h < 128 → X' 57 h = Y 59 h) ∧ ∀ n, n < 64 → X' 56 n = Y 58 n := by
  intro d
  induction d with
  | zero =>
    intro i fuel X hi hf hA h59 h58
    obtain ⟨fuel, rfl⟩ : ∃ m, fuel = m + 1 := ⟨fuel - 1, by omega⟩
    have : i = 128 := by omega
    subst this
    exact ⟨X, by rw [f_Mo_close_l137, if_pos (show (128 : Int32) ≤ nI 128 by decide)], hA, h59, fun n hn => h58 n (by omega)⟩
  | succ d ih =>
    intro i fuel X hi hf hA h59 h58
    obtain ⟨fuel, rfl⟩ : ∃ m, fuel = m + 1 := ⟨fuel - 1, by omega⟩
    have e57 : X 59 i = Y 59 i := by rw [hA 59 (by decide) (by decide)]
    have e56 : zu X 57 i (Y 59 i) 58 (i / 2) = Y 58 (i / 2) := by rw [zu_ne _ _ _ (by decide), hA 58 (by decide) (by decide)]
    obtain ⟨X', a⟩ := ih (i + 1) fuel (zu (zu X 57 i (Y 59 i)) 56 (i / 2) (Y 58 (i / 2))) (by omega) (by omega) (fun k k1 k2 => by rw [zu_ne _ _ _ k1, zu_ne _ _ _ k2, hA k k1 k2]) (fun h hh => by
      rw [zu_ne _ _ _ (by decide), zu_eq]
      by_cases q : h = i
      · rw [q, upd_eq]
      · rw [upd_ne _ _ q]; exact h59 h (by omega)) (fun n hn => by
      rw [zu_eq]
      by_cases q : n = i / 2
      · rw [q, upd_eq]
      · rw [upd_ne _ _ q, zu_ne _ _ _ (by decide)]; exact h58 n (by omega))
    refine ⟨X', ?_, a.2⟩
    have z : zin (nI i) 128 = true := zin_t (by omega) (by decide)
    have z2 : zin (nI (i / 2)) 64 = true := zin_t (by omega) (by decide)
    rw [f_Mo_close_l137, if_neg (show ¬ (128 : Int32) ≤ nI i by rw [lN128, nI_leI (by decide) (by omega)]; omega), if_pos z, if_pos z, nI_clamp (show i < 2 ^ 31 by omega), e57, zlt_eq, div2 i (by omega), if_pos z2, if_pos z2, nI_clamp (show i / 2 < 2 ^ 31 by omega), e56, zlt_eq, zlt_eq, nI_1]
    exact a.1
theorem cp_l186 {N E : Nat} (hE : E < 40) (Y : zMem) (h4 : Y 45 4 = nI E) : ∀ d i fuel X, i + d = 64 → d < fuel → (∀ k, k ≠ 46 → X k = Y k) → (∀ n, n < i → X 46 (64 * E + n) = Y 47 n) → (∀ q, q < 64 * E → X 46 q = Y 46 q) → ∃ X', f_Mo_close_l186 N fuel (nI i) X = f_Mo_close_b246 N X' ∧ (∀ k, k ≠ 45 → k ≠ 46 → k ≠ 49 → X' k = Y k) ∧ X' 45 = upd (Y 45) 4 (nI (E + 1)) ∧ X' 49 = upd (Y 49) E (Y 51 1) ∧ (∀ n, n < 64 → X' 46 (64 * E + n) = Y 47 n) ∧ ∀ q, q < 64 * E → X' 46 q = Y 46 q := by
  intro d
  induction d with
  | zero =>
    intro i fuel X hi hf hA h1 h2
    obtain ⟨fuel, rfl⟩ : ∃ m, fuel = m + 1 := ⟨fuel - 1, by omega⟩
    have : i = 64 := by omega
    subst this
    have e4 : X 45 4 = nI E := by rw [hA 45 (by decide)]; exact h4
    have e51 : X 51 1 = Y 51 1 := by rw [hA 51 (by decide)]
    have e4' : zu X 49 E (Y 51 1) 45 4 = nI E := by rw [zu_ne _ _ _ (by decide)]; exact e4
    refine ⟨zu (zu X 49 E (Y 51 1)) 45 4 (nI (E + 1)), ?_, fun k k1 k2 k3 => by rw [zu_ne _ _ _ k1, zu_ne _ _ _ k3, hA k k2], ?_, ?_, ?_, ?_⟩
    · rw [f_Mo_close_l186, if_pos (show (64 : Int32) ≤ nI 64 by decide), e4, if_pos (zin_t hE (by decide)), nI_clamp (show E < 2 ^ 31 by omega), e51, zlt_eq, e4', zlt_eq, nI_1]
    · rw [zu_eq, zu_ne _ _ _ (by decide), hA 45 (by decide)]
    · rw [zu_ne _ _ _ (by decide), zu_eq, hA 49 (by decide)]
    · rw [zu_ne _ _ _ (by decide), zu_ne _ _ _ (by decide)]; exact h1
    · rw [zu_ne _ _ _ (by decide), zu_ne _ _ _ (by decide)]; exact h2
  | succ d ih =>
    intro i fuel X hi hf hA h1 h2
    obtain ⟨fuel, rfl⟩ : ∃ m, fuel = m + 1 := ⟨fuel - 1, by omega⟩
    have e4 : X 45 4 = nI E := by rw [hA 45 (by decide)]; exact h4
    have e47 : X 47 i = Y 47 i := by rw [hA 47 (by decide)]
    have em : (64 : Int32) * nI E + nI i = nI (64 * E + i) := by rw [lN64, nI_mulN, nI_add]
    obtain ⟨X', a⟩ := ih (i + 1) fuel (zu X 46 (64 * E + i) (Y 47 i)) (by omega) (by omega) (fun k k1 => by rw [zu_ne _ _ _ k1, hA k k1]) (fun n hn => by
      rw [zu_eq]
      by_cases q : n = i
      · rw [q, upd_eq]
      · rw [upd_ne _ _ (by omega)]; exact h1 n (by omega)) (fun q hq => by
      rw [zu_eq, upd_ne _ _ (by omega)]; exact h2 q hq)
    refine ⟨X', ?_, a.2⟩
    rw [f_Mo_close_l186, if_neg (show ¬ (64 : Int32) ≤ nI i by rw [lN64, nI_leI (by decide) (by omega)]; omega), if_pos (zin_t (show i < 64 by omega) (by decide)), e4, em, if_pos (zin_t (show 64 * E + i < 2560 by omega) (by decide)), nI_clamp (show i < 2 ^ 31 by omega), nI_clamp (show 64 * E + i < 2 ^ 31 by omega), e47, zlt_eq, zlt_eq, nI_1]
    exact a.1
theorem fg_l2 {N E : Nat} (hE : E ≤ 40) (Y : zMem) (h4 : Y 45 4 = nI E) : ∀ d i fuel X, i + d = 64 → d < fuel → (∀ k, k ≠ 47 → k ≠ 48 → X k = Y k) → (∀ n, n < i → X 48 n = 0 ∧ X 47 n = if E = 0 then 0 else Y 46 (64 * (E - 1) + n)) → ∃ X', f_Mo_forget_l2 N fuel (nI i) X = some (0, X') ∧ (∀ k, k ≠ 47 → k ≠ 48 → X' k = Y k) ∧ ∀ n, n < 64 → X' 48 n = 0 ∧ X' 47 n = if E = 0 then 0 else Y 46 (64 * (E - 1) + n) := by
  intro d
  induction d with
  | zero =>
    intro i fuel X hi hf hA h1
    obtain ⟨fuel, rfl⟩ : ∃ m, fuel = m + 1 := ⟨fuel - 1, by omega⟩
    have : i = 64 := by omega
    subst this
    exact ⟨X, by rw [f_Mo_forget_l2, if_pos (show (64 : Int32) ≤ nI 64 by decide)], hA, h1⟩
  | succ d ih =>
    intro i fuel X hi hf hA h1
    obtain ⟨fuel, rfl⟩ : ∃ m, fuel = m + 1 := ⟨fuel - 1, by omega⟩
    have zi : zin (nI i) 64 = true := zin_t (by omega) (by decide)
    have ci : (nI i).toNatClampNeg = i := nI_clamp (show i < 2 ^ 31 by omega)
    obtain ⟨X', a⟩ := ih (i + 1) fuel (zu (zu X 48 i 0) 47 i (if E = 0 then 0 else Y 46 (64 * (E - 1) + i))) (by omega) (by omega) (fun k k1 k2 => by rw [zu_ne _ _ _ k1, zu_ne _ _ _ k2, hA k k1 k2]) (fun n hn => by
      rw [zu_eq, zu_ne _ _ _ (show 48 ≠ 47 by decide), zu_eq, zu_ne _ _ _ (show 47 ≠ 48 by decide)]
      by_cases q : n = i
      · rw [q, upd_eq, upd_eq]; exact ⟨rfl, rfl⟩
      · rw [upd_ne _ _ q, upd_ne _ _ q]; exact h1 n (by omega))
    refine ⟨X', ?_, a.2⟩
    have e4 : zu X 48 i 0 45 4 = nI E := by rw [zu_ne _ _ _ (by decide), hA 45 (by decide) (by decide)]; exact h4
    rw [f_Mo_forget_l2, if_neg (show ¬ (64 : Int32) ≤ nI i by rw [lN64, nI_leI (by decide) (by omega)]; omega), if_pos zi, ci, zlt_eq, e4]
    by_cases c : E = 0
    · rw [if_pos (show nI E = 0 by rw [c]; rfl), f_Mo_forget_b47, if_pos zi, ci, zlt_eq, zlt_eq, nI_1]
      rw [if_pos c] at a
      exact a.1
    · have em : (64 : Int32) * (nI E - 1) + nI i = nI (64 * (E - 1) + i) := by rw [lN1, nI_subN (show 1 ≤ E by omega), lN64, nI_mulN, nI_add]
      have e46 : zu X 48 i 0 46 (64 * (E - 1) + i) = Y 46 (64 * (E - 1) + i) := by rw [zu_ne _ _ _ (by decide), hA 46 (by decide) (by decide)]
      rw [if_neg (show ¬ nI E = 0 by rw [lN0, nI_eq (by omega) (by decide)]; exact c), em, if_pos (zin_t (show 64 * (E - 1) + i < 2560 by omega) (by decide)), nI_clamp (show 64 * (E - 1) + i < 2 ^ 31 by omega), e46, f_Mo_forget_b47, if_pos zi, ci, zlt_eq, zlt_eq, nI_1]
      rw [if_neg c] at a
      exact a.1
theorem g_b246 {N E : Nat} (hN : 65 ≤ N) (hE : E ≤ 40) (Y : zMem) (h4 : Y 45 4 = nI E) : ∃ X, f_Mo_close_b246 N Y = some (if Y 45 18 = 0 then nI E - 1 else -9, X) ∧ (∀ k, k ≠ 47 → k ≠ 48 → X k = Y k) ∧ ∀ n, n < 64 → X 48 n = 0 ∧ X 47 n = if E = 0 then 0 else Y 46 (64 * (E - 1) + n) := by
  obtain ⟨X, a, b, c⟩ := fg_l2 (N := N) hE Y h4 64 0 N Y (by omega) (by omega) (fun _ _ _ => rfl) (fun n hn => absurd hn (Nat.not_lt_zero _))
  refine ⟨X, ?_, b, c⟩
  have b45 := b 45 (by decide) (by decide)
  rw [f_Mo_close_b246, f_Mo_forget, lN0, a, Option.bind_some]
  dsimp only
  simp only [b45, h4]
  by_cases q : Y 45 18 = nI 0
  · rw [if_pos q, if_pos q]
  · rw [if_neg q, if_neg q]
/-- the reference refuses, or begins to write -/
theorem g_close0 {N Nb E F : Nat} (hN : 129 ≤ N) {m ok : Nat → Int32} {M : zMem} (hNb : Nb ≤ 300) (hE : E ≤ 40) (hF : F ≤ 100) (hm : M 47 = m) (hp : ∀ n, n < 64 → (M 48 n = 0 ↔ ok n = 0)) (h4 : M 45 4 = nI E) (h9 : M 45 9 = nI Nb) (h18 : M 45 18 = 0) : ∃ Y, (∀ k, ¬ (50 ≤ k ∧ k ≤ 52) → Y k = M k) ∧ (∀ h, 0 < h → h < 128 → tA (32 - M 45 0) m (Y 50) (Y 51) (Y 52) h) ∧ f_Mo_close N M = if E = 40 ∨ 300 < Nb + (Wl (fun x => nd m x && tT ok x)).length + 1 then some (-2, Y) else f_Mo_close_l49 N N (nI (Wl (fun x => nd m x && tT ok x)).length) (nI 0) Y := by
  obtain ⟨a, b, c, g1, g2⟩ := f_grow hN M (-1) m (Or.inr ⟨rfl, fun n _ => by rw [hm]⟩)
  have hL := Wl_len (fun x => nd m x && tT ok x)
  obtain ⟨Y, hY⟩ : ∃ Y, Y = w3 M 50 a b c := ⟨_, rfl⟩
  have yo : ∀ k, ¬ (50 ≤ k ∧ k ≤ 52) → Y k = M k := fun k hk => by rw [hY, w3_ne _ _ _ _ _ (by omega) (by omega) (by omega)]
  have y50 : Y 50 = a := by rw [hY]; exact w3_0 _ _ _ _ _
  have y51 : Y 51 = b := by rw [hY]; exact w3_1 _ _ _ _ _
  have y52 : Y 52 = c := by rw [hY]; exact w3_2 _ _ _ _ _
  have tAl : ∀ h, 0 < h → h < 128 → tA (32 - M 45 0) m (Y 50) (Y 51) (Y 52) h := by rw [y50, y51, y52]; exact g2
  have y45 := yo 45 (by decide)
  have cnt := g_count (N := N) (m := m) (ok := ok) hN (M := Y) (fun x x1 x2 => (tAl x x1 x2).1) (by rw [yo 48 (by decide)]; exact hp) (by rw [y45]; exact h18)
  refine ⟨Y, yo, tAl, ?_⟩
  rw [f_Mo_close, h18, if_pos rfl, g1, Option.bind_some, ← hY]
  dsimp only
  rw [cnt, Option.bind_some]
  simp only [y45, h4, h9]
  by_cases c1 : E = 40
  · rw [if_pos (show nI E = 40 by rw [c1]; rfl), if_pos (Or.inl c1)]
  · rw [if_neg (show ¬ nI E = 40 by rw [lN40, nI_eq (by omega) (by decide)]; exact c1), nI_add, nI_1]
    by_cases c2 : Nb + (Wl (fun x => nd m x && tT ok x)).length + 1 ≤ 300
    · rw [if_pos (show nI (Nb + (Wl (fun x => nd m x && tT ok x)).length + 1) ≤ 300 by rw [lN300, nI_leI (by omega) (by decide)]; exact c2), if_neg (by omega)]
      rfl
    · rw [if_neg (show ¬ nI (Nb + (Wl (fun x => nd m x && tT ok x)).length + 1) ≤ 300 by rw [lN300, nI_leI (by omega) (by decide)]; exact c2), if_pos (by omega)]
/-- the reference stopped while it wrote -/
def rA (m ok la : Nat → Int32) (Nb E F : Nat) (M X : zMem) : Prop := (∀ k, k ≠ 45 → k ≠ 47 → k ≠ 48 → ¬ (50 ≤ k ∧ k ≤ 55) → k ≠ 58 → k ≠ 59 → X k = M k) ∧ (∀ i, i ≠ 9 → i ≠ 17 → i ≠ 18 → X 45 i = M 45 i) ∧ X 45 9 = nI (Nb + F) ∧ X 45 17 = nI 0 ∧ X 45 18 = 1 ∧ (∀ i, i < Nb → X 53 i = M 53 i ∧ X 54 i = M 54 i ∧ X 55 i = M 55 i) ∧ wrt Nb F m (Bv m ok la Nb) (Wn (fun x => nd m x && tT ok x)) (X 53) (X 54) (X 55) ∧ ∀ n, n < 64 → X 48 n = 0 ∧ X 47 n = if E = 0 then 0 else M 46 (64 * (E - 1) + n)
/-- the reference closed an epoch whole -/
def rE (s : Int32) (m ok la : Nat → Int32) (Nb E F : Nat) (M X : zMem) : Prop := (∀ k, ¬ (45 ≤ k ∧ k ≤ 59) → X k = M k) ∧ (∀ i, i ≠ 4 → i ≠ 9 → i ≠ 17 → i ≠ 18 → X 45 i = M 45 i) ∧ X 45 4 = nI (E + 1) ∧ X 45 9 = nI (Nb + (Wl (fun x => nd m x && tT ok x)).length + 1) ∧ X 45 17 = nI (F - ((Wl (fun x => nd m x && tT ok x)).length + 1)) ∧ X 45 18 = (if F = (Wl (fun x => nd m x && tT ok x)).length + 1 then 1 else 0) ∧
  (∀ i, i < Nb → X 53 i = M 53 i ∧ X 54 i = M 54 i ∧ X 55 i = M 55 i) ∧ wrt Nb (Wl (fun x => nd m x && tT ok x)).length m (Bv m ok la Nb) (Wn (fun x => nd m x && tT ok x)) (X 53) (X 54) (X 55) ∧
  (X 53 (Nb + (Wl (fun x => nd m x && tT ok x)).length) = 3 ∧ X 54 (Nb + (Wl (fun x => nd m x && tT ok x)).length) = nI E ∧ X 55 (Nb + (Wl (fun x => nd m x && tT ok x)).length) = Bv m ok la Nb 1) ∧
  (∀ h, 1 ≤ h → h < 64 → X 57 h = LL m la Nb (Wn (fun x => nd m x && tT ok x)) (Wl (fun x => nd m x && tT ok x)).length h) ∧ (∀ n, n < 64 → X 56 n = LL m la Nb (Wn (fun x => nd m x && tT ok x)) (Wl (fun x => nd m x && tT ok x)).length (64 + idx n)) ∧
  (∀ q, q < 64 * E → X 46 q = M 46 q) ∧ (∀ n, n < 64 → X 46 (64 * E + n) = m n) ∧ X 49 = upd (M 49) E (dT s m 1) ∧ ∀ n, n < 64 → X 48 n = 0 ∧ X 47 n = m n
theorem g_close {N Nb E F : Nat} (hN : 129 ≤ N) {m ok la : Nat → Int32} {M : zMem} (hE : E < 40) (hF : F ≤ 100) (hm : M 47 = m) (hp : ∀ n, n < 64 → (M 48 n = 0 ↔ ok n = 0)) (h4 : M 45 4 = nI E) (h9 : M 45 9 = nI Nb) (h17 : M 45 17 = nI F) (h18 : M 45 18 = 0) (h57 : ∀ h, 1 ≤ h → h < 64 → la h = M 57 h) (h56 : ∀ n, n < 64 → la (64 + idx n) = M 56 n) (hNb : Nb + (Wl (fun x => nd m x && tT ok x)).length + 1 ≤ 300) : (1 ≤ F → F ≤ (Wl (fun x => nd m x && tT ok x)).length → ∃ X, f_Mo_close N M = some (-9, X) ∧ rA m ok la Nb E F M X) ∧ (F = 0 ∨ (Wl (fun x => nd m x && tT ok x)).length < F → ∃ X, f_Mo_close N M = some (if F = (Wl (fun x => nd m x && tT ok x)).length + 1 then -9 else nI E, X) ∧ rE (32 - M 45 0) m ok la Nb E F M X) := by
  obtain ⟨K, hK⟩ : ∃ K, K = (Wl (fun x => nd m x && tT ok x)).length := ⟨_, rfl⟩
  have hL := Wl_len (fun x => nd m x && tT ok x)
  obtain ⟨Y0, u1, u2, u3⟩ := g_close0 (N := N) (ok := ok) hN (by omega) (by omega) hF hm hp h4 h9 h18
  rw [if_neg (by omega)] at u3
  obtain ⟨f', Y, v1, v2, v3, v4⟩ := cp_l49 (N := N) (nI (Wl (fun x => nd m x && tT ok x)).length) Y0 128 0 N Y0 (by omega) (by omega) (fun _ _ _ => rfl) (fun h hh => absurd hh (Nat.not_lt_zero _)) (fun n hn => absurd hn (Nat.not_lt_zero _))
  have yM : ∀ k, ¬ (50 ≤ k ∧ k ≤ 52) → k ≠ 58 → k ≠ 59 → Y k = M k := fun k k1 k2 k3 => by rw [v2 k k2 k3, u1 k k1]
  have y45 := yM 45 (by decide) (by decide) (by decide)
  have tAl : ∀ h, 0 < h → h < 128 → tA (32 - M 45 0) m (Y 50) (Y 51) (Y 52) h := by
    rw [v2 50 (by decide) (by decide), v2 51 (by decide) (by decide), v2 52 (by decide) (by decide)]; exact u2
  obtain ⟨c, X, x1, x2, x3⟩ := g_nodes (N := N) (F := F) hN (la := la) hNb hF (by rw [yM 47 (by decide) (by decide) (by decide)]; exact hm) tAl (by rw [yM 48 (by decide) (by decide) (by decide)]; exact hp) (by rw [y45]; exact h9) (by rw [y45]; exact h17) (by rw [y45]; exact h18) (fun h a b => by rw [v3 h (by omega), u1 57 (by decide), h57 h a b]) (fun n hn => by rw [v4 n hn, u1 56 (by decide), h56 n hn])
  obtain ⟨a1, a2, a3, a4, a5, a6, a7⟩ := id x2
  have st : f_Mo_close N M = (if X 45 18 = 0 then (if nI c = nI (Wl (fun x => nd m x && tT ok x)).length then f_Mo_close_b113 N 1 X else f_Mo_close_b112 N X) else f_Mo_close_b112 N X) := by
    rw [u3, v1, f_Mo_close_l49, if_pos (show (128 : Int32) ≤ nI 128 by decide), x1, Option.bind_some]
  rw [← hK] at hNb hL st ⊢
  have x4 : X 45 4 = nI E := by rw [a2 4 (by decide) (by decide) (by decide), y45]; exact h4
  constructor
  · intro f1 f2
    rcases x3 with ⟨P, p1, p2, p3, p4, p5⟩ | ⟨p1, p2, p3, p4, p5⟩
    · rw [List.append_nil] at p1
      subst p1
      have : c = K := by rw [p2, hK]; rfl
      omega
    · subst p3
      obtain ⟨Z, z1, z2, z3⟩ := g_b246 (N := N) (by omega) (by omega) X x4
      refine ⟨Z, ?_, fun k k1 k2 k3 k4 k5 k6 => ?_, ?_, ?_, ?_, ?_, fun i hi => ?_, ?_, fun n hn => ?_⟩
      · rw [st, if_neg (show ¬ X 45 18 = 0 by rw [p5]; decide), f_Mo_close_b112, f_Mo_close_b113, if_pos rfl, z1, if_neg (show ¬ X 45 18 = 0 by rw [p5]; decide)]
      · rw [z2 k k2 k3, a7 k k1 (by omega) k5 k6, yM k (by omega) k5 k6]
      · intro i i1 i2 i3
        rw [z2 45 (by decide) (by decide), a2 i i1 i2 i3, y45]
      · rw [z2 45 (by decide) (by decide)]; exact a1
      · rw [z2 45 (by decide) (by decide)]; exact p4
      · rw [z2 45 (by decide) (by decide)]; exact p5
      · rw [z2 53 (by decide) (by decide), z2 54 (by decide) (by decide), z2 55 (by decide) (by decide), ← yM 53 (by decide) (by decide) (by decide), ← yM 54 (by decide) (by decide) (by decide), ← yM 55 (by decide) (by decide) (by decide)]
        exact a3 i hi
      · rw [z2 53 (by decide) (by decide), z2 54 (by decide) (by decide), z2 55 (by decide) (by decide)]
        exact a4
      · have q := z3 n hn
        rw [a7 46 (by decide) (by decide) (by decide) (by decide), yM 46 (by decide) (by decide) (by decide)] at q
        exact q
  · intro f1
    rcases x3 with ⟨P, p1, p2, p3, p4, p5⟩ | ⟨p1, p2, p3, p4, p5⟩
    · rw [List.append_nil] at p1
      subst p1
      have ec : c = K := by rw [p2, hK]; rfl
      subst ec
      have bo : f_Mo_blockOf N (nI 1) X = some (Bv m ok la Nb 1, X) := g_blockOf (N := N) (by omega) x2 tAl (by omega) (by omega) (Or.inl rfl) (fun q1 q2 => by rw [hK]; exact (rk_W (wr := fun x => nd m x && tT ok x) (by omega) (by omega) (by rw [q1, q2]; rfl)).2)
      obtain ⟨r, hr⟩ := f_write (N := N) a1 (by omega) p4 (by omega) 3 (nI E) (Bv m ok la Nb 1)
      obtain ⟨A, hA⟩ : ∃ A, A = mwM X (Nb + c) 3 (nI E) (Bv m ok la Nb 1) (F - c) := ⟨_, rfl⟩
      rw [← hA] at hr
      have A45 : A 45 = upd (upd (upd (X 45) 9 (nI (Nb + c + 1))) 18 (if F - c = 1 then 1 else 0)) 17 (nI (F - c - 1)) := by rw [hA, mw_45]
      have A53 : A 53 = upd (X 53) (Nb + c) 3 := by rw [hA, mw_53]
      have A54 : A 54 = upd (X 54) (Nb + c) (nI E) := by rw [hA, mw_54]
      have A55 : A 55 = upd (X 55) (Nb + c) (Bv m ok la Nb 1) := by rw [hA, mw_55]
      have An : ∀ k, k ≠ 45 → ¬ (53 ≤ k ∧ k ≤ 55) → A k = X k := fun k k1 k2 => by rw [hA, mw_ne _ _ _ _ _ _ k1 k2]
      obtain ⟨B, b1, b2, b3, b4⟩ := cp_l137 (N := N) A 128 0 N A (by omega) (by omega) (fun _ _ _ => rfl) (fun h hh => absurd hh (Nat.not_lt_zero _)) (fun n hn => absurd hn (Nat.not_lt_zero _))
      have A4 : A 45 4 = nI E := by rw [A45, upd_ne _ _ (by decide), upd_ne _ _ (by decide), upd_ne _ _ (by decide)]; exact x4
      have B4 : B 45 4 = nI E := by rw [b2 45 (by decide) (by decide)]; exact A4
      obtain ⟨D, d1, d2, d3, d4, d5, d6⟩ := cp_l186 (N := N) hE B B4 64 0 N B (by omega) (by omega) (fun _ _ => rfl) (fun n hn => absurd hn (Nat.not_lt_zero _)) (fun _ _ => rfl)
      have D4 : D 45 4 = nI (E + 1) := by rw [d3, upd_eq]
      have D45 : ∀ i, i ≠ 4 → D 45 i = A 45 i := fun i hi => by rw [d3, upd_ne _ _ hi, b2 45 (by decide) (by decide)]
      have D18 : D 45 18 = if F = c + 1 then 1 else 0 := by
        rw [D45 18 (by decide), A45, upd_ne _ _ (by decide), upd_eq]
        by_cases q : F = c + 1
        · rw [if_pos (show F - c = 1 by omega), if_pos q]
        · rw [if_neg (show ¬ F - c = 1 by omega), if_neg q]
      obtain ⟨Z, z1, z2, z3⟩ := g_b246 (N := N) (by omega) (by omega) D D4
      have e47 : ∀ n, B 47 n = m n := fun n => by rw [b2 47 (by decide) (by decide), An 47 (by decide) (by decide), a7 47 (by decide) (by decide) (by decide) (by decide), yM 47 (by decide) (by decide) (by decide), hm]
      have dX : ∀ k, k ≠ 45 → k ≠ 46 → k ≠ 47 → k ≠ 48 → k ≠ 49 → ¬ (53 ≤ k ∧ k ≤ 55) → k ≠ 56 → k ≠ 57 → Z k = X k := fun k k1 k2 k3 k4 k5 k6 k7 k8 => by rw [z2 k k3 k4, d2 k k1 k2 k5, b2 k k7 k8, An k k1 k6]
      have dA : ∀ k, 53 ≤ k → k ≤ 55 → Z k = A k := fun k k1 k2 => by rw [z2 k (by omega) (by omega), d2 k (by omega) (by omega) (by omega), b2 k (by omega) (by omega)]
      have dB : ∀ k, 56 ≤ k → k ≤ 57 → Z k = B k := fun k k1 k2 => by rw [z2 k (by omega) (by omega), d2 k (by omega) (by omega) (by omega)]
      have z45 := z2 45 (by decide) (by decide)
      refine ⟨Z, ?_, ?_⟩
      · have bo' : f_Mo_blockOf N 1 X = some (Bv m ok la Nb 1, X) := bo
        rw [st, if_pos p5, if_pos rfl, f_Mo_close_b113, if_neg (show ¬ (1 : Int32) = 0 by decide), bo', Option.bind_some]
        dsimp only
        rw [x4, hr, Option.bind_some]
        dsimp only
        rw [lN0, b1, lN0, d1, z1, D18]
        by_cases q : F = c + 1
        · rw [if_pos q, if_pos q, if_neg (by decide)]
        · rw [if_neg q, if_neg q, if_pos rfl, nI_prd]
      · unfold rE
        rw [← hK]
        refine ⟨fun k hk => ?_, fun i i1 i2 i3 i4 => ?_, ?_, ?_, ?_, ?_, fun i hi => ?_, fun i hi => ?_, ⟨?_, ?_, ?_⟩, fun h q1 q2 => ?_, fun n hn => ?_, fun q hq => ?_, fun n hn => ?_, ?_, fun n hn => ?_⟩
        · rw [dX k (by omega) (by omega) (by omega) (by omega) (by omega) (by omega) (by omega) (by omega), a7 k (by omega) (by omega) (by omega) (by omega), yM k (by omega) (by omega) (by omega)]
        · rw [z45, D45 i i1, A45, upd_ne _ _ i3, upd_ne _ _ i4, upd_ne _ _ i2, a2 i i2 i3 i4, y45]
        · rw [z45]; exact D4
        · rw [z45, D45 9 (by decide), A45, upd_ne _ _ (by decide), upd_ne _ _ (by decide), upd_eq]
        · rw [z45, D45 17 (by decide), A45, upd_eq]; rfl
        · rw [z45]; exact D18
        · rw [dA 53 (by decide) (by decide), dA 54 (by decide) (by decide), dA 55 (by decide) (by decide), A53, A54, A55, upd_ne _ _ (show i ≠ Nb + c by omega), upd_ne _ _ (show i ≠ Nb + c by omega), upd_ne _ _ (show i ≠ Nb + c by omega), ← yM 53 (by decide) (by decide) (by decide), ← yM 54 (by decide) (by decide) (by decide), ← yM 55 (by decide) (by decide) (by decide)]
          exact a3 i hi
        · rw [dA 53 (by decide) (by decide), dA 54 (by decide) (by decide), dA 55 (by decide) (by decide), A53, A54, A55, upd_ne _ _ (show Nb + i ≠ Nb + c by omega), upd_ne _ _ (show Nb + i ≠ Nb + c by omega), upd_ne _ _ (show Nb + i ≠ Nb + c by omega)]
          exact a4 i hi
        · rw [dA 53 (by decide) (by decide), A53, upd_eq]
        · rw [dA 54 (by decide) (by decide), A54, upd_eq]
        · rw [dA 55 (by decide) (by decide), A55, upd_eq]
        · rw [dB 57 (by decide) (by decide), b3 h (by omega), An 59 (by decide) (by decide)]; exact a5 h q1 q2
        · rw [dB 56 (by decide) (by decide), b4 n hn, An 58 (by decide) (by decide)]; exact a6 n hn
        · rw [z2 46 (by decide) (by decide), d6 q hq, b2 46 (by decide) (by decide), An 46 (by decide) (by decide), a7 46 (by decide) (by decide) (by decide) (by decide), yM 46 (by decide) (by decide) (by decide)]
        · rw [z2 46 (by decide) (by decide), d5 n hn, e47]
        · rw [z2 49 (by decide) (by decide), d4, b2 49 (by decide) (by decide), b2 51 (by decide) (by decide), An 49 (by decide) (by decide), An 51 (by decide) (by decide), a7 49 (by decide) (by decide) (by decide) (by decide), a7 51 (by decide) (by decide) (by decide) (by decide), yM 49 (by decide) (by decide) (by decide), (tAl 1 (by decide) (by decide)).2.1]
        · obtain ⟨q1, q2⟩ := z3 n hn
          refine ⟨q1, ?_⟩
          rw [q2, if_neg (by omega), show E + 1 - 1 = E by omega, d5 n hn, e47]
    · omega
