/-! the digests of rows: the class joins neighbours, the reference keeps a stack -/
def sr (M : zMem) (k : Nat) (r : Nat → Int32) : zMem := fun k' => if k' = k then r else M k'
theorem sr_self (M : zMem) (k : Nat) : sr M k (M k) = M := by
  funext k'
  unfold sr
  by_cases h : k' = k
  · rw [if_pos h, h]
  · rw [if_neg h]
theorem sr_at (M : zMem) (k : Nat) (r : Nat → Int32) : sr M k r k = r := if_pos rfl
theorem sr_ne (M : zMem) {k k' : Nat} (r : Nat → Int32) (h : k' ≠ k) : sr M k r k' = M k' := if_neg h
theorem zu_sr (M : zMem) (k j : Nat) (r : Nat → Int32) (v : Int32) : zu (sr M k r) k j v = sr M k (upd r j v) := by
  funext k'
  unfold zu
  by_cases h : k' = k
  · rw [if_pos h, sr_at, h, sr_at]
  · rw [if_neg h, sr_ne _ _ h, sr_ne _ _ h]
theorem div2 : ∀ n, n < 256 → nI n / 2 = nI (n / 2) := by decide +kernel
theorem rem2 : ∀ n, n < 256 → zrem (nI n) 2 = nI (n % 2) := by decide +kernel
theorem hi_l48 (N : Nat) (k35 : Int32 → zMem → Option (Int32 × zMem)) (M : zMem) (g : Nat → Int32) (n : Nat) (hn : n ≤ 40) : ∀ d i fuel r, i + d = n / 2 → d < fuel → (∀ j, r j = if j < i then zH (M 1 0) 4 (g (2 * j)) (g (2 * j + 1)) else g j) →
    ∃ r', (∀ j, j < n / 2 → r' j = zH (M 1 0) 4 (g (2 * j)) (g (2 * j + 1))) ∧ (n % 2 = 1 → r' (n / 2) = g (n - 1)) ∧ f_Hi_rowDigest_l48 N k35 fuel (nI n) (nI (n / 2)) (nI i) (sr M 23 r) = k35 (nI ((n + 1) / 2)) (sr M 23 r') := by
  intro d
  induction d with
  | zero =>
    intro i fuel r hi hf hr
    obtain ⟨fuel, rfl⟩ : ∃ m, fuel = m + 1 := ⟨fuel - 1, by omega⟩
    have hi2 : i = n / 2 := by omega
    subst hi2
    have hs : nI n - nI (n / 2) = nI ((n + 1) / 2) := by rw [nI_subN (by omega), show n - n / 2 = (n + 1) / 2 by omega]
    rw [f_Hi_rowDigest_l48, if_pos (nI_le (Nat.le_refl _) (by omega)), rem2 n (by omega)]
    unfold f_Hi_rowDigest_b118
    simp only [zlt, hs]
    by_cases ho : n % 2 = 1
    · refine ⟨upd r (n / 2) (g (n - 1)), fun j hj => ?_, fun _ => upd_eq _ _ _, ?_⟩
      · rw [upd_ne _ _ (by omega), hr j, if_pos hj]
      · have h1 : nI n - (1 : Int32) = nI (n - 1) := by rw [lN1, nI_subN (by omega)]
        rw [ho, if_pos (show nI 1 = (1 : Int32) from rfl), h1, if_pos (zin_t (show n - 1 < 40 by omega) (by decide)), if_pos (zin_t (show n / 2 < 40 by omega) (by decide)), nI_clamp (show n - 1 < 2 ^ 31 by omega), nI_clamp (show n / 2 < 2 ^ 31 by omega), sr_at, zu_sr, hr (n - 1), if_neg (by omega)]
    · refine ⟨r, fun j hj => by rw [hr j, if_pos hj], fun h => absurd h ho, ?_⟩
      rw [show n % 2 = 0 by omega, if_neg (show ¬ nI 0 = (1 : Int32) by decide)]
  | succ d ih =>
    intro i fuel r hi hf hr
    obtain ⟨fuel, rfl⟩ : ∃ m, fuel = m + 1 := ⟨fuel - 1, by omega⟩
    have e1 : (2 : Int32) * nI i = nI (2 * i) := by rw [lN2, nI_mulN]
    obtain ⟨r', q1, q2, q3⟩ := ih (i + 1) fuel (upd r i (zH (M 1 0) 4 (g (2 * i)) (g (2 * i + 1)))) (by omega) (by omega) (fun j => by
      by_cases hj : j = i
      · subst hj; rw [upd_eq, if_pos (by omega)]
      · rw [upd_ne _ _ hj, hr j]
        by_cases hji : j < i
        · rw [if_pos hji, if_pos (by omega)]
        · rw [if_neg hji, if_neg (by omega)])
    refine ⟨r', q1, q2, ?_⟩
    rw [f_Hi_rowDigest_l48, if_neg (by rw [nI_leI (by omega) (by omega)]; omega), e1, nI_1, if_pos (zin_t (show 2 * i < 40 by omega) (by decide)), if_pos (zin_t (show 2 * i + 1 < 40 by omega) (by decide)), nI_clamp (show 2 * i < 2 ^ 31 by omega), nI_clamp (show 2 * i + 1 < 2 ^ 31 by omega), f_digest]
    simp only [Option.bind_some, zlt]
    rw [if_pos (zin_t (show i < 40 by omega) (by decide)), nI_clamp (show i < 2 ^ 31 by omega), sr_at, zu_sr, nI_1, sr_ne _ _ (show 1 ≠ 23 by decide), hr (2 * i), hr (2 * i + 1), if_neg (by omega), if_neg (by omega)]
    exact q3
theorem hi_l35 {N : Nat} (hN : 41 ≤ N) (M : zMem) : ∀ n, 1 ≤ n → n ≤ 40 → ∀ fuel r, n ≤ fuel → ∃ r', f_Hi_rowDigest_l35 N fuel (nI n) (sr M 23 r) = some (rd (zH (M 1 0) 4) r 0 n, sr M 23 r') := by
  intro n
  induction n using Nat.strongRecOn with
  | ind n ih =>
    intro h1 h2 fuel r hf
    obtain ⟨fuel, rfl⟩ : ∃ m, fuel = m + 1 := ⟨fuel - 1, by omega⟩
    rw [f_Hi_rowDigest_l35]
    by_cases hn : n = 1
    · subst hn
      refine ⟨r, ?_⟩
      rw [if_pos (show nI 1 ≤ (1 : Int32) by decide), sr_at, rd_one _ _ _ (Nat.le_refl _)]
    · rw [if_neg (show ¬ nI n ≤ (1 : Int32) by rw [lN1, nI_leI (by omega) (by decide)]; omega), div2 n (by omega)]
      simp only [zlt]
      obtain ⟨r', q1, q2, q3⟩ := hi_l48 N (f_Hi_rowDigest_l35 N fuel) M r n h2 (n / 2) 0 N r (by omega) (by omega) (fun j => by rw [if_neg (by omega)])
      obtain ⟨r'', q4⟩ := ih ((n + 1) / 2) (by omega) (by omega) (by omega) fuel r' (by omega)
      refine ⟨r'', ?_⟩
      rw [show f_Hi_rowDigest_l48 N (f_Hi_rowDigest_l35 N fuel) N (nI n) (nI (n / 2)) 0 (sr M 23 r) = f_Hi_rowDigest_l35 N fuel (nI ((n + 1) / 2)) (sr M 23 r') from q3, q4]
      have := rd_half (zH (M 1 0) 4) r r' n 0 h1 (fun i hi => by rw [Nat.zero_add]; exact q1 i hi) (fun h => by rw [Nat.zero_add, q2 h]; congr 1; omega)
      rw [Nat.mul_zero] at this
      rw [this]
theorem hi_l7 {N : Nat} (hN : 41 ≤ N) (M : zMem) (s n : Nat) (h1 : 1 ≤ n) (h2 : s + n ≤ 40) : ∀ d i fuel r, i + d = n → d < fuel → (∀ j, j < i → r j = M 21 (s + j)) → ∃ r', f_Hi_rowDigest_l7 N fuel (nI s) (nI n) (nI i) (sr M 23 r) = some (rd (zH (M 1 0) 4) (fun j => M 21 (s + j)) 0 n, sr M 23 r') := by
  intro d
  induction d with
  | zero =>
    intro i fuel r hi hf hr
    obtain ⟨fuel, rfl⟩ : ∃ m, fuel = m + 1 := ⟨fuel - 1, by omega⟩
    have : i = n := by omega
    subst this
    obtain ⟨r', q⟩ := hi_l35 hN M i h1 (by omega) N r (by omega)
    refine ⟨r', ?_⟩
    rw [f_Hi_rowDigest_l7, if_pos (nI_le (Nat.le_refl _) (by omega)), q]
    rw [rd_congr _ (f := r) (g := fun j => M 21 (s + j)) i 0 (fun j hj => by rw [Nat.zero_add]; exact hr j hj) h1]
  | succ d ih =>
    intro i fuel r hi hf hr
    obtain ⟨fuel, rfl⟩ : ∃ m, fuel = m + 1 := ⟨fuel - 1, by omega⟩
    obtain ⟨r', q⟩ := ih (i + 1) fuel (upd r i (M 21 (s + i))) (by omega) (by omega) (fun j hj => by
      by_cases hji : j = i
      · subst hji; exact upd_eq _ _ _
      · rw [upd_ne _ _ hji]; exact hr j (by omega))
    refine ⟨r', ?_⟩
    rw [f_Hi_rowDigest_l7, if_neg (by rw [nI_leI (by omega) (by omega)]; omega), nI_add, if_pos (zin_t (show s + i < 40 by omega) (by decide)), if_pos (zin_t (show i < 40 by omega) (by decide)), nI_clamp (show s + i < 2 ^ 31 by omega), nI_clamp (show i < 2 ^ 31 by omega)]
    simp only [zlt]
    rw [zu_sr, sr_ne _ _ (show 21 ≠ 23 by decide), nI_1]
    exact q
theorem f_rowDigest {N : Nat} (hN : 41 ≤ N) (M : zMem) (s n : Nat) (h1 : 1 ≤ n) (h2 : s + n ≤ 40) : ∃ r', f_Hi_rowDigest N (nI s) (nI (s + n)) M = some (rd (zH (M 1 0) 4) (M 21) s n, sr M 23 r') := by
  obtain ⟨r', q⟩ := hi_l7 hN M s n h1 h2 n 0 N (M 23) (by omega) (by omega) (fun j hj => by omega)
  refine ⟨r', ?_⟩
  rw [f_Hi_rowDigest]
  simp only [zlt]
  rw [nI_subN (by omega), show s + n - s = n by omega]
  rw [sr_self] at q
  rw [show f_Hi_rowDigest_l7 N N (nI s) (nI n) 0 M = _ from q, rd_shift _ _ _ _ _ h1, Nat.add_zero]
