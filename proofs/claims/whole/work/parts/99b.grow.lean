/-! the tree of a map, and the reference's grow -/
theorem cT_in (m : Nat → Int32) {h : Nat} (h0 : 0 < h) (h1 : h < 64) : cT m h = cT m (2 * h) + cT m (2 * h + 1) := by
  rw [cT, dif_pos ⟨h0, h1⟩]
theorem cT_lf (m : Nat → Int32) {h : Nat} (h1 : 64 ≤ h) : cT m h = if m (ixn (h - 64)) = 0 then 0 else 1 := by
  rw [cT, dif_neg (by omega)]
theorem dT_in2 (s : Int32) (m : Nat → Int32) {h : Nat} (h0 : 0 < h) (h1 : h < 64) (hc : 1 < cT m h) : dT s m h = zH s 2 (dT s m (2 * h)) (dT s m (2 * h + 1)) := by
  rw [dT, dif_pos ⟨h0, h1⟩, if_pos hc]
theorem dT_in1 (s : Int32) (m : Nat → Int32) {h : Nat} (h0 : 0 < h) (h1 : h < 64) (hc : ¬ 1 < cT m h) : dT s m h = dT s m (2 * h) + dT s m (2 * h + 1) := by
  rw [dT, dif_pos ⟨h0, h1⟩, if_neg hc]
theorem dT_lf (s : Int32) (m : Nat → Int32) {h : Nat} (h1 : 64 ≤ h) : dT s m h = if m (ixn (h - 64)) = 0 then 0 else zH s 1 (nI (ixn (h - 64))) (m (ixn (h - 64))) := by
  rw [dT, dif_neg (by omega)]
theorem oT_in1 (m : Nat → Int32) {h : Nat} (h0 : 0 < h) (h1 : h < 64) (hc : cT m h = 1) : oT m h = oT m (2 * h) + oT m (2 * h + 1) + 1 := by
  rw [oT, dif_pos ⟨h0, h1⟩, if_pos hc]
theorem oT_in0 (m : Nat → Int32) {h : Nat} (h0 : 0 < h) (h1 : h < 64) (hc : ¬ cT m h = 1) : oT m h = -1 := by
  rw [oT, dif_pos ⟨h0, h1⟩, if_neg hc]
theorem oT_lf (m : Nat → Int32) {h : Nat} (h1 : 64 ≤ h) : oT m h = if m (ixn (h - 64)) = 0 then -1 else nI (ixn (h - 64)) := by
  rw [oT, dif_neg (by omega)]
theorem idx_ixn : ∀ i, i < 64 → idx (ixn i) = i ∧ ixn i < 64 := by decide
theorem ixn_idx : ∀ n, n < 64 → ixn (idx n) = n := by decide
theorem cT_le (m : Nat → Int32) : ∀ r, r ≤ 6 → ∀ h, 2 ^ (6 - r) ≤ h → h < 2 ^ (7 - r) → cT m h ≤ 2 ^ r := by
  intro r
  induction r with
  | zero =>
    intro _ h h1 h2
    rw [cT_lf m (show 64 ≤ h from h1)]
    split <;> decide
  | succ r ih =>
    intro hr h h1 h2
    have e1 : (2 : Nat) ^ (6 - r) = 2 * 2 ^ (6 - (r + 1)) := by rw [← Nat.pow_succ']; congr 1; omega
    have e2 : (2 : Nat) ^ (7 - r) = 2 * 2 ^ (7 - (r + 1)) := by rw [← Nat.pow_succ']; congr 1; omega
    have e3 : (2 : Nat) ^ (7 - (r + 1)) ≤ 2 ^ 6 := Nat.pow_le_pow_right (by decide) (by omega)
    have e4 : 0 < (2 : Nat) ^ (6 - (r + 1)) := Nat.pow_pos (by decide)
    have e5 : (2 : Nat) ^ 6 = 64 := rfl
    rw [cT_in m (by omega) (by omega), Nat.pow_succ]
    have a := ih (by omega) (2 * h) (by omega) (by omega)
    have b := ih (by omega) (2 * h + 1) (by omega) (by omega)
    omega
theorem lv_ex : ∀ h, h < 128 → 1 ≤ h → ∃ r, r ≤ 6 ∧ 2 ^ (6 - r) ≤ h ∧ h < 2 ^ (7 - r) := by decide
theorem cT_64 (m : Nat → Int32) {h : Nat} (h1 : 1 ≤ h) (h2 : h < 128) : cT m h ≤ 64 := by
  obtain ⟨r, a, b, c⟩ := lv_ex h h2 h1
  have := cT_le m r a h b c
  have e : (2 : Nat) ^ r ≤ 2 ^ 6 := Nat.pow_le_pow_right (by decide) a
  have e5 : (2 : Nat) ^ 6 = 64 := rfl
  omega
theorem cT_zero (s : Int32) (m : Nat → Int32) : ∀ k h, h + k = 128 → 1 ≤ h → 1 ≤ k → cT m h = 0 → dT s m h = 0 ∧ oT m h = -1 := by
  intro k
  induction k using Nat.strongRecOn with
  | _ k ih =>
    intro h hk h1 k1 hc
    by_cases c : h < 64
    · rw [cT_in m (by omega) c] at hc
      have a := ih (128 - 2 * h) (by omega) (2 * h) (by omega) (by omega) (by omega) (by omega)
      have b := ih (128 - (2 * h + 1)) (by omega) (2 * h + 1) (by omega) (by omega) (by omega) (by omega)
      have hc' : cT m h = 0 := by rw [cT_in m (by omega) c]; exact hc
      rw [dT_in1 s m (by omega) c (by omega), oT_in0 m (by omega) c (by omega), a.1, b.1]
      exact ⟨rfl, rfl⟩
    · rw [cT_lf m (by omega)] at hc
      have hz : m (ixn (h - 64)) = 0 := by
        by_cases z : m (ixn (h - 64)) = 0
        · exact z
        · rw [if_neg z] at hc; omega
      rw [dT_lf s m (by omega), oT_lf m (by omega), if_pos hz, if_pos hz]
      exact ⟨rfl, rfl⟩
theorem cT_one (s : Int32) (m : Nat → Int32) : ∀ k h, h + k = 128 → 1 ≤ h → 1 ≤ k → cT m h = 1 → ∃ n, n < 64 ∧ oT m h = nI n ∧ m n ≠ 0 ∧ dT s m h = zH s 1 (nI n) (m n) ∧ ∃ j, j ≤ 6 ∧ (64 + idx n) / 2 ^ j = h := by
  intro k
  induction k using Nat.strongRecOn with
  | _ k ih =>
    intro h hk h1 k1 hc
    by_cases c : h < 64
    · have hc' := hc
      rw [cT_in m (by omega) c] at hc
      have key : ∀ h', (h' = 2 * h ∨ h' = 2 * h + 1) → ∀ n, (∃ j, j ≤ 6 ∧ (64 + idx n) / 2 ^ j = h') → ∃ j, j ≤ 6 ∧ (64 + idx n) / 2 ^ j = h := by
        rintro h' hh n ⟨j, hj, e⟩
        have hi := idx_lt n
        refine ⟨j + 1, ?_, ?_⟩
        · by_cases j6 : j = 6
          · subst j6
            have : (64 + idx n) / 2 ^ 6 = 1 := by have e6 : (2 : Nat) ^ 6 = 64 := rfl; rw [e6]; omega
            omega
          · omega
        · rw [Nat.pow_succ, ← Nat.div_div_eq_div_mul, e]; omega
      by_cases c0 : cT m (2 * h) = 0
      · obtain ⟨a1, a2⟩ := cT_zero s m (128 - 2 * h) (2 * h) (by omega) (by omega) (by omega) c0
        obtain ⟨n, n1, n2, n3, n4, n5⟩ := ih (128 - (2 * h + 1)) (by omega) (2 * h + 1) (by omega) (by omega) (by omega) (by omega)
        refine ⟨n, n1, ?_, n3, ?_, key _ (Or.inr rfl) n n5⟩
        · rw [oT_in1 m (by omega) c hc', a2, n2, Int32.add_comm (-1) (nI n), Int32.add_assoc, show (-1 : Int32) + 1 = 0 by decide, Int32.add_zero]
        · rw [dT_in1 s m (by omega) c (by omega), a1, n4, Int32.zero_add]
      · obtain ⟨a1, a2⟩ := cT_zero s m (128 - (2 * h + 1)) (2 * h + 1) (by omega) (by omega) (by omega) (by omega)
        obtain ⟨n, n1, n2, n3, n4, n5⟩ := ih (128 - 2 * h) (by omega) (2 * h) (by omega) (by omega) (by omega) (by omega)
        refine ⟨n, n1, ?_, n3, ?_, key _ (Or.inl rfl) n n5⟩
        · rw [oT_in1 m (by omega) c hc', a2, n2, Int32.add_assoc, show (-1 : Int32) + 1 = 0 by decide, Int32.add_zero]
        · rw [dT_in1 s m (by omega) c (by omega), a1, n4, Int32.add_zero]
    · rw [cT_lf m (by omega)] at hc
      have hz : m (ixn (h - 64)) ≠ 0 := fun z => by rw [if_pos z] at hc; omega
      obtain ⟨i1, i2⟩ := idx_ixn (h - 64) (by omega)
      refine ⟨ixn (h - 64), i2, ?_, hz, ?_, 0, by decide, by rw [i1]; show (64 + (h - 64)) / 1 = h; rw [Nat.div_one]; omega⟩
      · rw [oT_lf m (by omega), if_neg hz]
      · rw [dT_lf s m (by omega), if_neg hz]
theorem gr_l2 {N : Nat} (M : zMem) (x1 : Int32) : ∀ d i fuel a b c, i + d = 128 → d < fuel → (∀ j, j < i → a j = 0 ∧ b j = 0 ∧ c j = -1) → ∃ a' b' c', f_Mo_grow_l2 N fuel x1 (nI i) (w3 M 50 a b c) = f_Mo_grow_l38 N N x1 0 (w3 M 50 a' b' c') ∧ ∀ j, j < 128 → a' j = 0 ∧ b' j = 0 ∧ c' j = (-1 : Int32) := by
  intro d
  induction d with
  | zero =>
    intro i fuel a b c hi hf h
    obtain ⟨fuel, rfl⟩ : ∃ m, fuel = m + 1 := ⟨fuel - 1, by omega⟩
    have : i = 128 := by omega
    subst this
    exact ⟨a, b, c, by rw [f_Mo_grow_l2, if_pos (show (128 : Int32) ≤ nI 128 by decide)], h⟩
  | succ d ih =>
    intro i fuel a b c hi hf h
    obtain ⟨fuel, rfl⟩ : ∃ m, fuel = m + 1 := ⟨fuel - 1, by omega⟩
    have z : zin (nI i) 128 = true := zin_t (by omega) (by decide)
    obtain ⟨a', b', c', g1, g2⟩ := ih (i + 1) fuel (upd a i 0) (upd b i 0) (upd c i (-1)) (by omega) (by omega) (fun j hj => by
      by_cases e : j = i
      · rw [e, upd_eq, upd_eq, upd_eq]; exact ⟨rfl, rfl, rfl⟩
      · rw [upd_ne _ _ e, upd_ne _ _ e, upd_ne _ _ e]; exact h j (by omega))
    refine ⟨a', b', c', ?_, g2⟩
    rw [f_Mo_grow_l2, if_neg (show ¬ (128 : Int32) ≤ nI i by rw [show (128 : Int32) = nI 128 from rfl, nI_leI (by decide) (by omega)]; omega), if_pos z, nI_clamp (show i < 2 ^ 31 by omega), zlt_eq, if_pos z, zlt_eq, if_pos z, zlt_eq, zlt_eq, zu_w3_0, zu_w3_1, zu_w3_2, nI_1]
    exact g1
/-- the arrays say the tree of m from h on -/
def tA (s : Int32) (m a b c : Nat → Int32) (h : Nat) : Prop := a h = nI (cT m h) ∧ b h = dT s m h ∧ c h = oT m h
theorem gr_l38 {N : Nat} (M : zMem) (x1 : Int32) (m : Nat → Int32) (hm : (∃ e, e < 40 ∧ x1 = nI (64 * e) ∧ ∀ n, n < 64 → m n = M 46 (64 * e + n)) ∨ (x1 = -1 ∧ ∀ n, n < 64 → m n = M 47 n)) : ∀ d i fuel a b c, i + d = 64 → d < fuel → (∀ n, n < 64 → (n < i → tA (32 - M 45 0) m a b c (64 + idx n)) ∧ (i ≤ n → a (64 + idx n) = 0 ∧ b (64 + idx n) = 0 ∧ c (64 + idx n) = -1)) → ∃ a' b' c', f_Mo_grow_l38 N fuel x1 (nI i) (w3 M 50 a b c) = f_Mo_grow_l118 N N 63 (w3 M 50 a' b' c') ∧ ∀ n, n < 64 → tA (32 - M 45 0) m a' b' c' (64 + idx n) := by
  intro d
  induction d with
  | zero =>
    intro i fuel a b c hi hf h
    obtain ⟨fuel, rfl⟩ : ∃ m, fuel = m + 1 := ⟨fuel - 1, by omega⟩
    have : i = 64 := by omega
    subst this
    exact ⟨a, b, c, by rw [f_Mo_grow_l38, if_pos (show (64 : Int32) ≤ nI 64 by decide)], fun n hn => (h n hn).1 hn⟩
  | succ d ih =>
    intro i fuel a b c hi hf h
    obtain ⟨fuel, rfl⟩ : ∃ m, fuel = m + 1 := ⟨fuel - 1, by omega⟩
    have ii : i < 64 := by omega
    have hix := idx_lt i
    have ex := ixn_idx i ii
    have hne : ∀ n, n < 64 → n ≠ i → idx n ≠ idx i := fun n hn hq e => hq (by rw [← ixn_idx n hn, e, ex])
    have start : f_Mo_grow_l38 N (fuel + 1) x1 (nI i) (w3 M 50 a b c) = f_Mo_grow_b65 N (f_Mo_grow_l38 N fuel) x1 (nI i) (m i) (w3 M 50 a b c) := by
      rw [f_Mo_grow_l38, if_neg (show ¬ (64 : Int32) ≤ nI i by rw [lN64, nI_leI (by decide) (by omega)]; omega)]
      rcases hm with ⟨e, he, rfl, hm⟩ | ⟨rfl, hm⟩
      · rw [if_pos (nI_pos' (show 64 * e < 2 ^ 31 by omega)), nI_add, if_pos (zin_t (show 64 * e + i < 2560 by omega) (by decide)), nI_clamp (show 64 * e + i < 2 ^ 31 by omega), w3_ne _ _ _ _ _ (show 46 ≠ 50 by decide) (by decide) (by decide), hm i ii]
      · rw [if_neg (show ¬ (0 : Int32) ≤ -1 by decide), if_pos (zin_t ii (by decide)), nI_clamp (show i < 2 ^ 31 by omega), w3_ne _ _ _ _ _ (show 47 ≠ 50 by decide) (by decide) (by decide), hm i ii]
    rw [start, f_Mo_grow_b65]
    by_cases c0 : m i = 0
    · rw [if_pos c0, f_Mo_grow_b109, zlt_eq, nI_1]
      refine ih (i + 1) fuel a b c (by omega) (by omega) (fun n hn => ⟨fun hl => ?_, fun hl => (h n hn).2 (by omega)⟩)
      by_cases e : n = i
      · subst e
        obtain ⟨q1, q2, q3⟩ := (h n hn).2 (Nat.le_refl _)
        unfold tA
        rw [cT_lf m (by omega), dT_lf _ m (by omega), oT_lf m (by omega), show 64 + idx n - 64 = idx n by omega, ex, if_pos c0, if_pos c0, if_pos c0, q1, q2, q3]
        exact ⟨rfl, rfl, rfl⟩
      · exact (h n hn).1 (by omega)
    · have z : zin (nI (64 + idx i)) 128 = true := zin_t (by omega) (by decide)
      rw [if_neg c0, (f_indexOf ii _).2, Option.bind_some, lN64, nI_add, zlt_eq, if_pos z, nI_clamp (show 64 + idx i < 2 ^ 31 by omega), zlt_eq, zu_w3_0, f_hash, Option.bind_some, if_pos z, zlt_eq, zu_w3_1, if_pos z, zlt_eq, zu_w3_2, f_Mo_grow_b109, zlt_eq, nI_1, w3_ne _ _ _ _ _ (show 45 ≠ 50 by decide) (by decide) (by decide)]
      refine ih (i + 1) fuel _ _ _ (by omega) (by omega) (fun n hn => ⟨fun hl => ?_, fun hl => ?_⟩)
      · by_cases e : n = i
        · subst e
          unfold tA
          rw [cT_lf m (by omega), dT_lf _ m (by omega), oT_lf m (by omega), show 64 + idx n - 64 = idx n by omega, ex, if_neg c0, if_neg c0, if_neg c0, upd_eq, upd_eq, upd_eq]
          exact ⟨rfl, rfl, rfl⟩
        · have hq := hne n hn e
          unfold tA
          rw [upd_ne _ _ (show 64 + idx n ≠ 64 + idx i by omega), upd_ne _ _ (show 64 + idx n ≠ 64 + idx i by omega), upd_ne _ _ (show 64 + idx n ≠ 64 + idx i by omega)]
          exact (h n hn).1 (by omega)
      · have hq := hne n hn (by omega)
        rw [upd_ne _ _ (show 64 + idx n ≠ 64 + idx i by omega), upd_ne _ _ (show 64 + idx n ≠ 64 + idx i by omega), upd_ne _ _ (show 64 + idx n ≠ 64 + idx i by omega)]
        exact (h n hn).2 (by omega)
theorem gr_l118 {N : Nat} (M : zMem) (m : Nat → Int32) : ∀ i fuel a b c, i < 64 → i < fuel → (∀ h, i < h → h < 128 → tA (32 - M 45 0) m a b c h) → ∃ a' b' c', f_Mo_grow_l118 N fuel (nI i) (w3 M 50 a b c) = some (0, w3 M 50 a' b' c') ∧ ∀ h, 0 < h → h < 128 → tA (32 - M 45 0) m a' b' c' h := by
  intro i
  induction i with
  | zero =>
    intro fuel a b c h64 hf h
    obtain ⟨fuel, rfl⟩ : ∃ m, fuel = m + 1 := ⟨fuel - 1, by omega⟩
    exact ⟨a, b, c, by rw [f_Mo_grow_l118, if_pos (show nI 0 ≤ 0 by decide)], h⟩
  | succ i ih =>
    intro fuel a b c h64 hf h
    obtain ⟨fuel, rfl⟩ : ∃ m, fuel = m + 1 := ⟨fuel - 1, by omega⟩
    obtain ⟨j, hj⟩ : ∃ j, j = i + 1 := ⟨_, rfl⟩
    rw [← hj] at h64 h ⊢
    have ej : nI j + (-1 : Int32) = nI i := by rw [nI_dec, hj, nI_prd]
    have zj : zin (nI j) 128 = true := zin_t (by omega) (by decide)
    have z0 : zin (nI (2 * j)) 128 = true := zin_t (by omega) (by decide)
    have z1 : zin (nI (2 * j + 1)) 128 = true := zin_t (by omega) (by decide)
    obtain ⟨p1, p2, p3⟩ := h (2 * j) (by omega) (by omega)
    obtain ⟨q1, q2, q3⟩ := h (2 * j + 1) (by omega) (by omega)
    have cin := cT_in m (show 0 < j by omega) h64
    have c64 := cT_64 m (show 1 ≤ j by omega) (show j < 128 by omega)
    -- the digest and the only name
    obtain ⟨D, hD⟩ : ∃ D, D = dT (32 - M 45 0) m j := ⟨_, rfl⟩
    obtain ⟨O, hO⟩ : ∃ O, O = oT m j := ⟨_, rfl⟩
    obtain ⟨a', b', c', g1, g2⟩ := ih fuel (upd a j (nI (cT m j))) (upd b j D) (upd c j O) (by omega) (by omega) (fun h' hl hh => by
      by_cases e : h' = j
      · subst e; unfold tA; rw [upd_eq, upd_eq, upd_eq]; exact ⟨rfl, hD, hO⟩
      · unfold tA; rw [upd_ne _ _ e, upd_ne _ _ e, upd_ne _ _ e]; exact h h' (by omega) hh)
    refine ⟨a', b', c', ?_, g2⟩
    have last : ∀ v, v = D → f_Mo_grow_b239 N (f_Mo_grow_l118 N fuel) (nI j) (nI j) v (w3 M 50 (upd a j (nI (cT m j))) b (upd c j O)) = some (0, w3 M 50 a' b' c') := by
      rintro v rfl
      rw [f_Mo_grow_b239, if_pos zj, nI_clamp (show j < 2 ^ 31 by omega), zlt_eq, zu_w3_1, zlt_eq, ej]
      exact g1
    have mid : ∀ v, v = O → f_Mo_grow_b188 N (f_Mo_grow_l118 N fuel) (nI j) (nI (2 * j)) (nI (2 * j + 1)) (nI j) v (w3 M 50 (upd a j (nI (cT m j))) b c) = some (0, w3 M 50 a' b' c') := by
      rintro v rfl
      rw [f_Mo_grow_b188, if_pos zj, nI_clamp (show j < 2 ^ 31 by omega), nI_clamp (show 2 * j < 2 ^ 31 by omega), nI_clamp (show 2 * j + 1 < 2 ^ 31 by omega), zlt_eq, zu_w3_2, if_pos zj, w3_0, upd_eq, w3_1, p2, q2]
      by_cases c1 : cT m j ≤ 1
      · rw [if_pos (show nI (cT m j) ≤ (1 : Int32) by rw [lN1, nI_leI (by omega) (by decide)]; exact c1), if_pos z0, if_pos z1]
        exact last _ (by rw [hD, dT_in1 _ m (by omega) h64 (by omega)])
      · rw [if_neg (show ¬ nI (cT m j) ≤ (1 : Int32) by rw [lN1, nI_leI (by omega) (by decide)]; exact c1), if_pos z0, if_pos z1, f_hash, Option.bind_some, w3_ne _ _ _ _ _ (show 45 ≠ 50 by decide) (by decide) (by decide)]
        exact last _ (by rw [hD, dT_in2 _ m (by omega) h64 (by omega)])
    rw [f_Mo_grow_l118, if_neg (show ¬ nI j ≤ 0 by rw [lN0, nI_leI (by omega) (by decide)]; omega), show (2 : Int32) * nI j = nI (2 * j) by rw [lN2, nI_mulN], nI_1, zlt_eq, zlt_eq, if_pos z0, if_pos z1, if_pos zj, nI_clamp (show j < 2 ^ 31 by omega), nI_clamp (show 2 * j < 2 ^ 31 by omega), nI_clamp (show 2 * j + 1 < 2 ^ 31 by omega), w3_0, p1, q1, nI_add, ← cin, zlt_eq, zu_w3_0, if_pos zj, w3_0, upd_eq, w3_2, p3, q3]
    by_cases c1 : cT m j = 1
    · rw [if_pos (show nI (cT m j) = (1 : Int32) by rw [c1]; rfl), if_pos z0, if_pos z1]
      exact mid _ (by rw [hO, oT_in1 m (by omega) h64 c1])
    · rw [if_neg (show ¬ nI (cT m j) = (1 : Int32) by rw [lN1, nI_eq (by omega) (by decide)]; exact c1)]
      exact mid _ (by rw [hO, oT_in0 m (by omega) h64 c1])
theorem f_grow {N : Nat} (hN : 129 ≤ N) (M : zMem) (x1 : Int32) (m : Nat → Int32) (hm : (∃ e, e < 40 ∧ x1 = nI (64 * e) ∧ ∀ n, n < 64 → m n = M 46 (64 * e + n)) ∨ (x1 = -1 ∧ ∀ n, n < 64 → m n = M 47 n)) : ∃ a b c, f_Mo_grow N x1 M = some (0, w3 M 50 a b c) ∧ ∀ h, 0 < h → h < 128 → tA (32 - M 45 0) m a b c h := by
  obtain ⟨a, b, c, g1, g2⟩ := gr_l2 (N := N) M x1 128 0 N (M 50) (M 51) (M 52) (by omega) (by omega) (fun j hj => absurd hj (Nat.not_lt_zero _))
  rw [w3_self] at g1
  obtain ⟨a1, b1, c1, k1, k2⟩ := gr_l38 (N := N) M x1 m hm 64 0 N a b c (by omega) (by omega) (fun n hn => ⟨fun q => absurd q (Nat.not_lt_zero _), fun _ => g2 _ (by have := idx_lt n; omega)⟩)
  obtain ⟨a2, b2, c2, l1, l2⟩ := gr_l118 (N := N) M m 63 N a1 b1 c1 (by omega) (by omega) (fun h hl hh => by
    have := k2 (ixn (h - 64)) (idx_ixn (h - 64) (by omega)).2
    rw [(idx_ixn (h - 64) (by omega)).1, show 64 + (h - 64) = h by omega] at this
    exact this)
  refine ⟨a2, b2, c2, ?_, l2⟩
  rw [f_Mo_grow, lN0, g1, lN0, k1]
  exact l1
