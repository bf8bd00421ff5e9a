/-! prove(), kind 0: lookups -/
def pth (n : Nat) : Nat → Nat
  | 0 => 1
  | i + 1 => 2 * pth n i + bt n i
theorem bt_le (n i : Nat) : bt n i ≤ 1 := by unfold bt; omega
theorem pth_lt (n : Nat) : ∀ i, 2 ^ i ≤ pth n i ∧ pth n i < 2 ^ (i + 1)
  | 0 => ⟨Nat.le_refl _, show 1 < 2 by decide⟩
  | i + 1 => by
    obtain ⟨a, b⟩ := pth_lt n i
    have := bt_le n i
    rw [Nat.pow_succ] at b
    rw [pth, Nat.pow_succ, Nat.pow_succ, Nat.pow_succ]
    omega
theorem pth_128 (n : Nat) {i : Nat} (h : i ≤ 6) : 1 ≤ pth n i ∧ pth n i < 128 := by
  obtain ⟨a, b⟩ := pth_lt n i
  have : (2 : Nat) ^ (i + 1) ≤ 2 ^ 7 := Nat.pow_le_pow_right (by decide) (by omega)
  have e : (2 : Nat) ^ 7 = 128 := rfl
  have : 0 < (2 : Nat) ^ i := Nat.pow_pos (by decide)
  omega
theorem pth_64 (n : Nat) {i : Nat} (h : i < 6) : pth n i < 64 := by
  obtain ⟨a, b⟩ := pth_lt n i
  have : (2 : Nat) ^ (i + 1) ≤ 2 ^ 6 := Nat.pow_le_pow_right (by decide) (by omega)
  have e : (2 : Nat) ^ 6 = 64 := rfl
  omega
/-- how deep the way of a name goes -/
theorem dep_ex (m : Nat → Int32) (n : Nat) : ∃ d, d ≤ 6 ∧ cT m (pth n d) ≤ 1 ∧ ∀ i, i < d → 2 ≤ cT m (pth n i) := by
  have go : ∀ k, k ≤ 6 → (∃ d, d ≤ 6 ∧ cT m (pth n d) ≤ 1 ∧ ∀ i, i < d → 2 ≤ cT m (pth n i)) ∨ ∀ i, i < k → 2 ≤ cT m (pth n i) := by
    intro k
    induction k with
    | zero => exact fun _ => Or.inr (fun i hi => absurd hi (Nat.not_lt_zero _))
    | succ k ih =>
      intro hk
      rcases ih (by omega) with h | h
      · exact Or.inl h
      · by_cases c : cT m (pth n k) ≤ 1
        · exact Or.inl ⟨k, by omega, c, h⟩
        · refine Or.inr (fun i hi => ?_)
          by_cases e : i = k
          · rw [e]; omega
          · exact h i (by omega)
  rcases go 6 (Nat.le_refl _) with h | h
  · exact h
  · refine ⟨6, Nat.le_refl _, ?_, h⟩
    have := pth_lt n 6
    rw [cT_lf m (show 64 ≤ pth n 6 from this.1)]
    split <;> decide
/-- the words of a lookup -/
def lw (s : Int32) (m : Nat → Int32) (n d i : Nat) : Int32 := if i = 0 then nI d else if i = 1 then oT m (pth n d) else if i = 2 then (if cT m (pth n d) = 1 then m (oT m (pth n d)).toNatClampNeg else 0) else dT s m (2 * pth n (i - 3) + (1 - bt n (i - 3)))
theorem lw3 (s : Int32) (m : Nat → Int32) (n d i : Nat) : lw s m n d (3 + i) = dT s m (2 * pth n i + (1 - bt n i)) := by
  unfold lw
  rw [if_neg (by omega), if_neg (by omega), if_neg (by omega), show 3 + i - 3 = i by omega]
/-- what the reference's lookup reads -/
def RL (s : Int32) (m : Nat → Int32) (e : Nat) (X : zMem) : Prop := (∀ h, 0 < h → h < 128 → X 50 h = nI (cT m h) ∧ X 51 h = dT s m h ∧ X 52 h = oT m h) ∧ ∀ n, n < 64 → X 46 (64 * e + n) = m n
theorem RL.ag {s : Int32} {m : Nat → Int32} {e : Nat} {X Y : zMem} (h : RL s m e X) (hA : Ag (fun k => k = 60 ∨ k = 61) X Y) : RL s m e Y := by
  unfold RL
  rw [hA 50 (by omega), hA 51 (by omega), hA 52 (by omega), hA 46 (by omega)]
  exact h
/-- the reference's buffers but b are as they were -/
def Oth (b : Nat) (X Y : zMem) : Prop := (∀ b', b' ≠ b → Y 61 b' = X 61 b') ∧ ∀ i, i < 30 * b ∨ 30 * b + 30 ≤ i → Y 60 i = X 60 i
theorem Oth.trans {b : Nat} {X Y Z : zMem} (h : Oth b X Y) (h' : Oth b Y Z) : Oth b X Z := ⟨fun b' hb => (h'.1 b' hb).trans (h.1 b' hb), fun i hi => (h'.2 i hi).trans (h.2 i hi)⟩
theorem lk_l106 {N b n e d : Nat} (hb : b < 4) (hn : n < 64) (he : e < 40) (hd : d ≤ 6) (s : Int32) (m : Nat → Int32) : ∀ r i fuel X, i + r = d → r < fuel → RL s m e X → BM X b (3 + i) (lw s m n d) → ∃ Y, f_Mo_lookup_l106 N fuel (nI b) (nI n) (nI e) (nI (pth n d)) (nI d) (nI (pth n i)) (nI i) X = some (if oT m (pth n d) = nI n then m n else 0, zu Y 45 22 (nI d + nI (cT m (pth n d)))) ∧ BM Y b (3 + d) (lw s m n d) ∧ Ag (fun k => k = 60 ∨ k = 61) X Y ∧ Oth b X Y := by
  intro r
  induction r with
  | zero =>
    intro i fuel X hi hf hR hB
    obtain ⟨fuel, rfl⟩ : ∃ m, fuel = m + 1 := ⟨fuel - 1, by omega⟩
    have : i = d := by omega
    subst this
    obtain ⟨p1, p2⟩ := pth_128 n hd
    have z : zin (nI (pth n i)) 128 = true := zin_t p2 (by decide)
    refine ⟨X, ?_, hB, fun _ _ => rfl, fun _ _ => rfl, fun _ _ => rfl⟩
    obtain ⟨q1, q2, q3⟩ := hR.1 (pth n i) (by omega) p2
    rw [f_Mo_lookup_l106, if_pos (nI_le (Nat.le_refl _) (by omega)), if_pos z, nI_clamp (show pth n i < 2 ^ 31 by omega), q1, zlt_eq, if_pos z, zu_ne _ _ _ (show 52 ≠ 45 by decide), q3, show (64 : Int32) * nI e + nI n = nI (64 * e + n) by rw [lN64, nI_mulN, nI_add], nI_clamp (show 64 * e + n < 2 ^ 31 by omega), if_pos (zin_t (show 64 * e + n < 2560 by omega) (by decide)), zu_ne _ _ _ (show 46 ≠ 45 by decide), hR.2 n hn]
    by_cases c : oT m (pth n i) = nI n
    · rw [if_pos c, if_pos c]
    · rw [if_neg c, if_neg c]
  | succ r ih =>
    intro i fuel X hi hf hR hB
    obtain ⟨fuel, rfl⟩ : ∃ m, fuel = m + 1 := ⟨fuel - 1, by omega⟩
    have p1 := (pth_128 n (show i ≤ 6 by omega)).1
    have p2 := pth_64 n (show i < 6 by omega)
    have b1 := bt_le n i
    have ev : (2 : Int32) * nI (pth n i) + (1 : Int32) - nI (bt n i) = nI (2 * pth n i + (1 - bt n i)) := by
      rw [lN2, nI_mulN, nI_1, nI_subN (by omega)]; congr 1; omega
    obtain ⟨q1, q2, q3⟩ := hR.1 (2 * pth n i + (1 - bt n i)) (by omega) (by omega)
    obtain ⟨X1, a1, a2, a3, a4, a5⟩ := app_M (N := N) hb (show 3 + i < 30 by omega) hB
    obtain ⟨Y, g1, g2, g3, g4⟩ := ih (i + 1) fuel X1 (by omega) (by omega) (hR.ag a3) a2
    refine ⟨Y, ?_, g2, Ag.trans a3 g3, Oth.trans ⟨a4, a5⟩ g4⟩
    rw [lw3] at a1
    rw [f_Mo_lookup_l106, if_neg (show ¬ nI d ≤ nI i by rw [nI_leI (by omega) (by omega)]; omega), (f_bit hn (show i < 6 by omega) X).2, Option.bind_some, zlt_eq]
    dsimp only
    rw [ev, if_pos (zin_t (show 2 * pth n i + (1 - bt n i) < 128 by omega) (by decide)), nI_clamp (show 2 * pth n i + (1 - bt n i) < 2 ^ 31 by omega), q2, a1, Option.bind_some, (f_bit hn (show i < 6 by omega) X1).2, Option.bind_some, zlt_eq, zlt_eq]
    dsimp only
    rw [show (2 : Int32) * nI (pth n i) + nI (bt n i) = nI (pth n (i + 1)) by rw [lN2, nI_mulN, nI_add, pth], nI_1]
    exact g1
theorem lk_l14 {N b n e d : Nat} (hN : 8 ≤ N) (hb : b < 4) (hn : n < 64) (he : e < 40) (hd : d ≤ 6) (s : Int32) (m : Nat → Int32) (h1 : cT m (pth n d) ≤ 1) (h2 : ∀ i, i < d → 2 ≤ cT m (pth n i)) : ∀ r i fuel X, i + r = d → r < fuel → RL s m e X → BM X b 0 (lw s m n d) → ∃ Y, f_Mo_lookup_l14 N fuel (nI b) (nI n) (nI e) (nI (pth n i)) (nI i) X = some (if oT m (pth n d) = nI n then m n else 0, zu Y 45 22 (nI d + nI (cT m (pth n d)))) ∧ BM Y b (3 + d) (lw s m n d) ∧ Ag (fun k => k = 60 ∨ k = 61) X Y ∧ Oth b X Y := by
  intro r
  induction r with
  | zero =>
    intro i fuel X hi hf hR hB
    obtain ⟨fuel, rfl⟩ : ∃ m, fuel = m + 1 := ⟨fuel - 1, by omega⟩
    have : i = d := by omega
    subst this
    obtain ⟨p1, p2⟩ := pth_128 n hd
    have z : zin (nI (pth n i)) 128 = true := zin_t p2 (by decide)
    have w0 : lw s m n i 0 = nI i := rfl
    have w1 : lw s m n i 1 = oT m (pth n i) := rfl
    have w2 : lw s m n i 2 = (if cT m (pth n i) = 1 then m (oT m (pth n i)).toNatClampNeg else 0) := rfl
    obtain ⟨q1, q2, q3⟩ := hR.1 (pth n i) (by omega) p2
    obtain ⟨X1, a1, a2, a3, a4, a5⟩ := app_M (N := N) hb (show 0 < 30 by decide) hB
    have hR1 := hR.ag a3
    obtain ⟨X2, b1, b2, b3, b4, b5⟩ := app_M (N := N) hb (show 0 + 1 < 30 by decide) a2
    have hR2 := hR1.ag b3
    obtain ⟨X3, c1, c2, c3, c4, c5⟩ := app_M (N := N) hb (show 0 + 1 + 1 < 30 by decide) b2
    have hR3 := hR2.ag c3
    obtain ⟨Y, g1, g2, g3, g4⟩ := lk_l106 (N := N) hb hn he hd s m i 0 N X3 (by omega) (by omega) hR3 c2
    refine ⟨Y, ?_, g2, Ag.trans a3 (Ag.trans b3 (Ag.trans c3 g3)), Oth.trans ⟨a4, a5⟩ (Oth.trans ⟨b4, b5⟩ (Oth.trans ⟨c4, c5⟩ g4))⟩
    rw [w0] at a1
    rw [show 0 + 1 = 1 from rfl, w1] at b1
    rw [show 0 + 1 + 1 = 2 from rfl, w2] at c1
    have s1 := (hR1.1 (pth n i) (by omega) p2).2.2
    obtain ⟨s2, -, s3⟩ := hR2.1 (pth n i) (by omega) p2
    have fin : f_Mo_lookup_b97 N (nI b) (nI n) (nI e) (nI (pth n i)) (nI i) (nI b) (if cT m (pth n i) = 1 then m (oT m (pth n i)).toNatClampNeg else 0) X2 = some (if oT m (pth n i) = nI n then m n else 0, zu Y 45 22 (nI i + nI (cT m (pth n i)))) := by
      rw [f_Mo_lookup_b97, c1, Option.bind_some]
      exact g1
    rw [f_Mo_lookup_l14, if_pos z, nI_clamp (show pth n i < 2 ^ 31 by omega), q1, if_pos (show nI (cT m (pth n i)) ≤ (1 : Int32) by rw [lN1, nI_leI (by omega) (by decide)]; exact h1), a1, Option.bind_some, if_pos z]
    dsimp only
    rw [s1, b1, Option.bind_some, if_pos z]
    simp only [s2, s3]
    by_cases c : cT m (pth n i) = 1
    · obtain ⟨n', n1, n2, -⟩ := cT_one s m (128 - pth n i) (pth n i) (by omega) p1 (by omega) c
      rw [if_pos (show nI (cT m (pth n i)) = (1 : Int32) by rw [c]; rfl), if_pos z, n2, show (64 : Int32) * nI e + nI n' = nI (64 * e + n') by rw [lN64, nI_mulN, nI_add], if_pos (zin_t (show 64 * e + n' < 2560 by omega) (by decide)), nI_clamp (show 64 * e + n' < 2 ^ 31 by omega), hR2.2 n' n1]
      rw [if_pos c, n2, nI_clamp (show n' < 2 ^ 31 by omega)] at fin
      exact fin
    · rw [if_neg (show ¬ nI (cT m (pth n i)) = (1 : Int32) by rw [lN1, nI_eq (by omega) (by decide)]; exact c)]
      rw [if_neg c] at fin
      exact fin
  | succ r ih =>
    intro i fuel X hi hf hR hB
    obtain ⟨fuel, rfl⟩ : ∃ m, fuel = m + 1 := ⟨fuel - 1, by omega⟩
    obtain ⟨p1, p2⟩ := pth_128 n (show i ≤ 6 by omega)
    have c64 := cT_64 m p1 p2
    have c2 := h2 i (by omega)
    obtain ⟨q1, q2, q3⟩ := hR.1 (pth n i) (by omega) p2
    obtain ⟨Y, g1, g2⟩ := ih (i + 1) fuel X (by omega) (by omega) hR hB
    refine ⟨Y, ?_, g2⟩
    rw [f_Mo_lookup_l14, if_pos (zin_t p2 (by decide)), nI_clamp (show pth n i < 2 ^ 31 by omega), q1, if_neg (show ¬ nI (cT m (pth n i)) ≤ (1 : Int32) by rw [lN1, nI_leI (by omega) (by decide)]; omega), (f_bit hn (show i < 6 by omega) X).2, Option.bind_some, zlt_eq, zlt_eq]
    dsimp only
    rw [show (2 : Int32) * nI (pth n i) + nI (bt n i) = nI (pth n (i + 1)) by rw [lN2, nI_mulN, nI_add, pth], nI_1]
    exact g1
theorem f_lookup {N b n e d : Nat} (hN : 129 ≤ N) (hb : b < 4) (hn : n < 64) (he : e < 40) (hd : d ≤ 6) (m : Nat → Int32) (h1 : cT m (pth n d) ≤ 1) (h2 : ∀ i, i < d → 2 ≤ cT m (pth n i)) (X : zMem) (hm : ∀ n, n < 64 → m n = X 46 (64 * e + n)) (h0 : X 61 b = 0) : ∃ Y, f_Mo_lookup N (nI b) (nI n) (nI e) X = some (if oT m (pth n d) = nI n then m n else 0, zu Y 45 22 (nI d + nI (cT m (pth n d)))) ∧ BM Y b (3 + d) (lw (32 - X 45 0) m n d) ∧ Ag (fun k => (50 ≤ k ∧ k ≤ 52) ∨ k = 60 ∨ k = 61) X Y ∧ Oth b X Y := by
  obtain ⟨a, b', c, g1, g2⟩ := f_grow hN X ((64 : Int32) * nI e) m (Or.inl ⟨e, he, by rw [lN64, nI_mulN], hm⟩)
  obtain ⟨Y, k1, k2, k3, k4⟩ := lk_l14 (N := N) (by omega) hb hn he hd (32 - X 45 0) m h1 h2 d 0 N (w3 X 50 a b' c) (by omega) (by omega) ⟨fun h hl hh => by rw [w3_0, w3_1, w3_2]; exact g2 h hl hh, fun n hn => by rw [w3_ne _ _ _ _ _ (show 46 ≠ 50 by decide) (by decide) (by decide)]; exact (hm n hn).symm⟩ ⟨by rw [w3_ne _ _ _ _ _ (show 61 ≠ 50 by decide) (by decide) (by decide)]; exact h0, fun i hi => absurd hi (Nat.not_lt_zero _)⟩
  refine ⟨Y, ?_, k2, fun k hk => ?_, fun b2 hb2 => ?_, fun i hi => ?_⟩
  · rw [f_Mo_lookup, g1, Option.bind_some]
    exact k1
  · rw [k3 k (by omega), w3_ne _ _ _ _ _ (by omega) (by omega) (by omega)]
  · rw [k4.1 b2 hb2, w3_ne _ _ _ _ _ (show 61 ≠ 50 by decide) (by decide) (by decide)]
  · rw [k4.2 i hi, w3_ne _ _ _ _ _ (show 60 ≠ 50 by decide) (by decide) (by decide)]
