/-! lookups checked: the digests up to the root, and the inputs kept -/
theorem nI_dec (i : Nat) : nI i + (-1 : Int32) = nI i - 1 := (Int32.sub_eq_add_neg _ _).symm
theorem nI_prd (i : Nat) : nI (i + 1) - (1 : Int32) = nI i := by rw [lN1, nI_subN (by omega)]; rfl
theorem nI_0m : nI 0 - (1 : Int32) < 0 := by decide
def lfd (s : Int32) (w : Nat → Int32) : Int32 := if w 1 = -1 then 0 else zH s 1 (w 1) (w 2)
/-- the digest k levels above the end of a lookup for name n of depth d -/
def du (s : Int32) (n : Nat) (w : Nat → Int32) (d : Nat) : Nat → Int32
  | 0 => lfd s w
  | k + 1 => zH s 2 (if bt n (d - 1 - k) = 0 then du s n w d k else w (3 + (d - 1 - k))) (if bt n (d - 1 - k) = 0 then w (3 + (d - 1 - k)) else du s n w d k)
def xq (s : Int32) (n : Nat) (w : Nat → Int32) (d i : Nat) : Int32 := if bt n i = 0 then du s n w d (d - 1 - i) else w (3 + i)
def yq (s : Int32) (n : Nat) (w : Nat → Int32) (d i : Nat) : Int32 := if bt n i = 0 then w (3 + i) else du s n w d (d - 1 - i)
theorem du_step (s : Int32) (n : Nat) (w : Nat → Int32) {d i : Nat} (hi : i < d) : du s n w d (d - i) = zH s 2 (xq s n w d i) (yq s n w d i) := by
  rw [show d - i = (d - 1 - i) + 1 by omega, du, show d - 1 - (d - 1 - i) = i by omega]
  rfl
theorem zis_LC_ne {t : Nat} (ht : zis_LC t = true) : t = 36 ∨ t = 38 := by
  unfold zis_LC at ht
  rw [Bool.or_eq_true] at ht
  exact ht.imp of_decide_eq_true of_decide_eq_true
theorem zlt_eq {A B : Type} (a : A) (f : A → B) : zlt a f = f a := rfl
theorem f_keep {N t i : Nat} (ht : zis_LC t = true) (hi : i < 7) (T x y : Int32) (M : zMem) : f_LC_keepInput N t (nI i) T x y M = some (zH (M 1 0) T x y, zu (zu (zu M (t + 1) (3 * i) T) (t + 1) (3 * i + 1) x) (t + 1) (3 * i + 2) y) := by
  have h3 := zis_LC_ne ht
  have e0 : (3 : Int32) * nI i = nI (3 * i) := by rw [lN3, nI_mulN]
  have e1 : nI (3 * i) + (1 : Int32) = nI (3 * i + 1) := nI_1 _
  have e2 : nI (3 * i) + (2 : Int32) = nI (3 * i + 2) := by rw [lN2, nI_add]
  rw [f_LC_keepInput, if_pos ht, e0, e1, e2, if_pos (zin_t (show 3 * i < 21 by omega) (by decide)), nI_clamp (show 3 * i < 2 ^ 31 by omega), nI_clamp (show 3 * i + 1 < 2 ^ 31 by omega), nI_clamp (show 3 * i + 2 < 2 ^ 31 by omega)]
  rw [zlt_eq, if_pos (zin_t (show 3 * i + 1 < 21 by omega) (by decide)), zlt_eq, if_pos (zin_t (show 3 * i + 2 < 21 by omega) (by decide)), zlt_eq, f_digest, Option.bind_some]
  rw [zu_ne _ _ _ (show 1 ≠ t + 1 by omega), zu_ne _ _ _ (show 1 ≠ t + 1 by omega), zu_ne _ _ _ (show 1 ≠ t + 1 by omega)]
/-- three words set in one row -/
theorem zu3_at (M : zMem) (k a : Nat) (x y z : Int32) : (∀ j, j < a ∨ a + 3 ≤ j → zu (zu (zu M k a x) k (a + 1) y) k (a + 2) z k j = M k j) ∧ zu (zu (zu M k a x) k (a + 1) y) k (a + 2) z k a = x ∧ zu (zu (zu M k a x) k (a + 1) y) k (a + 2) z k (a + 1) = y ∧ zu (zu (zu M k a x) k (a + 1) y) k (a + 2) z k (a + 2) = z := by
  refine ⟨fun j hj => ?_, ?_, ?_, ?_⟩
  · rw [zu_eq, upd_ne _ _ (by omega), zu_eq, upd_ne _ _ (by omega), zu_eq, upd_ne _ _ (by omega)]
  · rw [zu_eq, upd_ne _ _ (by omega), zu_eq, upd_ne _ _ (by omega), zu_eq, upd_eq]
  · rw [zu_eq, upd_ne _ _ (by omega), zu_eq, upd_eq]
  · rw [zu_eq, upd_eq]
theorem acc_lC {N t b n d : Nat} (ht : zis_LC t = true) (hb : b < 4) (hn : n < 64) (hd : d ≤ 6) (s : Int32) (w : Nat → Int32) : ∀ j, j ≤ d → ∀ fuel M, j < fuel → M 1 0 = s → M (28 + 2 * b + 1) = w → ∃ M', f_LC_rootOf_l44 N t (28 + 2 * b) fuel (nI (idx n)) (du s n w d (d - j)) (nI j - 1) M = some (du s n w d d, M') ∧ Ag (fun k => k = t + 1) M M' ∧ (∀ i, i < j → M' (t + 1) (3 * i) = 2 ∧ M' (t + 1) (3 * i + 1) = xq s n w d i ∧ M' (t + 1) (3 * i + 2) = yq s n w d i) ∧ ∀ i, 3 * j ≤ i → M' (t + 1) i = M (t + 1) i := by
  have h3 := zis_LC_ne ht
  intro j
  induction j with
  | zero =>
    intro hj fuel M hf hs hw
    obtain ⟨fuel, rfl⟩ : ∃ k, fuel = k + 1 := ⟨fuel - 1, by omega⟩
    refine ⟨M, ?_, fun k _ => rfl, fun i hi => absurd hi (Nat.not_lt_zero _), fun i _ => rfl⟩
    rw [f_LC_rootOf_l44, if_pos nI_0m]
    rfl
  | succ j ih =>
    intro hj fuel M hf hs hw
    obtain ⟨fuel, rfl⟩ : ∃ k, fuel = k + 1 := ⟨fuel - 1, by omega⟩
    obtain ⟨A, B, hA⟩ : ∃ A B, A = xq s n w d j ∧ B = yq s n w d j := ⟨_, _, rfl, rfl⟩
    obtain ⟨M3, hM3⟩ : ∃ M3, M3 = zu (zu (zu M (t + 1) (3 * j) 2) (t + 1) (3 * j + 1) A) (t + 1) (3 * j + 2) B := ⟨_, rfl⟩
    have n3 : ∀ k, k ≠ t + 1 → M3 k = M k := fun k hk => by rw [hM3, zu_ne _ _ _ hk, zu_ne _ _ _ hk, zu_ne _ _ _ hk]
    obtain ⟨u0, u1, u2, u3⟩ := zu3_at M (t + 1) (3 * j) 2 A B
    rw [← hM3] at u0 u1 u2 u3
    obtain ⟨M', g1, g2, g3, g4⟩ := ih (by omega) fuel M3 (by omega) (by rw [n3 1 (by omega)]; exact hs) (by rw [n3 _ (by omega)]; exact hw)
    refine ⟨M', ?_, fun k hk => by rw [g2 k hk]; exact n3 k hk, fun i hi => ?_, fun i hi => by rw [g4 i (by omega), u0 i (by omega)]⟩
    · rw [f_LC_rootOf_l44, nI_prd, if_neg (nI_pos (show j < 2 ^ 31 by omega)), show (3 : Int32) + nI j = nI (3 + j) by rw [lN3, nI_add], if_pos (zin_t (show 3 + j < 30 by omega) (by decide)), nI_clamp (show 3 + j < 2 ^ 31 by omega), hw, (f_bit hn (show j < 6 by omega) M).1]
      simp only [zlt, Option.bind_some]
      rw [show d - (j + 1) = d - 1 - j by omega]
      have hg := g1
      rw [du_step s n w (show j < d by omega), ← hA.1, ← hA.2, ← nI_dec] at hg
      by_cases c : bt n j = 0
      · have a1 : A = du s n w d (d - 1 - j) := by rw [hA.1, xq, if_pos c]
        have a2 : B = w (3 + j) := by rw [hA.2, yq, if_pos c]
        rw [if_pos (show nI (bt n j) = 0 by rw [c]; rfl), ← a1, ← a2, f_keep ht (by omega), hs, ← hM3]
        simp only [Option.bind_some, f_LC_rootOf_b92, zlt]
        exact hg
      · have a1 : A = w (3 + j) := by rw [hA.1, xq, if_neg c]
        have a2 : B = du s n w d (d - 1 - j) := by rw [hA.2, yq, if_neg c]
        rw [if_neg (show ¬ nI (bt n j) = 0 by rw [lN0, nI_eq (by unfold bt; omega) (by decide)]; exact c), ← a1, ← a2, f_keep ht (by omega), hs, ← hM3]
        simp only [Option.bind_some, f_LC_rootOf_b92, zlt]
        exact hg
    · by_cases c : i = j
      · subst c
        rw [g4 _ (by omega), g4 _ (by omega), g4 _ (by omega), u1, u2, u3, hA.1, hA.2]
        exact ⟨rfl, rfl, rfl⟩
      · exact g3 i (by omega)
theorem acc_lM {N b n d a : Nat} (hb : b < 4) (hn : n < 64) (hd : d ≤ 6) (ha : a ≤ 7) (s rt : Int32) (w : Nat → Int32) : ∀ j, j ≤ d → ∀ fuel M, j < fuel → 32 - M 45 0 = s → (∀ i, i < d → M 60 (30 * b + (3 + i)) = w (3 + i)) → ∃ M', f_Mo_accepted_l123 N fuel (nI b) (nI n) rt (nI a) (du s n w d (d - j)) (nI j - 1) M = some (if du s n w d d = rt then 1 else 0, M') ∧ Ag (fun k => k = 67 ∨ k = 68 ∨ k = 69) M M' ∧ (∀ i, i < j → M' 67 (a + i) = 2 ∧ M' 68 (a + i) = xq s n w d i ∧ M' 69 (a + i) = yq s n w d i) ∧ ∀ i, i < a ∨ a + j ≤ i → M' 67 i = M 67 i ∧ M' 68 i = M 68 i ∧ M' 69 i = M 69 i := by
  intro j
  induction j with
  | zero =>
    intro hj fuel M hf hs hw
    obtain ⟨fuel, rfl⟩ : ∃ k, fuel = k + 1 := ⟨fuel - 1, by omega⟩
    refine ⟨M, ?_, fun k _ => rfl, fun i hi => absurd hi (Nat.not_lt_zero _), fun i _ => ⟨rfl, rfl, rfl⟩⟩
    rw [f_Mo_accepted_l123, if_pos nI_0m, Nat.sub_zero]
    by_cases c : du s n w d d = rt
    · rw [if_pos c, if_pos c]
    · rw [if_neg c, if_neg c]
  | succ j ih =>
    intro hj fuel M hf hs hw
    obtain ⟨fuel, rfl⟩ : ∃ k, fuel = k + 1 := ⟨fuel - 1, by omega⟩
    obtain ⟨A, B, hA⟩ : ∃ A B, A = xq s n w d j ∧ B = yq s n w d j := ⟨_, _, rfl, rfl⟩
    obtain ⟨M3, hM3⟩ : ∃ M3, M3 = zu (zu (zu M 67 (a + j) 2) 68 (a + j) A) 69 (a + j) B := ⟨_, rfl⟩
    have n3 : ∀ k, k ≠ 67 → k ≠ 68 → k ≠ 69 → M3 k = M k := fun k h1 h2 h3 => by rw [hM3, zu_ne _ _ _ h3, zu_ne _ _ _ h2, zu_ne _ _ _ h1]
    have u67 : M3 67 = upd (M 67) (a + j) 2 := by rw [hM3, zu_ne _ _ _ (by decide), zu_ne _ _ _ (by decide), zu_eq]
    have u68 : M3 68 = upd (M 68) (a + j) A := by rw [hM3, zu_ne _ _ _ (by decide), zu_eq, zu_ne _ _ _ (by decide)]
    have u69 : M3 69 = upd (M 69) (a + j) B := by rw [hM3, zu_eq, zu_ne _ _ _ (by decide), zu_ne _ _ _ (by decide)]
    obtain ⟨M', g1, g2, g3, g4⟩ := ih (by omega) fuel M3 (by omega) (by rw [n3 45 (by decide) (by decide) (by decide)]; exact hs) (fun i hi => by rw [n3 60 (by decide) (by decide) (by decide)]; exact hw i hi)
    refine ⟨M', ?_, fun k hk => by rw [g2 k hk]; exact n3 k (fun e => hk (Or.inl e)) (fun e => hk (Or.inr (Or.inl e))) (fun e => hk (Or.inr (Or.inr e))), fun i hi => ?_, fun i hi => ?_⟩
    · have ew : M 60 (30 * b + 3 + j) = w (3 + j) := by rw [Nat.add_assoc]; exact hw j (by omega)
      have z14 : zin (nI (a + j)) 14 = true := zin_t (by omega) (by decide)
      have hg := g1
      rw [du_step s n w (show j < d by omega), ← hA.1, ← hA.2, ← nI_dec] at hg
      have fin : f_Mo_accepted_b206 N (f_Mo_accepted_l123 N fuel) (nI b) (nI n) rt (nI a) (nI j) (nI (a + j)) B (zu (zu M 67 (a + j) 2) 68 (a + j) A) = some (if du s n w d d = rt then 1 else 0, M') := by
        rw [f_Mo_accepted_b206, nI_add, if_pos z14, nI_clamp (show a + j < 2 ^ 31 by omega)]
        simp only [zlt]
        rw [if_pos z14, if_pos z14, ← hM3, u68, u69, upd_eq, upd_eq, f_hash, n3 45 (by decide) (by decide) (by decide), hs]
        simp only [Option.bind_some, zlt]
        exact hg
      rw [f_Mo_accepted_l123, nI_prd, if_neg (nI_pos (show j < 2 ^ 31 by omega)), show (30 : Int32) * nI b + (3 : Int32) + nI j = nI (30 * b + 3 + j) by rw [lN30, lN3, nI_mulN, nI_add, nI_add], if_pos (zin_t (show 30 * b + 3 + j < 120 by omega) (by decide)), nI_clamp (show 30 * b + 3 + j < 2 ^ 31 by omega), ew, nI_add]
      simp only [zlt]
      rw [if_pos z14, nI_clamp (show a + j < 2 ^ 31 by omega), (f_bit hn (show j < 6 by omega) _).2]
      simp only [Option.bind_some]
      rw [show d - (j + 1) = d - 1 - j by omega]
      by_cases c : bt n j = 0
      · have a1 : A = du s n w d (d - 1 - j) := by rw [hA.1, xq, if_pos c]
        have a2 : B = w (3 + j) := by rw [hA.2, yq, if_pos c]
        have e0 : nI (bt n j) = 0 := by rw [c]; rfl
        rw [if_pos e0, ← a1, ← a2, f_Mo_accepted_b180, if_pos z14, nI_clamp (show a + j < 2 ^ 31 by omega)]
        simp only [zlt]
        rw [(f_bit hn (show j < 6 by omega) _).2]
        simp only [Option.bind_some]
        rw [if_pos e0, nI_add]
        exact fin
      · have a1 : A = w (3 + j) := by rw [hA.1, xq, if_neg c]
        have a2 : B = du s n w d (d - 1 - j) := by rw [hA.2, yq, if_neg c]
        have e0 : ¬ nI (bt n j) = 0 := by rw [lN0, nI_eq (by unfold bt; omega) (by decide)]; exact c
        rw [if_neg e0, ← a1, ← a2, f_Mo_accepted_b180, if_pos z14, nI_clamp (show a + j < 2 ^ 31 by omega)]
        simp only [zlt]
        rw [(f_bit hn (show j < 6 by omega) _).2]
        simp only [Option.bind_some]
        rw [if_neg e0, nI_add]
        exact fin
    · by_cases c : i = j
      · subst c
        obtain ⟨q1, q2, q3⟩ := g4 (a + i) (by omega)
        rw [q1, q2, q3, u67, u68, u69, upd_eq, upd_eq, upd_eq, hA.1, hA.2]
        exact ⟨rfl, rfl, rfl⟩
      · exact g3 i (by omega)
    · obtain ⟨q1, q2, q3⟩ := g4 i (by omega)
      rw [q1, q2, q3, u67, u68, u69, upd_ne _ _ (by omega), upd_ne _ _ (by omega), upd_ne _ _ (by omega)]
      exact ⟨rfl, rfl, rfl⟩
