/-! prove(), kinds 1 and 2: the words of a proof of history -/
/-- a memory that agrees with M but at the places that P names -/
def Ag (P : Nat → Prop) (M M' : zMem) : Prop := ∀ k, ¬ P k → M' k = M k
theorem Ag.trans {P : Nat → Prop} {A B C : zMem} (h1 : Ag P A B) (h2 : Ag P B C) : Ag P A C := fun k hk => (h2 k hk).trans (h1 k hk)
theorem Ag.mono {P Q : Nat → Prop} {A B : zMem} (h : Ag P A B) (hPQ : ∀ k, P k → Q k) : Ag Q A B := fun k hk => h k (fun q => hk (hPQ k q))
theorem Ag.zu {P : Nat → Prop} {A B : zMem} (h : Ag P A B) {k j : Nat} {v : Int32} (hk : P k) : Ag P A (zu B k j v) := fun k' h' => by
  rw [zu_ne _ _ _ (fun e => h' (by rw [e]; exact hk))]; exact h k' h'
theorem Ag.sr {P : Nat → Prop} {A B : zMem} (h : Ag P A B) {k : Nat} {r : Nat → Int32} (hk : P k) : Ag P A (sr B k r) := fun k' h' => by
  rw [sr_ne _ _ (fun e => h' (by rw [e]; exact hk))]; exact h k' h'
/-- the class's buffer b holds the first c words of W -/
def BC (M : zMem) (b c : Nat) (W : Nat → Int32) : Prop := M (28 + 2 * b) 1 = nI c ∧ ∀ i, i < c → M (28 + 2 * b + 1) i = W i
def BM (M : zMem) (b c : Nat) (W : Nat → Int32) : Prop := M 61 b = nI c ∧ ∀ i, i < c → M 60 (30 * b + i) = W i
theorem app_C {N b c : Nat} (hb : b < 4) (hc : c < 30) {M : zMem} {W : Nat → Int32} (h : BC M b c W) : ∃ M', f_Bu_append N (28 + 2 * b) (W c) M = some (0, M') ∧ BC M' b (c + 1) W ∧ Ag (fun k => k = 28 + 2 * b ∨ k = 28 + 2 * b + 1) M M' := by
  obtain ⟨h1, h2⟩ := h
  have q1 : zu M (28 + 2 * b + 1) c (W c) (28 + 2 * b) 1 = nI c := by rw [zu_ne _ _ _ (by omega)]; exact h1
  refine ⟨zu (zu M (28 + 2 * b + 1) c (W c)) (28 + 2 * b) 1 (nI (c + 1)), ?_, ⟨by rw [zu_eq, upd_eq], fun i hi => ?_⟩, fun k hk => ?_⟩
  · rw [f_Bu_append, if_pos (zis_Bu_of hb), h1, f_Bu_replaceOrAppend, if_pos (zis_Bu_of hb), if_neg (nI_pos (by omega)), h1, if_neg (nI_nlt (Nat.le_refl _) (by omega)), if_pos (show nI c < (30 : Int32) by rw [lN30, nI_ltI (by omega) (by decide)]; exact hc), if_pos (zin_t hc (by decide)), nI_clamp (show c < 2 ^ 31 by omega)]
    simp only [zlt, q1, nI_1, Option.bind_some]
    rw [if_pos (nI_lt (by omega) (by omega))]
  · rw [zu_ne _ _ _ (show 28 + 2 * b + 1 ≠ 28 + 2 * b by omega), zu_eq]
    by_cases hic : i = c
    · subst hic; exact upd_eq _ _ _
    · rw [upd_ne _ _ hic]; exact h2 i (by omega)
  · rw [zu_ne _ _ _ (fun e => hk (Or.inl e)), zu_ne _ _ _ (fun e => hk (Or.inr e))]
theorem app_M {N b c : Nat} (hb : b < 4) (hc : c < 30) {M : zMem} {W : Nat → Int32} (h : BM M b c W) : ∃ M', f_Mo_add N (nI b) (W c) M = some (0, M') ∧ BM M' b (c + 1) W ∧ Ag (fun k => k = 60 ∨ k = 61) M M' ∧ (∀ b', b' ≠ b → M' 61 b' = M 61 b') ∧ ∀ i, i < 30 * b ∨ 30 * b + 30 ≤ i → M' 60 i = M 60 i := by
  obtain ⟨h1, h2⟩ := h
  have e : (30 : Int32) * nI b + nI c = nI (30 * b + c) := by rw [lN30, nI_mulN, nI_add]
  refine ⟨zu (zu M 60 (30 * b + c) (W c)) 61 b (nI (c + 1)), ?_, ⟨by rw [zu_eq, upd_eq], fun i hi => ?_⟩, fun k hk => ?_, fun b' hb' => ?_, fun i hi => ?_⟩
  · rw [f_Mo_add, if_pos (zin_t hb (by decide)), nI_clamp (show b < 2 ^ 31 by omega), h1, e, if_pos (zin_t (show 30 * b + c < 120 by omega) (by decide)), nI_clamp (show 30 * b + c < 2 ^ 31 by omega)]
    simp only [zlt, if_pos (zin_t hb (show 4 < 2 ^ 31 by decide))]
    rw [zu_ne _ _ _ (show 61 ≠ 60 by decide), h1, nI_1]
  · rw [zu_ne _ _ _ (show 60 ≠ 61 by decide), zu_eq]
    by_cases hic : i = c
    · subst hic; exact upd_eq _ _ _
    · rw [upd_ne _ _ (by omega)]; exact h2 i (by omega)
  · rw [zu_ne _ _ _ (fun e => hk (Or.inr e)), zu_ne _ _ _ (fun e => hk (Or.inl e))]
  · rw [zu_eq, upd_ne _ _ hb', zu_ne _ _ _ (by decide)]
  · rw [zu_ne _ _ _ (by decide), zu_eq, upd_ne _ _ (by omega)]
/-- the words: perhaps a first one, then the other parts' digests, the last step's first -/
def hw (s : Int32) (lv : Nat → Int32) (L : List (Bool × Nat × Nat)) (g fs fn : Nat) (i : Nat) : Int32 := if i < g then rd (zH s 4) lv fs fn else rd (zH s 4) lv (L.getD (L.length - 1 - (i - g)) (false, 0, 0)).2.1 (L.getD (L.length - 1 - (i - g)) (false, 0, 0)).2.2
def PC (b : Nat) : Nat → Prop := fun k => k = 23 ∨ k = 28 + 2 * b ∨ k = 28 + 2 * b + 1
theorem his_C {N : Nat} (hN : 41 ≤ N) {b g fs fn : Nat} (hb : b < 4) (hg : g ≤ 1) {L : List (Bool × Nat × Nat)} (hL : L.length ≤ 6) (M0 : zMem) (hr : ∀ i q, L[i]? = some q → M0 25 i = nI q.2.1 ∧ M0 26 i = nI (q.2.1 + q.2.2) ∧ 1 ≤ q.2.2 ∧ q.2.1 + q.2.2 ≤ 40) : ∀ j fuel M, j ≤ L.length → j < fuel → Ag (PC b) M0 M → BC M b (g + (L.length - j)) (hw (M0 1 0) (M0 21) L g fs fn) →
    ∃ M', f_ED_proveHistory_l76 N (28 + 2 * b) fuel (nI j - 1) M = some (nI (g + L.length), zu M' 0 13 (nI (g + L.length))) ∧ BC M' b (g + L.length) (hw (M0 1 0) (M0 21) L g fs fn) ∧ Ag (PC b) M0 M' := by
  intro j
  induction j with
  | zero =>
    intro fuel M hj hf hA hB
    obtain ⟨fuel, rfl⟩ : ∃ m, fuel = m + 1 := ⟨fuel - 1, by omega⟩
    rw [Nat.sub_zero] at hB
    refine ⟨M, ?_, hB, hA⟩
    rw [f_ED_proveHistory_l76, if_pos (show nI 0 - 1 < (0 : Int32) by decide)]
    simp only [zlt]
    rw [hB.1, zu_ne _ _ _ (show 28 + 2 * b ≠ 0 by omega), hB.1]
  | succ j ih =>
    intro fuel M hj hf hA hB
    obtain ⟨fuel, rfl⟩ : ∃ m, fuel = m + 1 := ⟨fuel - 1, by omega⟩
    have e1 : nI (j + 1) - 1 = nI j := nI_pred j
    have hq := getD_at (show j < L.length by omega)
    obtain ⟨r1, r2, r3, r4⟩ := hr j _ hq
    have m25 : M 25 = M0 25 := hA 25 (by unfold PC; omega)
    have m26 : M 26 = M0 26 := hA 26 (by unfold PC; omega)
    have m21 : M 21 = M0 21 := hA 21 (by unfold PC; omega)
    have m1 : M 1 = M0 1 := hA 1 (by unfold PC; omega)
    obtain ⟨r', d1⟩ := f_rowDigest hN M (L.getD j (false, 0, 0)).2.1 (L.getD j (false, 0, 0)).2.2 r3 r4
    have hw1 : rd (zH (M 1 0) 4) (M 21) (L.getD j (false, 0, 0)).2.1 (L.getD j (false, 0, 0)).2.2 = hw (M0 1 0) (M0 21) L g fs fn (g + (L.length - (j + 1))) := by
      rw [hw, if_neg (by omega), m1, m21, show L.length - 1 - (g + (L.length - (j + 1)) - g) = j by omega]
    have hB2 : BC (sr M 23 r') b (g + (L.length - (j + 1))) (hw (M0 1 0) (M0 21) L g fs fn) := by
      refine ⟨by rw [sr_ne _ _ (by omega)]; exact hB.1, fun i hi => by rw [sr_ne _ _ (by omega)]; exact hB.2 i hi⟩
    obtain ⟨M', a1, a2, a3⟩ := app_C (N := N) hb (by omega) hB2
    obtain ⟨M'', i1, i2, i3⟩ := ih fuel M' (by omega) (by omega) (fun k hk => by
      rw [a3 k (fun q => hk (by unfold PC; omega)), sr_ne _ _ (fun q => hk (Or.inl q))]; exact hA k hk) (by rw [show g + (L.length - j) = g + (L.length - (j + 1)) + 1 by omega]; exact a2)
    refine ⟨M'', ?_, i2, i3⟩
    have e2 : nI j + (-1 : Int32) = nI j - 1 := by rw [Int32.sub_eq_add_neg]
    rw [f_ED_proveHistory_l76, e1, if_neg (nI_pos (show j < 2 ^ 31 by omega)), if_pos (zin_t (show j < 6 by omega) (by decide)), if_pos (zin_t (show j < 6 by omega) (by decide)), nI_clamp (show j < 2 ^ 31 by omega), m25, m26, r1, r2, d1, hw1]
    simp only [Option.bind_some, zlt]
    rw [a1]
    simp only [Option.bind_some]
    rw [e2]
    exact i1
def PM : Nat → Prop := fun k => k = 60 ∨ k = 61 ∨ k = 62 ∨ k = 63
theorem his_M {N : Nat} (hN : 41 ≤ N) {b g fs fn : Nat} (hb : b < 4) (hg : g ≤ 1) {L : List (Bool × Nat × Nat)} (hL : L.length ≤ 6) (x2 x6 : Int32) (hx2 : x2 ≠ 0) (M0 : zMem) (hr : ∀ i q, L[i]? = some q → M0 65 i = nI q.2.1 ∧ M0 66 i = nI q.2.2 ∧ 1 ≤ q.2.2 ∧ q.2.1 + q.2.2 ≤ 40) : ∀ j fuel M, j ≤ L.length → j < fuel → Ag PM M0 M → (∀ b', b' ≠ b → M 61 b' = M0 61 b') → (∀ i, i < 30 * b ∨ 30 * b + 30 ≤ i → M 60 i = M0 60 i) → BM M b (g + (L.length - j)) (hw (32 - M0 45 0) (lfM M0) L g fs fn) →
    ∃ M', f_Mo_prove_l166 N fuel (nI b) x2 x6 (nI j - 1) M = some (nI (g + L.length), zu M' 45 21 (nI (g + L.length))) ∧ BM M' b (g + L.length) (hw (32 - M0 45 0) (lfM M0) L g fs fn) ∧ Ag PM M0 M' ∧ (∀ b', b' ≠ b → M' 61 b' = M0 61 b') ∧ ∀ i, i < 30 * b ∨ 30 * b + 30 ≤ i → M' 60 i = M0 60 i := by
  intro j
  induction j with
  | zero =>
    intro fuel M hj hf hA h61 h60 hB
    obtain ⟨fuel, rfl⟩ : ∃ m, fuel = m + 1 := ⟨fuel - 1, by omega⟩
    rw [Nat.sub_zero] at hB
    refine ⟨M, ?_, hB, hA, h61, h60⟩
    rw [f_Mo_prove_l166, if_pos (show nI 0 - 1 < (0 : Int32) by decide), f_Mo_prove_b204, if_pos (zin_t hb (by decide)), nI_clamp (show b < 2 ^ 31 by omega)]
    simp only [zlt]
    rw [if_neg hx2, hB.1, zu_eq, upd_eq]
  | succ j ih =>
    intro fuel M hj hf hA h61 h60 hB
    obtain ⟨fuel, rfl⟩ : ∃ m, fuel = m + 1 := ⟨fuel - 1, by omega⟩
    have e1 : nI (j + 1) - 1 = nI j := nI_pred j
    have hq := getD_at (show j < L.length by omega)
    obtain ⟨r1, r2, r3, r4⟩ := hr j _ hq
    have m65 : M 65 = M0 65 := hA 65 (by unfold PM; omega)
    have m66 : M 66 = M0 66 := hA 66 (by unfold PM; omega)
    have m45 : M 45 = M0 45 := hA 45 (by unfold PM; omega)
    have m49 : M 49 = M0 49 := hA 49 (by unfold PM; omega)
    have mlf : lfM M = lfM M0 := by funext i; unfold lfM; rw [m45, m49]
    obtain ⟨pd, sz, d1⟩ := f_row hN M (L.getD j (false, 0, 0)).2.1 (L.getD j (false, 0, 0)).2.2 r3 r4
    have hw1 : rd (zH (32 - M 45 0) 4) (lfM M) (L.getD j (false, 0, 0)).2.1 (L.getD j (false, 0, 0)).2.2 = hw (32 - M0 45 0) (lfM M0) L g fs fn (g + (L.length - (j + 1))) := by
      rw [hw, if_neg (by omega), m45, mlf, show L.length - 1 - (g + (L.length - (j + 1)) - g) = j by omega]
    have hB2 : BM (s2 M pd sz) b (g + (L.length - (j + 1))) (hw (32 - M0 45 0) (lfM M0) L g fs fn) := hB
    obtain ⟨M', a1, a2, a3, a4, a5⟩ := app_M (N := N) hb (by omega) hB2
    obtain ⟨M'', i1, i2, i3, i4, i5⟩ := ih fuel M' (by omega) (by omega) (fun k hk => by
      rw [a3 k (fun q => hk (by unfold PM; omega)), s2_ne _ _ _ (fun q => hk (by unfold PM; omega)) (fun q => hk (by unfold PM; omega))]; exact hA k hk) (fun b' hb' => (a4 b' hb').trans (h61 b' hb')) (fun i hi => (a5 i hi).trans (h60 i hi)) (by rw [show g + (L.length - j) = g + (L.length - (j + 1)) + 1 by omega]; exact a2)
    refine ⟨M'', ?_, i2, i3, i4, i5⟩
    have e2 : nI j + (-1 : Int32) = nI j - 1 := by rw [Int32.sub_eq_add_neg]
    rw [f_Mo_prove_l166, e1, if_neg (nI_pos (show j < 2 ^ 31 by omega)), if_pos (zin_t (show j < 8 by omega) (by decide)), if_pos (zin_t (show j < 8 by omega) (by decide)), nI_clamp (show j < 2 ^ 31 by omega), m65, m66, r1, r2, d1, hw1]
    simp only [Option.bind_some, zlt]
    rw [a1]
    simp only [Option.bind_some]
    rw [e2]
    exact i1
