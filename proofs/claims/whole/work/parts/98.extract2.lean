/-! extract(): the first difference -/
def tr3 (s : Int32) (n : Nat) (w : Nat → Int32) (d i : Nat) : Int32 × Int32 × Int32 := if i < d then (2, xq s n w d i, yq s n w d i) else (1, w 1, w 2)
def sy (w : Nat → Int32) (n : Nat) : Int32 := if w 1 = nI n then w 2 else 0
theorem diff_go {s : Int32} {n d e : Nat} {w v : Nat → Int32} (hr : du s n w d d = du s n v e e) : ∀ k, k ≤ d → k ≤ e → (∃ i, i < k ∧ (∀ j, j < i → tr3 s n w d j = tr3 s n v e j) ∧ tr3 s n w d i ≠ tr3 s n v e i) ∨ ((∀ j, j < k → tr3 s n w d j = tr3 s n v e j) ∧ du s n w d (d - k) = du s n v e (e - k)) := by
  intro k
  induction k with
  | zero => exact fun _ _ => Or.inr ⟨fun j hj => absurd hj (Nat.not_lt_zero _), hr⟩
  | succ k ih =>
    intro hd he
    rcases ih (by omega) (by omega) with ⟨i, h1, h2, h3⟩ | ⟨h1, h2⟩
    · exact Or.inl ⟨i, by omega, h2, h3⟩
    · by_cases c : tr3 s n w d k = tr3 s n v e k
      · refine Or.inr ⟨fun j hj => ?_, ?_⟩
        · by_cases e' : j = k
          · rw [e']; exact c
          · exact h1 j (by omega)
        · unfold tr3 at c
          rw [if_pos (show k < d by omega), if_pos (show k < e by omega)] at c
          have cx : xq s n w d k = xq s n v e k := congrArg (fun q => q.2.1) c
          have cy : yq s n w d k = yq s n v e k := congrArg (fun q => q.2.2) c
          unfold xq at cx
          unfold yq at cy
          rw [show d - (k + 1) = d - 1 - k by omega, show e - (k + 1) = e - 1 - k by omega]
          by_cases b0 : bt n k = 0
          · rw [if_pos b0, if_pos b0] at cx; exact cx
          · rw [if_neg b0, if_neg b0] at cy; exact cy
      · exact Or.inl ⟨k, by omega, h1, c⟩
theorem sy_none {w : Nat → Int32} {n : Nat} (hn : n < 64) (h : w 1 = -1) : sy w n = 0 := by
  unfold sy
  rw [h, if_neg]
  intro q
  have hp := nI_pos' (show n < 2 ^ 31 by omega)
  rw [← q] at hp
  exact absurd hp (by decide)
theorem lfd_zero {s : Int32} {w : Nat → Int32} (h : lfd s w = 0) : w 1 = -1 := by
  unfold lfd at h
  by_cases c : w 1 = -1
  · exact c
  · rw [if_neg c] at h
    exact absurd h (zH_ne _ _ _ _)
/-- there is a first difference, and the inputs are there -/
theorem diff_ex {s : Int32} {n d e : Nat} {w v : Nat → Int32} (hn : n < 64) (hr : du s n w d d = du s n v e e) (hs : sy w n ≠ sy v n) : ∃ i, i ≤ d ∧ i ≤ e ∧ (∀ j, j < i → tr3 s n w d j = tr3 s n v e j) ∧ tr3 s n w d i ≠ tr3 s n v e i ∧ (i = d → w 1 ≠ -1) ∧ (i = e → v 1 ≠ -1) := by
  by_cases hde : d < e
  · rcases diff_go hr d (Nat.le_refl _) (by omega) with ⟨i, h1, h2, h3⟩ | ⟨h1, h2⟩
    · exact ⟨i, by omega, by omega, h2, h3, by omega, by omega⟩
    · refine ⟨d, Nat.le_refl _, by omega, h1, ?_, fun _ q => ?_, by omega⟩
      · unfold tr3
        rw [if_neg (Nat.lt_irrefl _), if_pos hde]
        intro q
        exact absurd (show (1 : Int32) = 2 from congrArg Prod.fst q) (by decide)
      · rw [Nat.sub_self, du, lfd, if_pos q, du_step s n v hde] at h2
        exact zH_ne _ _ _ _ h2.symm
  · by_cases hed : e < d
    · rcases diff_go hr e (by omega) (Nat.le_refl _) with ⟨i, h1, h2, h3⟩ | ⟨h1, h2⟩
      · exact ⟨i, by omega, by omega, h2, h3, by omega, by omega⟩
      · refine ⟨e, by omega, Nat.le_refl _, h1, ?_, by omega, fun _ q => ?_⟩
        · unfold tr3
          rw [if_neg (Nat.lt_irrefl _), if_pos hed]
          intro q
          exact absurd (show (2 : Int32) = 1 from congrArg Prod.fst q) (by decide)
        · rw [Nat.sub_self, du, lfd, if_pos q, du_step s n w hed] at h2
          exact zH_ne _ _ _ _ h2
    · have : d = e := by omega
      subst this
      rcases diff_go hr d (Nat.le_refl _) (Nat.le_refl _) with ⟨i, h1, h2, h3⟩ | ⟨h1, h2⟩
      · exact ⟨i, by omega, by omega, h2, h3, by omega, by omega⟩
      · rw [Nat.sub_self, du, du] at h2
        have k1 : w 1 = -1 → False := fun q => by
          rw [lfd, if_pos q] at h2
          exact hs (by rw [sy_none hn q, sy_none hn (lfd_zero h2.symm)])
        have k2 : v 1 = -1 → False := fun q => by
          rw [show lfd s v = 0 by rw [lfd, if_pos q]] at h2
          exact hs (by rw [sy_none hn q, sy_none hn (lfd_zero h2)])
        refine ⟨d, Nat.le_refl _, Nat.le_refl _, h1, ?_, fun _ q => k1 q, fun _ q => k2 q⟩
        unfold tr3
        rw [if_neg (Nat.lt_irrefl _), if_neg (Nat.lt_irrefl _)]
        intro q
        apply hs
        have q1 : w 1 = v 1 := congrArg (fun q => q.2.1) q
        have q2 : w 2 = v 2 := congrArg (fun q => q.2.2) q
        unfold sy
        rw [q1, q2]
/-- three words of a row -/
def r3 (f : Nat → Int32) (i : Nat) : Int32 × Int32 × Int32 := (f (3 * i), f (3 * i + 1), f (3 * i + 2))
theorem r3_ext {a b c a' b' c' : Int32} (h1 : a = a') (h2 : b = b') (h3 : c = c') : (a, b, c) = (a', b', c') := by rw [h1, h2, h3]
theorem f_differs {N i : Nat} (hi : i < 7) (M : zMem) : (r3 (M 37) i = r3 (M 39) i → f_LC_differsFrom N 36 38 (nI i) M = some (0, M)) ∧ (r3 (M 37) i ≠ r3 (M 39) i → f_LC_differsFrom N 36 38 (nI i) M = some (1, M)) := by
  have e0 : (3 : Int32) * nI i = nI (3 * i) := by rw [lN3, nI_mulN]
  have e1 : nI (3 * i) + (1 : Int32) = nI (3 * i + 1) := nI_1 _
  have e2 : nI (3 * i) + (2 : Int32) = nI (3 * i + 2) := by rw [lN2, nI_add]
  have z0 : zin (nI (3 * i)) 21 = true := zin_t (by omega) (by decide)
  have z1 : zin (nI (3 * i + 1)) 21 = true := zin_t (by omega) (by decide)
  have z2 : zin (nI (3 * i + 2)) 21 = true := zin_t (by omega) (by decide)
  rw [f_LC_differsFrom, if_pos (show zis_LC 36 = true by decide), if_pos (show zis_LC 38 = true by decide), e0, zlt_eq, e1, e2, if_pos z0, if_pos z0, nI_clamp (show 3 * i < 2 ^ 31 by omega), nI_clamp (show 3 * i + 1 < 2 ^ 31 by omega), nI_clamp (show 3 * i + 2 < 2 ^ 31 by omega), if_pos z1, if_pos z1, if_pos z2, if_pos z2]
  unfold r3
  by_cases c0 : M 37 (3 * i) = M 39 (3 * i)
  · rw [if_pos c0]
    by_cases c1 : M 37 (3 * i + 1) = M 39 (3 * i + 1)
    · rw [if_pos c1]
      by_cases c2 : M 37 (3 * i + 2) = M 39 (3 * i + 2)
      · rw [if_pos c2]
        exact ⟨fun _ => rfl, fun h => absurd (r3_ext c0 c1 c2) h⟩
      · rw [if_neg c2]
        exact ⟨fun h => absurd (congrArg (fun q => q.2.2) h) c2, fun _ => rfl⟩
    · rw [if_neg c1]
      exact ⟨fun h => absurd (congrArg (fun q => q.2.1) h) c1, fun _ => rfl⟩
  · rw [if_neg c0]
    exact ⟨fun h => absurd (congrArg (fun q => q.1) h) c0, fun _ => rfl⟩
theorem f_copyInput {N t i o : Nat} (hN : 4 ≤ N) (ht : zis_LC t = true) (hi : i < 7) (ho : o ≤ 3) (M : zMem) : f_LC_copyInput N t (nI i) (nI o) M = some (0, zu (zu (zu M 44 o (M (t + 1) (3 * i))) 44 (o + 1) (M (t + 1) (3 * i + 1))) 44 (o + 2) (M (t + 1) (3 * i + 2))) := by
  have h3 := zis_LC_ne ht
  obtain ⟨N, rfl⟩ : ∃ k, N = k + 4 := ⟨N - 4, by omega⟩
  have e0 : (3 : Int32) * nI i = nI (3 * i) := by rw [lN3, nI_mulN]
  have e1 : nI (3 * i) + (1 : Int32) = nI (3 * i + 1) := nI_1 _
  have e2 : nI (3 * i) + (2 : Int32) = nI (3 * i + 2) := by rw [lN2, nI_add]
  have o1 : nI o + (1 : Int32) = nI (o + 1) := nI_1 _
  have o2 : nI o + (2 : Int32) = nI (o + 2) := by rw [lN2, nI_add]
  have z0 : zin (nI (3 * i)) 21 = true := zin_t (by omega) (by decide)
  have z1 : zin (nI (3 * i + 1)) 21 = true := zin_t (by omega) (by decide)
  have z2 : zin (nI (3 * i + 2)) 21 = true := zin_t (by omega) (by decide)
  have y0 : zin (nI o) 6 = true := zin_t (by omega) (by decide)
  have y1 : zin (nI (o + 1)) 6 = true := zin_t (by omega) (by decide)
  have y2 : zin (nI (o + 2)) 6 = true := zin_t (by omega) (by decide)
  rw [f_LC_copyInput, if_pos ht, f_LC_copyInput_l3, if_neg (show ¬ (3 : Int32) ≤ 0 by decide), e0, Int32.add_zero, Int32.add_zero, if_pos z0, if_pos y0, nI_clamp (show 3 * i < 2 ^ 31 by omega), nI_clamp (show o < 2 ^ 31 by omega), zlt_eq, zlt_eq, show (0 : Int32) + 1 = 1 by decide,
    f_LC_copyInput_l3, if_neg (show ¬ (3 : Int32) ≤ 1 by decide), e0, e1, o1, if_pos z1, if_pos y1, nI_clamp (show 3 * i + 1 < 2 ^ 31 by omega), nI_clamp (show o + 1 < 2 ^ 31 by omega), zlt_eq, zlt_eq, show (1 : Int32) + 1 = 2 by decide,
    f_LC_copyInput_l3, if_neg (show ¬ (3 : Int32) ≤ 2 by decide), e0, e2, o2, if_pos z2, if_pos y2, nI_clamp (show 3 * i + 2 < 2 ^ 31 by omega), nI_clamp (show o + 2 < 2 ^ 31 by omega), zlt_eq, zlt_eq, show (2 : Int32) + 1 = 3 by decide,
    f_LC_copyInput_l3, if_pos (show (3 : Int32) ≤ 3 by decide)]
  rw [zu_ne _ _ _ (show t + 1 ≠ 44 by omega), zu_ne _ _ _ (show t + 1 ≠ 44 by omega), zu_ne _ _ _ (show t + 1 ≠ 44 by omega)]
/-- six words set -/
def s6 (M : zMem) (k : Nat) (a b : Int32 × Int32 × Int32) : zMem := zu (zu (zu (zu (zu (zu M k 0 a.1) k 1 a.2.1) k 2 a.2.2) k 3 b.1) k 4 b.2.1) k 5 b.2.2
def v6 (a b : Int32 × Int32 × Int32) (i : Nat) : Int32 := if i = 0 then a.1 else if i = 1 then a.2.1 else if i = 2 then a.2.2 else if i = 3 then b.1 else if i = 4 then b.2.1 else b.2.2
theorem s6_at (M : zMem) (k : Nat) (a b : Int32 × Int32 × Int32) : ∀ i, i < 6 → s6 M k a b k i = v6 a b i := by
  intro i hi
  unfold s6
  rcases i with _ | _ | _ | _ | _ | _ | i
  · rw [zu_eq, upd_ne _ _ (by decide), zu_eq, upd_ne _ _ (by decide), zu_eq, upd_ne _ _ (by decide), zu_eq, upd_ne _ _ (by decide), zu_eq, upd_ne _ _ (by decide), zu_eq, upd_eq]; rfl
  · rw [zu_eq, upd_ne _ _ (by decide), zu_eq, upd_ne _ _ (by decide), zu_eq, upd_ne _ _ (by decide), zu_eq, upd_ne _ _ (by decide), zu_eq, upd_eq]; rfl
  · rw [zu_eq, upd_ne _ _ (by decide), zu_eq, upd_ne _ _ (by decide), zu_eq, upd_ne _ _ (by decide), zu_eq, upd_eq]; rfl
  · rw [zu_eq, upd_ne _ _ (by decide), zu_eq, upd_ne _ _ (by decide), zu_eq, upd_eq]; rfl
  · rw [zu_eq, upd_ne _ _ (by decide), zu_eq, upd_eq]; rfl
  · rw [zu_eq, upd_eq]; rfl
  · omega
theorem s6_ne (M : zMem) {k k' : Nat} (a b : Int32 × Int32 × Int32) (h : k' ≠ k) : s6 M k a b k' = M k' := by
  unfold s6
  rw [zu_ne _ _ _ h, zu_ne _ _ _ h, zu_ne _ _ _ h, zu_ne _ _ _ h, zu_ne _ _ _ h, zu_ne _ _ _ h]
theorem take_C {N : Nat} (hN : 4 ≤ N) (M : zMem) {sh k : Nat} (hk : k ≤ sh) (hs : sh < 7) (h1 : ∀ i, i < k → r3 (M 37) i = r3 (M 39) i) (h2 : r3 (M 37) k ≠ r3 (M 39) k) : ∀ r i fuel, i + r = k → r < fuel → f_ED_takeOutFirstDifference_l20 N fuel (nI sh) (nI i) M = some (1, s6 M 44 (r3 (M 37) k) (r3 (M 39) k)) := by
  intro r
  induction r with
  | zero =>
    intro i fuel hi hf
    obtain ⟨fuel, rfl⟩ : ∃ m, fuel = m + 1 := ⟨fuel - 1, by omega⟩
    have : i = k := by omega
    subst this
    rw [f_ED_takeOutFirstDifference_l20, if_neg (show ¬ nI sh < nI i by rw [nI_ltI (by omega) (by omega)]; omega), (f_differs (by omega) M).2 h2, Option.bind_some, if_neg (show ¬ (1 : Int32) = 0 by decide), lN0, f_copyInput hN (by decide) (by omega) (by decide), Option.bind_some, lN3, f_copyInput hN (by decide) (by omega) (by decide), Option.bind_some]
    dsimp only
    rw [zu_ne _ _ _ (show 38 + 1 ≠ 44 by decide), zu_ne _ _ _ (show 38 + 1 ≠ 44 by decide), zu_ne _ _ _ (show 38 + 1 ≠ 44 by decide)]
    rfl
  | succ r ih =>
    intro i fuel hi hf
    obtain ⟨fuel, rfl⟩ : ∃ m, fuel = m + 1 := ⟨fuel - 1, by omega⟩
    rw [f_ED_takeOutFirstDifference_l20, if_neg (show ¬ nI sh < nI i by rw [nI_ltI (by omega) (by omega)]; omega), (f_differs (by omega) M).1 (h1 i (by omega)), Option.bind_some, if_pos rfl, zlt_eq, nI_1]
    exact ih (i + 1) fuel (by omega) (by omega)
/-- one input of the reference -/
def m3 (M : zMem) (i : Nat) : Int32 × Int32 × Int32 := (M 67 i, M 68 i, M 69 i)
theorem ext_b {N k : Nat} (hk : k < 7) (M : zMem) : f_Mo_extract_b118 N (nI k) M = some (1, s6 M 70 (m3 M k) (m3 M (7 + k))) := by
  have z0 : zin (nI k) 14 = true := zin_t (by omega) (by decide)
  have z7 : zin (nI (7 + k)) 14 = true := zin_t (by omega) (by decide)
  rw [f_Mo_extract_b118, show (7 : Int32) + nI k = nI (7 + k) from nI_add 7 k, nI_clamp (show k < 2 ^ 31 by omega), nI_clamp (show 7 + k < 2 ^ 31 by omega), if_pos z0, zlt_eq, if_pos z0, zlt_eq, if_pos z0, zlt_eq, if_pos z7, zlt_eq, if_pos z7, zlt_eq, if_pos z7, zlt_eq]
  repeat rw [zu_ne _ _ _ (show 67 ≠ 70 by decide)]
  repeat rw [zu_ne _ _ _ (show 68 ≠ 70 by decide)]
  repeat rw [zu_ne _ _ _ (show 69 ≠ 70 by decide)]
  rfl
theorem take_M {N : Nat} (M : zMem) {k : Nat} (hk : k < 7) (h1 : ∀ i, i < k → m3 M i = m3 M (7 + i)) (h2 : m3 M k ≠ m3 M (7 + k)) : ∀ r i fuel, i + r = k → r < fuel → f_Mo_extract_l45 N fuel (nI i) M = some (1, s6 M 70 (m3 M k) (m3 M (7 + k))) := by
  intro r
  induction r with
  | zero =>
    intro i fuel hi hf
    obtain ⟨fuel, rfl⟩ : ∃ m, fuel = m + 1 := ⟨fuel - 1, by omega⟩
    have : i = k := by omega
    subst this
    have z0 : zin (nI i) 14 = true := zin_t (by omega) (by decide)
    have z7 : zin (nI (7 + i)) 14 = true := zin_t (by omega) (by decide)
    rw [f_Mo_extract_l45]
    by_cases c6 : (6 : Int32) ≤ nI i
    · rw [if_pos c6]; exact ext_b hk M
    · rw [if_neg c6, show (7 : Int32) + nI i = nI (7 + i) from nI_add 7 i, nI_clamp (show i < 2 ^ 31 by omega), nI_clamp (show 7 + i < 2 ^ 31 by omega)]
      simp only [if_pos z0, if_pos z7]
      by_cases c0 : M 67 i = M 67 (7 + i)
      · rw [if_pos c0]
        by_cases c1 : M 68 i = M 68 (7 + i)
        · rw [if_pos c1]
          by_cases c2 : M 69 i = M 69 (7 + i)
          · exact absurd (r3_ext c0 c1 c2) h2
          · rw [if_neg c2]; exact ext_b hk M
        · rw [if_neg c1]; exact ext_b hk M
      · rw [if_neg c0]; exact ext_b hk M
  | succ r ih =>
    intro i fuel hi hf
    obtain ⟨fuel, rfl⟩ : ∃ m, fuel = m + 1 := ⟨fuel - 1, by omega⟩
    have z0 : zin (nI i) 14 = true := zin_t (by omega) (by decide)
    have z7 : zin (nI (7 + i)) 14 = true := zin_t (by omega) (by decide)
    have e := h1 i (by omega)
    have c0 : M 67 i = M 67 (7 + i) := congrArg (fun q => q.1) e
    have c1 : M 68 i = M 68 (7 + i) := congrArg (fun q => q.2.1) e
    have c2 : M 69 i = M 69 (7 + i) := congrArg (fun q => q.2.2) e
    rw [f_Mo_extract_l45, if_neg (show ¬ (6 : Int32) ≤ nI i by rw [lN6, nI_leI (by decide) (by omega)]; omega), show (7 : Int32) + nI i = nI (7 + i) from nI_add 7 i, nI_clamp (show i < 2 ^ 31 by omega), nI_clamp (show 7 + i < 2 ^ 31 by omega), if_pos z0, if_pos z7, if_pos c0, if_pos z0, if_pos z7, if_pos c1, if_pos z0, if_pos z7, if_pos c2, zlt_eq, nI_1]
    exact ih (i + 1) fuel (by omega) (by omega)
