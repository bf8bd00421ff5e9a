/-! check() -/
theorem root_C {N t b n d : Nat} (hN : 8 ≤ N) (ht : zis_LC t = true) (hb : b < 4) (hn : n < 64) (hd : d ≤ 6) (s : Int32) (w : Nat → Int32) (M : zMem) (hs : M 1 0 = s) (hw : M (28 + 2 * b + 1) = w) (h2 : M t 2 = nI d) : ∃ M', f_LC_rootOf N t (28 + 2 * b) (nI (idx n)) M = some (du s n w d d, M') ∧ Ag (fun k => k = t + 1) M M' ∧ (∀ i, i < d → M' (t + 1) (3 * i) = 2 ∧ M' (t + 1) (3 * i + 1) = xq s n w d i ∧ M' (t + 1) (3 * i + 2) = yq s n w d i) ∧ (w 1 ≠ -1 → M' (t + 1) (3 * d) = 1 ∧ M' (t + 1) (3 * d + 1) = w 1 ∧ M' (t + 1) (3 * d + 2) = w 2) := by
  have h3 := zis_LC_ne ht
  rw [f_LC_rootOf, if_pos ht, if_pos (zis_Bu_of hb), hw, h2]
  by_cases c : w 1 = -1
  · obtain ⟨M', g1, g2, g3, g4⟩ := acc_lC (N := N) ht hb hn hd s w d (Nat.le_refl _) N M (by omega) hs hw
    rw [Nat.sub_self, du, lfd, if_pos c] at g1
    refine ⟨M', ?_, g2, g3, fun h => absurd c h⟩
    rw [if_pos c, f_LC_rootOf_b35, zlt_eq, h2]
    exact g1
  · obtain ⟨M3, hM3⟩ : ∃ M3, M3 = zu (zu (zu M (t + 1) (3 * d) 1) (t + 1) (3 * d + 1) (w 1)) (t + 1) (3 * d + 2) (w 2) := ⟨_, rfl⟩
    have n3 : ∀ k, k ≠ t + 1 → M3 k = M k := fun k hk => by rw [hM3, zu_ne _ _ _ hk, zu_ne _ _ _ hk, zu_ne _ _ _ hk]
    obtain ⟨u0, u1, u2, u3⟩ := zu3_at M (t + 1) (3 * d) 1 (w 1) (w 2)
    rw [← hM3] at u0 u1 u2 u3
    obtain ⟨M', g1, g2, g3, g4⟩ := acc_lC (N := N) ht hb hn hd s w d (Nat.le_refl _) N M3 (by omega) (by rw [n3 1 (by omega)]; exact hs) (by rw [n3 _ (by omega)]; exact hw)
    rw [Nat.sub_self, du, lfd, if_neg c] at g1
    refine ⟨M', ?_, fun k hk => by rw [g2 k hk]; exact n3 k hk, g3, fun h => ⟨by rw [g4 _ (by omega), u1], by rw [g4 _ (by omega), u2], by rw [g4 _ (by omega), u3]⟩⟩
    rw [if_neg c, f_keep ht (by omega), hs, ← hM3, Option.bind_some, f_LC_rootOf_b35, zlt_eq]
    have e : M3 t 2 = nI d := by rw [n3 t (by omega)]; exact h2
    rw [show ((zH s 1 (w 1) (w 2), M3) : Int32 × zMem).2 t 2 = nI d from e]
    exact g1
theorem acc_C {N b c n t : Nat} (hN : 8 ≤ N) (ht : zis_LC t = true) (hb : b < 4) (hn : n < 64) (hc : c ≤ 30) (rt : Int32) {M : zMem} (h1 : M (28 + 2 * b) 1 = nI c) : (¬ fmOk c (M (28 + 2 * b + 1)) n → f_LC_accepts N t (28 + 2 * b) (nI n) rt M = some (0, M)) ∧ (fmOk c (M (28 + 2 * b + 1)) n → ∃ M', f_LC_accepts N t (28 + 2 * b) (nI n) rt M = some (if du (M 1 0) n (M (28 + 2 * b + 1)) (c - 3) (c - 3) = rt then 1 else 0, M') ∧ Ag (fun k => k = t ∨ k = t + 1) M M' ∧ M' t 2 = nI (c - 3) ∧ M' t 3 = (if M (28 + 2 * b + 1) 1 = nI n then M (28 + 2 * b + 1) 2 else 0) ∧ (∀ i, i < c - 3 → M' (t + 1) (3 * i) = 2 ∧ M' (t + 1) (3 * i + 1) = xq (M 1 0) n (M (28 + 2 * b + 1)) (c - 3) i ∧ M' (t + 1) (3 * i + 2) = yq (M 1 0) n (M (28 + 2 * b + 1)) (c - 3) i) ∧ (M (28 + 2 * b + 1) 1 ≠ -1 → M' (t + 1) (3 * (c - 3)) = 1 ∧ M' (t + 1) (3 * (c - 3) + 1) = M (28 + 2 * b + 1) 1 ∧ M' (t + 1) (3 * (c - 3) + 2) = M (28 + 2 * b + 1) 2)) := by
  have h3 := zis_LC_ne ht
  refine ⟨fun h => ?_, fun h => ?_⟩
  · rw [f_LC_accepts, if_pos ht, if_pos (zis_Bu_of hb), (fm_C hb hn hc h1).2 h, Option.bind_some, if_pos rfl]
  · obtain ⟨w, hw⟩ : ∃ w, M (28 + 2 * b + 1) = w := ⟨_, rfl⟩
    obtain ⟨d, hd⟩ : ∃ d, c - 3 = d := ⟨_, rfl⟩
    have hf := (fm_C (N := N) hb hn hc h1).1 h
    have w0 := h.2.2.1
    have c9 := h.2.1
    have d6 : d ≤ 6 := by omega
    rw [hd, hw] at w0
    rw [hd, hw]
    have main : ∀ s1 : Int32, ∃ M', f_LC_accepts_b41 N t (28 + 2 * b) (nI n) rt s1 (zu M t 2 (nI d)) = some (if du (M 1 0) n w d d = rt then 1 else 0, M') ∧ Ag (fun k => k = t ∨ k = t + 1) M M' ∧ M' t 2 = nI d ∧ M' t 3 = s1 ∧ (∀ i, i < d → M' (t + 1) (3 * i) = 2 ∧ M' (t + 1) (3 * i + 1) = xq (M 1 0) n w d i ∧ M' (t + 1) (3 * i + 2) = yq (M 1 0) n w d i) ∧ (w 1 ≠ -1 → M' (t + 1) (3 * d) = 1 ∧ M' (t + 1) (3 * d + 1) = w 1 ∧ M' (t + 1) (3 * d + 2) = w 2) := by
      intro s1
      obtain ⟨M2, hM2⟩ : ∃ M2, M2 = zu (zu M t 2 (nI d)) t 3 s1 := ⟨_, rfl⟩
      have n2 : ∀ k, k ≠ t → M2 k = M k := fun k hk => by rw [hM2, zu_ne _ _ _ hk, zu_ne _ _ _ hk]
      have m2 : M2 t 2 = nI d := by rw [hM2, zu_eq, upd_ne _ _ (by decide), zu_eq, upd_eq]
      have m3 : M2 t 3 = s1 := by rw [hM2, zu_eq, upd_eq]
      obtain ⟨M', g1, g2, g3, g4⟩ := root_C hN ht hb hn (show d ≤ 6 by omega) (M 1 0) w M2 (by rw [n2 1 (by omega)]) (by rw [n2 _ (by omega)]; exact hw) m2
      refine ⟨M', ?_, fun k hk => by rw [g2 k (fun e => hk (Or.inr e))]; exact n2 k (fun e => hk (Or.inl e)), by rw [g2 t (by omega)]; exact m2, by rw [g2 t (by omega)]; exact m3, g3, g4⟩
      rw [f_LC_accepts_b41, zlt_eq, ← hM2, (f_indexOf hn M2).1, Option.bind_some, g1, Option.bind_some]
      by_cases cc : du (M 1 0) n w d d = rt
      · rw [if_pos cc, if_pos cc]
      · rw [if_neg cc, if_neg cc]
    rw [f_LC_accepts, if_pos ht, if_pos (zis_Bu_of hb), hf, Option.bind_some, if_neg (show ¬ (1 : Int32) = 0 by decide), zlt_eq]
    simp only [hw, w0, zu_ne M 2 (nI d) (show 28 + 2 * b + 1 ≠ t by omega)]
    by_cases c1 : w 1 = nI n
    · rw [if_pos c1, if_pos c1]
      exact main (w 2)
    · rw [if_neg c1, if_neg c1]
      exact main 0
theorem acc_M {N b c n a : Nat} (hN : 8 ≤ N) (ha : a ≤ 7) (hb : b < 4) (hn : n < 64) (hc : c ≤ 30) (rt : Int32) {M : zMem} (h1 : M 61 b = nI c) {w : Nat → Int32} (hw : ∀ i, w i = M 60 (30 * b + i)) : (¬ fmOk c w n → f_Mo_accepted N (nI b) (nI n) rt (nI a) M = some (0, M)) ∧ (fmOk c w n → ∃ M', f_Mo_accepted N (nI b) (nI n) rt (nI a) M = some (if du (32 - M 45 0) n w (c - 3) (c - 3) = rt then 1 else 0, M') ∧ Ag (fun k => k = 67 ∨ k = 68 ∨ k = 69) M M' ∧ (∀ i, i < c - 3 → M' 67 (a + i) = 2 ∧ M' 68 (a + i) = xq (32 - M 45 0) n w (c - 3) i ∧ M' 69 (a + i) = yq (32 - M 45 0) n w (c - 3) i) ∧ (M' 67 (a + (c - 3)) = (if w 1 = -1 then 0 else 1) ∧ M' 68 (a + (c - 3)) = w 1 ∧ M' 69 (a + (c - 3)) = w 2) ∧ ∀ i, i < a → M' 67 i = M 67 i ∧ M' 68 i = M 68 i ∧ M' 69 i = M 69 i) := by
  have ew : w = fun i => M 60 (30 * b + i) := funext hw
  have hfm := fm_M (N := N) hN hb hn hc h1
  rw [← ew] at hfm
  refine ⟨fun h => ?_, fun h => ?_⟩
  · rw [f_Mo_accepted, hfm.2 h, Option.bind_some, if_pos rfl]
  · obtain ⟨d, hd⟩ : ∃ d, c - 3 = d := ⟨_, rfl⟩
    obtain ⟨s, hs⟩ : ∃ s, 32 - M 45 0 = s := ⟨_, rfl⟩
    have w0 := h.2.2.1
    have c9 := h.2.1
    have w1 := h.2.2.2
    have d6 : d ≤ 6 := by omega
    rw [hd] at w0
    rw [hd, hs]
    have z14 : zin (nI (a + d)) 14 = true := zin_t (by omega) (by decide)
    have z1 : zin (nI (30 * b + 1)) 120 = true := zin_t (by omega) (by decide)
    have z2 : zin (nI (30 * b + 2)) 120 = true := zin_t (by omega) (by decide)
    have e0 : (30 : Int32) * nI b = nI (30 * b) := by rw [lN30, nI_mulN]
    have e1 : nI (30 * b) + (1 : Int32) = nI (30 * b + 1) := nI_1 _
    have e2 : nI (30 * b) + (2 : Int32) = nI (30 * b + 2) := by rw [lN2, nI_add]
    have main : ∀ T : Int32, T = (if w 1 = -1 then 0 else 1) → ∃ M', f_Mo_accepted_b54 N (nI b) (nI n) rt (nI a) (nI d) (w 1) (nI (a + d)) T M = some (if du s n w d d = rt then 1 else 0, M') ∧ Ag (fun k => k = 67 ∨ k = 68 ∨ k = 69) M M' ∧ (∀ i, i < d → M' 67 (a + i) = 2 ∧ M' 68 (a + i) = xq s n w d i ∧ M' 69 (a + i) = yq s n w d i) ∧ (M' 67 (a + d) = (if w 1 = -1 then 0 else 1) ∧ M' 68 (a + d) = w 1 ∧ M' 69 (a + d) = w 2) ∧ ∀ i, i < a → M' 67 i = M 67 i ∧ M' 68 i = M 68 i ∧ M' 69 i = M 69 i := by
      intro T hT
      obtain ⟨M3, hM3⟩ : ∃ M3, M3 = zu (zu (zu M 67 (a + d) T) 68 (a + d) (w 1)) 69 (a + d) (w 2) := ⟨_, rfl⟩
      have n3 : ∀ k, k ≠ 67 → k ≠ 68 → k ≠ 69 → M3 k = M k := fun k h1 h2 h3 => by rw [hM3, zu_ne _ _ _ h3, zu_ne _ _ _ h2, zu_ne _ _ _ h1]
      have u67 : M3 67 = upd (M 67) (a + d) T := by rw [hM3, zu_ne _ _ _ (by decide), zu_ne _ _ _ (by decide), zu_eq]
      have u68 : M3 68 = upd (M 68) (a + d) (w 1) := by rw [hM3, zu_ne _ _ _ (by decide), zu_eq, zu_ne _ _ _ (by decide)]
      have u69 : M3 69 = upd (M 69) (a + d) (w 2) := by rw [hM3, zu_eq, zu_ne _ _ _ (by decide), zu_ne _ _ _ (by decide)]
      have s3 : 32 - M3 45 0 = s := by rw [n3 45 (by decide) (by decide) (by decide)]; exact hs
      have w3 : ∀ i, M3 60 (30 * b + i) = w i := fun i => by rw [n3 60 (by decide) (by decide) (by decide), hw i]
      obtain ⟨M', g1, g2, g3, g4⟩ := acc_lM (N := N) hb hn (show d ≤ 6 by omega) ha s rt w d (Nat.le_refl _) N M3 (by omega) s3 (fun i _ => w3 _)
      refine ⟨M', ?_, fun k hk => by rw [g2 k hk]; exact n3 k (fun e => hk (Or.inl e)) (fun e => hk (Or.inr (Or.inl e))) (fun e => hk (Or.inr (Or.inr e))), g3, ?_, fun i hi => ?_⟩
      · rw [Nat.sub_self, du, lfd] at g1
        rw [f_Mo_accepted_b54, if_pos z14, nI_clamp (show a + d < 2 ^ 31 by omega), nI_add, nI_clamp (show a + d < 2 ^ 31 by omega), e0, e2, nI_clamp (show 30 * b + 2 < 2 ^ 31 by omega), zlt_eq, if_pos z14, zlt_eq, if_pos z2, if_pos z14, zu_ne _ _ _ (show 60 ≠ 68 by decide), zu_ne _ _ _ (show 60 ≠ 67 by decide), ← hw 2, ← hM3, zlt_eq]
        rcases w1 with ⟨q1, -⟩ | ⟨q1, m, hm, q2, -⟩
        · rw [if_pos q1] at g1
          rw [if_neg (show ¬ (0 : Int32) ≤ w 1 by rw [q1]; decide), f_Mo_accepted_b115, zlt_eq]
          exact g1
        · rw [if_neg q1] at g1
          rw [if_pos (show (0 : Int32) ≤ w 1 by rw [q2]; exact nI_pos' (by omega)), if_pos z2, w3 2, f_hash, s3, Option.bind_some, f_Mo_accepted_b115, zlt_eq]
          exact g1
      · obtain ⟨q1, q2, q3⟩ := g4 (a + d) (by omega)
        rw [q1, q2, q3, u67, u68, u69, upd_eq, upd_eq, upd_eq, hT]
        exact ⟨rfl, rfl, rfl⟩
      · obtain ⟨q1, q2, q3⟩ := g4 i (by omega)
        rw [q1, q2, q3, u67, u68, u69, upd_ne _ _ (by omega), upd_ne _ _ (by omega), upd_ne _ _ (by omega)]
        exact ⟨rfl, rfl, rfl⟩
    have a0 : M 60 (30 * b) = nI d := by rw [← w0, hw 0]; rfl
    rw [f_Mo_accepted, hfm.1 h, Option.bind_some, if_neg (show ¬ (1 : Int32) = 0 by decide), e0, e1, if_pos (zin_t (show 30 * b < 120 by omega) (by decide)), nI_clamp (show 30 * b < 2 ^ 31 by omega), nI_clamp (show 30 * b + 1 < 2 ^ 31 by omega), zlt_eq, if_pos z1, zlt_eq]
    simp only [a0, ← hw 1, nI_add]
    rcases w1 with ⟨q1, -⟩ | ⟨q1, m, hm, q2, -⟩
    · rw [if_neg (show ¬ (0 : Int32) ≤ w 1 by rw [q1]; decide)]
      exact main 0 (by rw [if_pos q1])
    · rw [if_pos (show (0 : Int32) ≤ w 1 by rw [q2]; exact nI_pos' (by omega))]
      exact main 1 (by rw [if_neg q1])
