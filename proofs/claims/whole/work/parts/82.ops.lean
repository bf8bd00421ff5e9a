/-! calls that read, or write little -/
theorem iBufs.get {M : zMem} (h : iBufs M) {b : Nat} (hb : b < 4) : iBuf (M (28 + 2 * b) 1) (M (28 + 2 * b + 1)) (M 61 b) (M 60) (30 * b) := by
  obtain ⟨h0, h1, h2, h3⟩ := h
  rcases (show b = 0 ∨ b = 1 ∨ b = 2 ∨ b = 3 by omega) with rfl | rfl | rfl | rfl
  · exact h0
  · exact h1
  · exact h2
  · exact h3
theorem iBufs.mk4 {M : zMem} (h : ∀ b, b < 4 → iBuf (M (28 + 2 * b) 1) (M (28 + 2 * b + 1)) (M 61 b) (M 60) (30 * b)) : iBufs M :=
  ⟨h 0 (by decide), h 1 (by decide), h 2 (by decide), h 3 (by decide)⟩
theorem zis_Bu_of {b : Nat} (hb : b < 4) : zis_Bu (28 + 2 * b) = true := by
  rcases (show b = 0 ∨ b = 1 ∨ b = 2 ∨ b = 3 by omega) with rfl | rfl | rfl | rfl <;> rfl
theorem f_bufferAt_no {N : Nat} {x : Int32} {M : zMem} (h : x < 0 ∨ (4 : Int32) ≤ x) : f_ED_bufferAt N x M = some (none, M) := by
  unfold f_ED_bufferAt
  by_cases c : x < 0
  · rw [if_pos c]
  · rw [if_neg c, if_pos (h.resolve_left c)]
theorem f_bufferAt_at {N b : Nat} {M : zMem} (h : b < 4) : f_ED_bufferAt N (nI b) M = some (some (28 + 2 * b), M) := by
  unfold f_ED_bufferAt
  rw [if_neg (nI_pos (by omega)), if_neg (show ¬ (4 : Int32) ≤ nI b by rw [lN4, nI_leI (by decide) (by omega)]; omega), if_pos (zin_t h (by decide)), nI_clamp (by omega)]
/-- a buffer's number, or none -/
theorem buf_cases (x : Int32) : (x < 0 ∨ (4 : Int32) ≤ x) ∨ ∃ b, b < 4 ∧ x = nI b := by
  by_cases c : x < 0
  · exact Or.inl (Or.inl c)
  · obtain ⟨j, hj, rfl⟩ := nI_of c
    by_cases c4 : j < 4
    · exact Or.inr ⟨j, c4, rfl⟩
    · exact Or.inl (Or.inr (show (4 : Int32) ≤ nI j by rw [lN4, nI_leI (by decide) hj]; omega))
theorem no3 {x : Int32} (h : x < 0 ∨ (4 : Int32) ≤ x) (c : ¬ x < 0) : (3 : Int32) < x := by
  have h4 := h.resolve_left c
  rw [Int32.le_iff_toInt_le] at h4
  rw [Int32.lt_iff_toInt_lt]
  have e4 : (4 : Int32).toInt = 4 := by decide
  have e3 : (3 : Int32).toInt = 3 := by decide
  omega
theorem Ok2.read {f g : zMem → Option (Int32 × zMem)} (h : ∀ M, Inv M → ∃ r, f M = some (r, M) ∧ g M = some (r, M)) : Ok2 f g := fun M hI => by
  obtain ⟨r, h1, h2⟩ := h M hI
  exact ⟨r, M, M, h1, h2, hI⟩
theorem ok_word (N : Nat) (x y : Int32) : Ok2 (f_ED_word N x y) (f_Mo_word N x y) := by
  refine Ok2.read (fun M hI => ?_)
  have hb := hI.2.2.2.2.2.1
  unfold f_ED_word f_Mo_word
  rcases buf_cases x with hx | ⟨b, hb4, rfl⟩
  · refine ⟨-2, by rw [f_bufferAt_no hx]; rfl, ?_⟩
    by_cases c : x < 0
    · rw [if_pos c]
    · rw [if_neg c, if_pos (no3 hx c)]
  · obtain ⟨a1, c, a2, a3, a4⟩ := hb.get hb4
    have n0 : ¬ nI b < 0 := nI_pos (by omega)
    have n3 : ¬ (3 : Int32) < nI b := show ¬ (3 : Int32) < nI b by rw [lN3, nI_ltI (by decide) (by omega)]; omega
    have z4 : zin (nI b) 4 = true := zin_t hb4 (by decide)
    have em : (-1 : Int32).toInt = -1 := by decide
    rw [f_bufferAt_at hb4]
    simp only [Option.bind_some, zcs, zis_Bu_of hb4, if_true, if_neg n0, if_neg n3, if_pos z4, nI_clamp (show b < 2 ^ 31 by omega), a1, a3]
    by_cases cm : y = -1
    · subst cm
      refine ⟨nI c, by rw [if_pos rfl], ?_⟩
      rw [if_neg (by decide), if_pos (by rw [Int32.lt_iff_toInt_lt, em, nI_toInt (by omega)]; omega), if_neg (by decide)]
    · by_cases c0 : y < 0
      · refine ⟨-2, by rw [if_neg cm, if_pos c0], ?_⟩
        rw [if_pos]
        rw [Int32.lt_iff_toInt_lt] at c0 ⊢
        have : y.toInt ≠ -1 := fun q => cm (Int32.toInt_inj.mp (by rw [q, em]))
        rw [tI0] at c0
        omega
      · obtain ⟨j, hj, rfl⟩ := nI_of c0
        have nm : ¬ nI j < -1 := by rw [Int32.lt_iff_toInt_lt, em, nI_toInt hj]; omega
        rw [if_neg cm, if_neg c0, if_neg nm]
        by_cases c1 : j < c
        · refine ⟨M (28 + 2 * b + 1) j, ?_, ?_⟩
          · rw [if_neg (by rw [nI_leI (by omega) hj]; omega), if_pos (zin_t (by omega) (by decide)), nI_clamp hj]
          · have e : (30 : Int32) * nI b + nI j = nI (30 * b + j) := by rw [lN30, nI_mulN, nI_add]
            rw [if_pos (by rw [nI_ltI hj (by omega)]; exact c1), if_pos (nI_pos' hj), e, if_pos (zin_t (by omega) (by decide)), nI_clamp (by omega), a4 j c1]
        · refine ⟨-2, ?_, ?_⟩
          · rw [if_pos (by rw [nI_leI (by omega) hj]; omega)]
          · rw [if_neg (by rw [nI_ltI hj (by omega)]; exact c1)]
/-- a memory that differs from M in buffer b alone -/
theorem iBufs.setb {M M' : zMem} (h : iBufs M) {b : Nat} (hb : b < 4) (h28 : ∀ k, k ≠ 28 + 2 * b → k ≠ 28 + 2 * b + 1 → k ≠ 60 → k ≠ 61 → M' k = M k) (h61 : ∀ b', b' ≠ b → M' 61 b' = M 61 b') (h60 : ∀ i, i < 30 * b ∨ 30 * b + 30 ≤ i → M' 60 i = M 60 i)
    (hn : iBuf (M' (28 + 2 * b) 1) (M' (28 + 2 * b + 1)) (M' 61 b) (M' 60) (30 * b)) : iBufs M' := by
  refine iBufs.mk4 (fun b' hb' => ?_)
  by_cases e : b' = b
  · subst e; exact hn
  · obtain ⟨a1, c, a2, a3, a4⟩ := h.get hb'
    rw [h28 (28 + 2 * b') (by omega) (by omega) (by omega) (by omega), h28 (28 + 2 * b' + 1) (by omega) (by omega) (by omega) (by omega), h61 b' e]
    exact ⟨a1, c, a2, a3, fun i hi => by rw [a4 i hi, h60 (30 * b' + i) (by omega)]⟩
theorem ok_trim (N : Nat) (x y : Int32) : Ok2 (f_ED_trim N x y) (f_Mo_trim N x y) := by
  intro M hI
  have hb := hI.2.2.2.2.2.1
  rcases buf_cases x with hx | ⟨b, hb4, rfl⟩
  · refine ⟨0, M, M, by rw [f_ED_trim, f_bufferAt_no hx]; rfl, ?_, hI⟩
    rw [f_Mo_trim]
    by_cases c : x < 0
    · rw [if_pos c]
    · rw [if_neg c, if_pos (no3 hx c)]
  · obtain ⟨a1, c, a2, a3, a4⟩ := hb.get hb4
    have n0 : ¬ nI b < 0 := nI_pos (by omega)
    have n3 : ¬ (3 : Int32) < nI b := show ¬ (3 : Int32) < nI b by rw [lN3, nI_ltI (by decide) (by omega)]; omega
    have z4 : zin (nI b) 4 = true := zin_t hb4 (by decide)
    have hE : f_ED_trim N (nI b) y M = if y < 0 then some (0, M) else if y ≤ nI c then some (1, zu M (28 + 2 * b) 1 y) else some (0, M) := by
      rw [f_ED_trim, f_bufferAt_at hb4]
      simp only [Option.bind_some, zcs, zis_Bu_of hb4, if_true, a3, zlt]
    have hM : ∀ M', M' 61 b = nI c → f_Mo_trim N (nI b) y M' = if y < 0 then some (0, M') else if y ≤ nI c then some (1, zu M' 61 b y) else some (0, M') := by
      intro M' h
      rw [f_Mo_trim]
      simp only [if_neg n0, if_neg n3, if_pos z4, nI_clamp (show b < 2 ^ 31 by omega), h, zlt]
    rw [hE]
    by_cases c0 : y < 0
    · exact ⟨0, M, M, by rw [if_pos c0], by rw [hM M (a1.trans a3), if_pos c0], hI⟩
    · obtain ⟨j, hj, rfl⟩ := nI_of c0
      rw [if_neg c0]
      by_cases c1 : j ≤ c
      · have c1' : nI j ≤ nI c := by rw [nI_leI hj (by omega)]; exact c1
        refine ⟨1, zu M (28 + 2 * b) 1 (nI j), zu (zu M (28 + 2 * b) 1 (nI j)) 61 b (nI j), by rw [if_pos c1'], ?_, ?_⟩
        · rw [hM _ (by rw [zu_ne _ _ _ (show 61 ≠ 28 + 2 * b by omega)]; exact a1.trans a3), if_neg c0, if_pos c1']
        · have hB : iBufs (zu (zu M (28 + 2 * b) 1 (nI j)) 61 b (nI j)) := by
            refine hb.setb hb4 (fun k k1 k2 k3 k4 => by rw [zu_ne _ _ _ k4, zu_ne _ _ _ k1]) (fun b' hb' => by rw [zu_eq, upd_ne _ _ hb', zu_ne _ _ _ (show 61 ≠ 28 + 2 * b by omega)]) (fun i hi => by rw [zu_ne _ _ _ (by decide), zu_ne _ _ _ (show 60 ≠ 28 + 2 * b by omega)]) ?_
            rw [zu_ne _ _ _ (show 28 + 2 * b ≠ 61 by omega), zu_ne _ _ _ (show 28 + 2 * b + 1 ≠ 61 by omega), zu_ne _ _ _ (show 28 + 2 * b + 1 ≠ 28 + 2 * b by omega), zu_eq, zu_eq, upd_eq, upd_eq, zu_ne _ _ _ (show 60 ≠ 61 by decide), zu_ne _ _ _ (show 60 ≠ 28 + 2 * b by omega)]
            exact ⟨rfl, j, by omega, rfl, fun i hi => a4 i (by omega)⟩
          rcases (show b = 0 ∨ b = 1 ∨ b = 2 ∨ b = 3 by omega) with rfl | rfl | rfl | rfl <;> exact ⟨hI.1, hI.2.1, hI.2.2.1, hI.2.2.2.1, hI.2.2.2.2.1, hB, hI.2.2.2.2.2.2⟩
      · have c1' : ¬ nI j ≤ nI c := by rw [nI_leI hj (by omega)]; exact c1
        exact ⟨0, M, M, by rw [if_neg c1'], by rw [hM M (a1.trans a3), if_neg c0, if_neg c1'], hI⟩
theorem ok_root (N : Nat) (x : Int32) : Ok2 (f_ED_root N x) (f_Mo_root N x) := by
  refine Ok2.read (fun M hI => ?_)
  obtain ⟨E, Nb, C, e1, e2, e3, e4, e5, e6, e7, e8, e9, e10⟩ := hI.2.2.2.2.2.2
  unfold f_ED_root f_Hi_isClosed f_Mo_root
  by_cases c0 : x < 0
  · exact ⟨-1, by rw [if_pos c0]; rfl, by rw [if_pos c0]⟩
  · obtain ⟨j, hj, rfl⟩ := nI_of c0
    rw [if_neg c0, if_neg c0, e2, e3]
    by_cases c1 : j < E
    · refine ⟨M 20 j, ?_, ?_⟩
      · rw [if_neg (by rw [nI_leI (by omega) hj]; omega)]
        simp only [Option.bind_some, if_neg (show ¬ (1 : Int32) = 0 by decide), if_pos (zin_t (show j < 40 by omega) (by decide)), nI_clamp hj]
      · rw [if_pos (by rw [nI_ltI hj (by omega)]; exact c1), if_pos (zin_t (show j < 40 by omega) (by decide)), nI_clamp hj, (e9 j c1).1]
    · refine ⟨-1, ?_, ?_⟩
      · rw [if_pos (by rw [nI_leI (by omega) hj]; omega)]; rfl
      · rw [if_neg (by rw [nI_ltI hj (by omega)]; exact c1)]
theorem ok_block (N : Nat) (x y : Int32) : Ok2 (f_ED_block N x y) (f_Mo_block N x y) := by
  refine Ok2.read (fun M hI => ?_)
  obtain ⟨E, Nb, C, e1, e2, e3, e4, e5, e6, e7, e8, e9, e10⟩ := hI.2.2.2.2.2.2
  unfold f_ED_block f_St_isBlock f_Mo_block
  by_cases c0 : x < 0
  · exact ⟨-2, by rw [if_pos c0]; rfl, by rw [if_pos c0]⟩
  · obtain ⟨j, hj, rfl⟩ := nI_of c0
    have hN := e8.1
    rw [if_neg c0, if_neg c0, e4, e5]
    by_cases c1 : j < Nb
    · obtain ⟨b1, b2, b3⟩ := e8.2.2.2.2.2 j c1
      rw [if_neg (show ¬ nI Nb ≤ nI j by rw [nI_leI (by omega) hj]; omega), if_pos (show nI j < nI Nb by rw [nI_ltI hj (by omega)]; exact c1)]
      simp only [Option.bind_some, if_neg (show ¬ (1 : Int32) = 0 by decide), if_pos (zin_t (show j < 300 by omega) (by decide)), nI_clamp hj, b1, b2, b3]
      by_cases y0 : y = 0
      · exact ⟨_, by rw [if_pos y0], by rw [if_pos y0]⟩
      · by_cases y1 : y = 1
        · exact ⟨_, by rw [if_neg y0, if_pos y1], by rw [if_neg y0, if_pos y1]⟩
        · by_cases y2 : y = 2
          · exact ⟨_, by rw [if_neg y0, if_neg y1, if_pos y2], by rw [if_neg y0, if_neg y1, if_pos y2]⟩
          · exact ⟨_, by rw [if_neg y0, if_neg y1, if_neg y2], by rw [if_neg y0, if_neg y1, if_neg y2]⟩
    · refine ⟨-2, ?_, ?_⟩
      · rw [if_pos (by rw [nI_leI (by omega) hj]; omega)]; rfl
      · rw [if_neg (by rw [nI_ltI hj (by omega)]; exact c1)]
/-- the reference counts the names put -/
theorem names_loop (N : Nat) (M : zMem) (hp : ∀ n, n < 64 → M 48 n = 0 ∨ M 48 n = 1) : ∀ d k n, k + d = 64 → d < n → f_Mo_names_l4 N n (nI (nz (M 48) k)) (nI k) M = some (nI (nz (M 48) 64), M) := by
  intro d
  induction d with
  | zero =>
    intro k n hk hn
    obtain ⟨n, rfl⟩ : ∃ m, n = m + 1 := ⟨n - 1, by omega⟩
    have : k = 64 := by omega
    subst this
    rw [f_Mo_names_l4, if_pos (by decide)]
  | succ d ih =>
    intro k n hk hn
    obtain ⟨n, rfl⟩ : ∃ m, n = m + 1 := ⟨n - 1, by omega⟩
    have hk2 : k < 2 ^ 31 := by omega
    rw [f_Mo_names_l4, if_neg (show ¬ (64 : Int32) ≤ nI k by rw [lN64, nI_leI (by decide) hk2]; omega), if_pos (zin_t (show k < 64 by omega) (by decide)), nI_clamp hk2]
    have := ih (k + 1) n (by omega) (by omega)
    unfold f_Mo_names_b26 zlt
    by_cases h0 : M 48 k = 0
    · rw [nz, if_pos h0] at this
      rw [if_pos h0, nI_1]
      exact this
    · rw [nz, if_neg h0] at this
      rw [if_neg h0, nI_1, nI_1]
      exact this
theorem f_names {N : Nat} (hN : 65 ≤ N) (M : zMem) (hp : ∀ n, n < 64 → M 48 n = 0 ∨ M 48 n = 1) : f_Mo_names N M = some (nI (nz (M 48) 64), M) := names_loop N M hp 64 0 N (by omega) (by omega)
