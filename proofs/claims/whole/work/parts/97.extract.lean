/-! check() and extract() whole -/
theorem fmOk_congr {c n : Nat} {w w' : Nat → Int32} (h : ∀ i, i < c → w i = w' i) (hf : fmOk c w n) : fmOk c w' n := by
  obtain ⟨h1, h2, h3, h4⟩ := hf
  unfold fmOk
  rw [← h 0 (by omega), ← h 1 (by omega), ← h 2 (by omega)]
  exact ⟨h1, h2, h3, h4⟩
theorem du_congr {s : Int32} {n d : Nat} {w w' : Nat → Int32} (h : ∀ i, i < d + 3 → w i = w' i) : ∀ k, k ≤ d → du s n w d k = du s n w' d k
  | 0, _ => by
    rw [du, du, lfd, lfd, h 1 (by omega), h 2 (by omega)]
  | k + 1, hk => by
    rw [du, du, du_congr h k (by omega), h (3 + (d - 1 - k)) (by omega)]
theorem xy_congr {s : Int32} {n d i : Nat} {w w' : Nat → Int32} (h : ∀ i, i < d + 3 → w i = w' i) (hi : i < d) : xq s n w d i = xq s n w' d i ∧ yq s n w d i = yq s n w' d i := by
  unfold xq yq
  rw [du_congr h (d - 1 - i) (by omega), h (3 + i) (by omega)]
  exact ⟨rfl, rfl⟩
/-- places of which the invariant says nothing, and those of the taken inputs -/
def FP : Nat → Prop := fun k => k = 10 ∨ (12 ≤ k ∧ k ≤ 17) ∨ (23 ≤ k ∧ k ≤ 26) ∨ (36 ≤ k ∧ k ≤ 44) ∨ (50 ≤ k ∧ k ≤ 52) ∨ (58 ≤ k ∧ k ≤ 59) ∨ (62 ≤ k ∧ k ≤ 70)
theorem Inv_free {M X : zMem} (h : Inv M) (hA : Ag FP M X) (h6 : ∀ i, i < 6 → X 70 i = X 44 i) : Inv X := by
  have g : ∀ k, ¬ FP k → X k = M k := hA
  unfold Inv iBufs
  rw [g 0 (by unfold FP; omega), g 1 (by unfold FP; omega), g 2 (by unfold FP; omega), g 3 (by unfold FP; omega), g 4 (by unfold FP; omega), g 5 (by unfold FP; omega), g 6 (by unfold FP; omega), g 7 (by unfold FP; omega), g 8 (by unfold FP; omega), g 9 (by unfold FP; omega), g 11 (by unfold FP; omega), g 18 (by unfold FP; omega), g 19 (by unfold FP; omega), g 20 (by unfold FP; omega), g 21 (by unfold FP; omega), g 22 (by unfold FP; omega), g 28 (by unfold FP; omega), g 29 (by unfold FP; omega), g 30 (by unfold FP; omega), g 31 (by unfold FP; omega), g 32 (by unfold FP; omega), g 33 (by unfold FP; omega), g 34 (by unfold FP; omega), g 35 (by unfold FP; omega), g 45 (by unfold FP; omega), g 46 (by unfold FP; omega), g 47 (by unfold FP; omega), g 48 (by unfold FP; omega), g 49 (by unfold FP; omega), g 53 (by unfold FP; omega), g 54 (by unfold FP; omega), g 55 (by unfold FP; omega), g 56 (by unfold FP; omega), g 57 (by unfold FP; omega), g 60 (by unfold FP; omega), g 61 (by unfold FP; omega)]
  obtain ⟨h1, h2, h3, h4, h5, h6', h7⟩ := h
  exact ⟨h1, h2, h3, h4, h6, h6', h7⟩
theorem acc_no {N : Nat} {x y : Int32} (h : (x < 0 ∨ (4 : Int32) ≤ x) ∨ (y < 0 ∨ (64 : Int32) ≤ y)) (z a : Int32) (M : zMem) : f_Mo_accepted N x y z a M = some (0, M) := by
  rw [f_Mo_accepted]
  have : f_Mo_formed N x y M = some (0, M) := by
    rw [f_Mo_formed]
    by_cases c0 : x < 0
    · rw [if_pos c0]
    · rw [if_neg c0]
      by_cases c1 : (3 : Int32) < x
      · rw [if_pos c1]
      · rw [if_neg c1]
        rcases h with h | h
        · exact absurd (no3 h c0) c1
        · rw [(f_isName_no h).2, Option.bind_some, if_pos rfl]
  rw [this, Option.bind_some, if_pos rfl]
theorem f_says {N b : Nat} (hb : b < 4) (n : Int32) (M : zMem) : f_Mo_says N (nI b) n M = some (if M 60 (30 * b + 1) = n then M 60 (30 * b + 2) else 0, M) := by
  have e0 : (30 : Int32) * nI b = nI (30 * b) := by rw [lN30, nI_mulN]
  have e1 : nI (30 * b) + (1 : Int32) = nI (30 * b + 1) := nI_1 _
  have e2 : nI (30 * b) + (2 : Int32) = nI (30 * b + 2) := by rw [lN2, nI_add]
  rw [f_Mo_says, e0, e1, e2, if_pos (zin_t (show 30 * b + 1 < 120 by omega) (by decide)), if_pos (zin_t (show 30 * b + 2 < 120 by omega) (by decide)), nI_clamp (show 30 * b + 1 < 2 ^ 31 by omega), nI_clamp (show 30 * b + 2 < 2 ^ 31 by omega)]
  by_cases c : M 60 (30 * b + 1) = n
  · rw [if_pos c, if_pos c]
  · rw [if_neg c, if_neg c]
theorem ok_check {N : Nat} (hN : 8 ≤ N) (x y z : Int32) : Ok2 (f_ED_check N x y z) (f_Mo_check N x y z) := by
  intro M hI
  rcases buf_cases x with hx | ⟨b, hb, rfl⟩
  · refine ⟨-1, M, M, ?_, ?_, hI⟩
    · rw [f_ED_check, f_bufferAt_no hx]; rfl
    · rw [f_Mo_check, acc_no (Or.inl hx), Option.bind_some, if_pos rfl]
  · rcases name_cases y with hy | ⟨n, hn, rfl⟩
    · refine ⟨-1, M, M, ?_, ?_, hI⟩
      · rw [f_ED_check, f_bufferAt_at hb, Option.bind_some, zcs, if_pos (zis_Bu_of hb), (f_isName_no hy).1, Option.bind_some, if_pos rfl]
      · rw [f_Mo_check, acc_no (Or.inr hy), Option.bind_some, if_pos rfl]
    · obtain ⟨a1, c, hc, a2, a3⟩ := hI.2.2.2.2.2.1.get hb
      have hC := acc_C (t := 36) hN (by decide) hb hn hc z a2
      have h61 : M 61 b = nI c := by rw [a1]; exact a2
      have hf : f_ED_check N (nI b) (nI n) z M = (f_LC_accepts N 36 (28 + 2 * b) (nI n) z M).bind fun q27 => (if q27.1 = 0 then some ((-1 : Int32), q27.2) else some ((q27.2 36 3), q27.2)) := by
        rw [f_ED_check, f_bufferAt_at hb, Option.bind_some, zcs, if_pos (zis_Bu_of hb), (f_isName_at hn).1, Option.bind_some, if_neg (show ¬ (1 : Int32) = 0 by decide)]
      by_cases ff : fmOk c (M (28 + 2 * b + 1)) n
      · obtain ⟨M1, g1, g2, g3, g4, -, -⟩ := hC.2 ff
        have hi : ∀ k, 45 ≤ k → M1 k = M k := fun k hk => g2 k (by omega)
        have ff' : fmOk c (fun i => M1 60 (30 * b + i)) n := fmOk_congr (fun i hi' => by rw [hi 60 (by decide)]; exact a3 i hi') ff
        have hs : 32 - M1 45 0 = M 1 0 := by rw [hi 45 (by decide)]; exact hI.1.symm
        obtain ⟨M2, k1, k2, -, -, -⟩ := (acc_M (N := N) (a := 0) hN (by decide) hb hn hc z (show M1 61 b = nI c by rw [hi 61 (by decide)]; exact h61) (fun _ => rfl)).2 ff'
        have ed : du (32 - M1 45 0) n (fun i => M1 60 (30 * b + i)) (c - 3) (c - 3) = du (M 1 0) n (M (28 + 2 * b + 1)) (c - 3) (c - 3) := by
          rw [hs]
          exact (du_congr (fun i hi' => by rw [hi 60 (by decide)]; exact a3 i (by have := ff.1; omega)) _ (Nat.le_refl _)).symm
        rw [ed] at k1
        have iM2 : Inv M2 := Inv_free hI (fun k hk => by
          rw [k2 k (fun e => hk (by unfold FP; omega)), g2 k (fun e => hk (by unfold FP; omega))]) (fun i hi' => by
            rw [k2 70 (by omega), g2 70 (by omega), k2 44 (by omega), g2 44 (by omega)]; exact hI.2.2.2.2.1 i hi')
        by_cases cc : du (M 1 0) n (M (28 + 2 * b + 1)) (c - 3) (c - 3) = z
        · rw [if_pos cc] at g1 k1
          refine ⟨M1 36 3, M1, M2, ?_, ?_, iM2⟩
          · rw [hf, g1, Option.bind_some, if_neg (show ¬ (1 : Int32) = 0 by decide)]
          · rw [f_Mo_check, show (0 : Int32) = nI 0 from rfl, k1, Option.bind_some, if_neg (show ¬ (1 : Int32) = nI 0 by decide)]
            dsimp only
            rw [f_says hb, Option.bind_some, k2 60 (by omega), hi 60 (by decide), g4, a3 1 (by have := ff.1; omega), a3 2 (by have := ff.1; omega)]
        · rw [if_neg cc] at g1 k1
          refine ⟨-1, M1, M2, ?_, ?_, iM2⟩
          · rw [hf, g1, Option.bind_some, if_pos rfl]
          · rw [f_Mo_check, show (0 : Int32) = nI 0 from rfl, k1, Option.bind_some, if_pos (show (0 : Int32) = nI 0 from rfl)]
      · have ff' : ¬ fmOk c (fun i => M 60 (30 * b + i)) n := fun q => ff (fmOk_congr (fun i hi' => (a3 i hi').symm) q)
        refine ⟨-1, M, M, ?_, ?_, hI⟩
        · rw [hf, hC.1 ff, Option.bind_some, if_pos rfl]
        · rw [f_Mo_check, show (0 : Int32) = nI 0 from rfl, (acc_M (N := N) (a := 0) hN (by decide) hb hn hc z h61 (fun _ => rfl)).1 ff', Option.bind_some, if_pos (show (0 : Int32) = nI 0 from rfl)]
