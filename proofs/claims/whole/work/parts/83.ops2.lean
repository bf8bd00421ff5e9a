/-! size, put, restart, poke -/
theorem iMap.put01 {E : Nat} {ck ok mp pt keys : Nat → Int32} {cc oc : Int32} (h : iMap E ck ok mp pt keys cc oc) : ∀ n, n < 64 → pt n = 0 ∨ pt n = 1 := by
  intro n hn
  by_cases c : ok n = 0
  · exact Or.inl ((h.1 n hn).1 c).1
  · exact Or.inr ((h.1 n hn).2 c).1
theorem iMap.nzpt {E : Nat} {ck ok mp pt keys : Nat → Int32} {cc oc : Int32} (h : iMap E ck ok mp pt keys cc oc) : nz pt 64 = nz ok 64 := by
  refine nz_congr 64 (fun i hi => ?_)
  by_cases c : ok i = 0
  · rw [((h.1 i hi).1 c).1]; exact ⟨fun _ => c, fun _ => rfl⟩
  · rw [((h.1 i hi).2 c).1]; exact ⟨fun q => absurd q (by decide), fun q => absurd q c⟩
/-- the reference's size() goes through the names once, then answers -/
theorem size_loop (N : Nat) (x : Int32) (M : zMem) (E : Nat) (hE : E ≤ 40) (he : M 45 4 = nI E) (g : Nat → Int32) (hg : ∀ n, n < 64 → g n = if E = 0 then 0 else M 46 (64 * (E - 1) + n)) : ∀ d k n, k + d = 64 → d < n → f_Mo_size_l4 N n x (nI (nz g k)) (nI k) M = f_Mo_size_l4 N 1 x (nI (nz g 64)) (nI 64) M := by
  intro d
  induction d with
  | zero =>
    intro k n hk hn
    obtain ⟨n, rfl⟩ : ∃ m, n = m + 1 := ⟨n - 1, by omega⟩
    have : k = 64 := by omega
    subst this
    rw [f_Mo_size_l4, f_Mo_size_l4, if_pos (show (64 : Int32) ≤ nI 64 by decide), if_pos (show (64 : Int32) ≤ nI 64 by decide)]
  | succ d ih =>
    intro k n hk hn
    obtain ⟨n, rfl⟩ : ∃ m, n = m + 1 := ⟨n - 1, by omega⟩
    have hk2 : k < 2 ^ 31 := by omega
    have IH := ih (k + 1) n (by omega) (by omega)
    rw [f_Mo_size_l4, if_neg (show ¬ (64 : Int32) ≤ nI k by rw [lN64, nI_leI (by decide) hk2]; omega), he]
    have hgk := hg k (by omega)
    unfold f_Mo_size_b42 f_Mo_size_b43 zlt
    by_cases hE0 : E = 0
    · rw [if_pos hE0] at hgk
      rw [nz, if_pos hgk] at IH
      rw [if_pos (show nI E ≤ 0 by rw [hE0]; decide), nI_1]
      exact IH
    · rw [if_neg hE0] at hgk
      have e : (64 : Int32) * (nI E - 1) + nI k = nI (64 * (E - 1) + k) := by rw [lN64, lN1, nI_subN (by omega), nI_mulN, nI_add]
      rw [if_neg (nI_nle (by omega) (by omega)), e, if_pos (zin_t (by omega) (by decide)), nI_clamp (by omega), ← hgk]
      by_cases h0 : g k = 0
      · rw [nz, if_pos h0] at IH
        rw [if_pos h0, nI_1]
        exact IH
      · rw [nz, if_neg h0] at IH
        rw [if_neg h0, nI_1, nI_1]
        exact IH
theorem ok_size {N : Nat} (hN : 65 ≤ N) (x : Int32) : Ok2 (f_ED_size N x) (f_Mo_size N x) := by
  refine Ok2.read (fun M hI => ?_)
  obtain ⟨E, Nb, C, e1, e2, e3, e4, e5, e6, e7, e8, e9, e10⟩ := hI.2.2.2.2.2.2
  have hs := size_loop N x M E e1 e3 (M 3) e7.2.1 64 0 N (by omega) (by omega)
  have hfl := hI.2.1
  unfold f_ED_size f_Mo_size
  rw [show f_Mo_size_l4 N N x 0 0 M = f_Mo_size_l4 N 1 x (nI (nz (M 3) 64)) (nI 64) M from hs, f_Mo_size_l4, if_pos (show (64 : Int32) ≤ nI 64 by decide)]
  by_cases y0 : x = 0
  · exact ⟨_, by rw [if_pos y0], by rw [if_pos y0, e2, e3]⟩
  by_cases y1 : x = 1
  · exact ⟨_, by rw [if_neg y0, if_pos y1], by rw [if_neg y0, if_pos y1, e4, e5]⟩
  by_cases y2 : x = 2
  · refine ⟨_, by rw [if_neg y0, if_neg y1, if_pos y2], ?_⟩
    rw [if_neg y0, if_neg y1, if_pos y2, f_names hN M e7.put01, e7.nzpt, e7.2.2.2]; rfl
  by_cases y3 : x = 3
  · exact ⟨_, by rw [if_neg y0, if_neg y1, if_neg y2, if_pos y3], by rw [if_neg y0, if_neg y1, if_neg y2, if_pos y3, e7.2.2.1]⟩
  by_cases y4 : x = 4
  · exact ⟨_, by rw [if_neg y0, if_neg y1, if_neg y2, if_neg y3, if_pos y4], by rw [if_neg y0, if_neg y1, if_neg y2, if_neg y3, if_pos y4, hI.2.2.1.1]⟩
  by_cases y5 : x = 5
  · exact ⟨_, by rw [if_neg y0, if_neg y1, if_neg y2, if_neg y3, if_neg y4, if_pos y5], by rw [if_neg y0, if_neg y1, if_neg y2, if_neg y3, if_neg y4, if_pos y5, hI.2.2.1.2]⟩
  by_cases y6 : x = 6
  · rw [if_neg y0, if_neg y1, if_neg y2, if_neg y3, if_neg y4, if_neg y5, if_pos y6, if_neg y0, if_neg y1, if_neg y2, if_neg y3, if_neg y4, if_neg y5, if_pos y6, hfl.1]
    by_cases c : M 0 11 = 0
    · exact ⟨_, by rw [if_pos c], by rw [if_pos c]⟩
    · exact ⟨_, by rw [if_neg c], by rw [if_neg c]⟩
  · exact ⟨_, by rw [if_neg y0, if_neg y1, if_neg y2, if_neg y3, if_neg y4, if_neg y5, if_neg y6], by rw [if_neg y0, if_neg y1, if_neg y2, if_neg y3, if_neg y4, if_neg y5, if_neg y6]⟩
/-- a name, or none -/
theorem name_cases (x : Int32) : (x < 0 ∨ (64 : Int32) ≤ x) ∨ ∃ n, n < 64 ∧ x = nI n := by
  by_cases c : x < 0
  · exact Or.inl (Or.inl c)
  · obtain ⟨j, hj, rfl⟩ := nI_of c
    by_cases c4 : j < 64
    · exact Or.inr ⟨j, c4, rfl⟩
    · exact Or.inl (Or.inr (show (64 : Int32) ≤ nI j by rw [lN64, nI_leI (by decide) hj]; omega))
theorem f_isName_no {N : Nat} {x : Int32} {M : zMem} (h : x < 0 ∨ (64 : Int32) ≤ x) : f_ED_isName N x M = some (0, M) ∧ f_Mo_isName N x M = some (0, M) := by
  unfold f_ED_isName f_Mo_isName
  by_cases c : x < 0
  · rw [if_pos c]; exact ⟨rfl, rfl⟩
  · rw [if_neg c, if_pos (h.resolve_left c)]; exact ⟨rfl, rfl⟩
theorem f_isName_at {N n : Nat} {M : zMem} (h : n < 64) : f_ED_isName N (nI n) M = some (1, M) ∧ f_Mo_isName N (nI n) M = some (1, M) := by
  unfold f_ED_isName f_Mo_isName
  rw [if_neg (nI_pos (by omega)), if_neg (show ¬ (64 : Int32) ≤ nI n by rw [lN64, nI_leI (by decide) (by omega)]; omega)]
  exact ⟨rfl, rfl⟩
/-- a key, or none -/
def isK (x : Int32) : Bool := !decide (x < 1) && !decide ((1000000 : Int32) < x)
theorem f_isKey (N : Nat) (x : Int32) (M : zMem) : f_ED_isKey N x M = some (if isK x = true then 1 else 0, M) ∧ f_Mo_isKey N x M = some (if isK x = true then 1 else 0, M) := by
  unfold f_ED_isKey f_Mo_isKey isK
  by_cases c : x < 1
  · simp [c]
  · by_cases c2 : (1000000 : Int32) < x
    · simp [c, c2]
    · simp [c, c2]
theorem isK_ne {x : Int32} (h : isK x = true) : x ≠ 0 := by
  rintro rfl
  exact absurd h (by decide)
theorem ok_put {N : Nat} (hN : 65 ≤ N) (x y : Int32) : Ok2 (f_ED_put N x y) (f_Mo_put N x y) := by
  intro M hI
  obtain ⟨E, Nb, C, e1, e2, e3, e4, e5, e6, e7, e8, e9, e10⟩ := hI.2.2.2.2.2.2
  have hfl := hI.2.1
  unfold f_ED_put f_Mo_put
  by_cases c0 : M 0 11 = 0
  · rcases name_cases x with hx | ⟨n, hn, rfl⟩
    · refine ⟨-1, M, M, by rw [if_pos c0, (f_isName_no hx).1]; rfl, by rw [hfl.1, if_pos c0, (f_isName_no hx).2]; rfl, hI⟩
    · by_cases hk : isK y = true
      · have zn : zin (nI n) 64 = true := zin_t hn (by decide)
        have hy := isK_ne hk
        have hp := e7.put01
        -- the class
        let M1 : zMem := if M 4 n = 0 then zu (zu M 2 3 (M 2 3 + 1)) 4 n y else zu M 4 n y
        have hg : f_NM_give N (nI n) y M = some (0, M1) := by
          have hn2 : n < 2 ^ 31 := by omega
          by_cases h0 : M 4 n = 0
          · simp only [f_NM_give, zlt, if_pos zn, nI_clamp hn2, if_pos h0, M1]
          · simp only [f_NM_give, zlt, if_pos zn, nI_clamp hn2, if_neg h0, M1]
        have m4 : M1 4 = upd (M 4) n y := by
          by_cases h0 : M 4 n = 0
          · simp only [M1, if_pos h0]; rfl
          · simp only [M1, if_neg h0]; rfl
        have m23 : M1 2 3 = nI (nz (upd (M 4) n y) 64) := by
          rw [nz_upd hy 64 hn]
          by_cases h0 : M 4 n = 0
          · simp only [M1, if_pos h0]
            show M 2 3 + 1 = _
            rw [e7.2.2.2, nI_1]
          · simp only [M1, if_neg h0, Nat.add_zero]
            exact e7.2.2.2
        have mo : ∀ k, k ≠ 2 → k ≠ 4 → M1 k = M k := by
          intro k k2 k4
          by_cases h0 : M 4 n = 0
          · simp only [M1, if_pos h0]; rw [zu_ne _ _ _ k4, zu_ne _ _ _ k2]
          · simp only [M1, if_neg h0]; rw [zu_ne _ _ _ k4]
        have m22 : M1 2 2 = M 2 2 := by
          by_cases h0 : M 4 n = 0
          · simp only [M1, if_pos h0]; rfl
          · simp only [M1, if_neg h0]; rfl
        clear_value M1
        -- the reference
        let M2 : zMem := zu (zu M1 47 n y) 48 n 1
        have hp2 : ∀ i, i < 64 → M2 48 i = 0 ∨ M2 48 i = 1 := by
          intro i hi
          show upd (zu M1 47 n y 48) n 1 i = 0 ∨ upd (zu M1 47 n y 48) n 1 i = 1
          by_cases hin : i = n
          · subst hin; right; exact upd_eq _ _ _
          · rw [upd_ne _ _ hin]
            show M1 48 i = 0 ∨ M1 48 i = 1
            rw [mo 48 (by decide) (by decide)]
            exact hp i hi
        have hmap : iMap E (M2 3) (M2 4) (M2 47) (M2 48) (M2 46) (M2 2 2) (M2 2 3) := by
          show iMap E (M1 3) (M1 4) (upd (M1 47) n y) (upd (M1 48) n 1) (M1 46) (M1 2 2) (M1 2 3)
          rw [mo 3 (by decide) (by decide), mo 47 (by decide) (by decide), mo 48 (by decide) (by decide), mo 46 (by decide) (by decide), m4, m22, m23]
          refine ⟨fun i hi => ?_, e7.2.1, e7.2.2.1, rfl⟩
          by_cases hin : i = n
          · subst hin
            rw [upd_eq, upd_eq, upd_eq]
            exact ⟨fun q => absurd q hy, fun _ => ⟨rfl, rfl⟩⟩
          · rw [upd_ne _ _ hin, upd_ne _ _ hin, upd_ne _ _ hin]
            exact e7.1 i hi
        refine ⟨nI (nz (M2 48) 64), M1, M2, ?_, ?_, ?_⟩
        · rw [if_pos c0, (f_isName_at hn).1]
          simp only [Option.bind_some, if_neg (show ¬ (1 : Int32) = 0 by decide), (f_isKey N y M).1, if_pos hk, hg, hmap.nzpt]
          rw [m23, show M2 4 = M1 4 from rfl, m4]
        · rw [mo 45 (by decide) (by decide), hfl.1, if_pos c0, (f_isName_at hn).2]
          simp only [Option.bind_some, if_neg (show ¬ (1 : Int32) = 0 by decide), (f_isKey N y M1).2, if_pos hk, if_pos zn, zlt, nI_clamp (show n < 2 ^ 31 by omega)]
          rw [show f_Mo_names N (zu (zu M1 47 n y) 48 n 1) = some (nI (nz (M2 48) 64), M2) from f_names hN M2 hp2]
          rfl
        · have r0 := mo 0 (by decide) (by decide)
          have r1 := mo 1 (by decide) (by decide)
          have r45 := mo 45 (by decide) (by decide)
          refine ⟨?_, ?_, ?_, ?_, ?_, ?_, E, Nb, C, e1, ?_, ?_, ?_, ?_, ?_, hmap, ?_, ?_, ?_⟩
          · show M1 1 0 = 32 - M1 45 0
            rw [r1, r45]; exact hI.1
          · show iFlag (M1 0 11) (M1 0 12) (M1 45 18) (M1 45 17)
            rw [r0, r45]; exact hfl
          · show M1 45 21 = M1 0 13 ∧ M1 45 22 = M1 0 14
            rw [r0, r45]; exact hI.2.2.1
          · show iAud (M1 0 15) (M1 0 16) (M1 0 17) (M1 45 31) (M1 45 32)
            rw [r0, r45]; exact hI.2.2.2.1
          · show ∀ i, i < 6 → M1 70 i = M1 44 i
            rw [mo 70 (by decide) (by decide), mo 44 (by decide) (by decide)]; exact hI.2.2.2.2.1
          · show iBuf (M1 28 1) (M1 29) (M1 61 0) (M1 60) 0 ∧ iBuf (M1 30 1) (M1 31) (M1 61 1) (M1 60) 30 ∧ iBuf (M1 32 1) (M1 33) (M1 61 2) (M1 60) 60 ∧ iBuf (M1 34 1) (M1 35) (M1 61 3) (M1 60) 90
            rw [mo 28 (by decide) (by decide), mo 29 (by decide) (by decide), mo 30 (by decide) (by decide), mo 31 (by decide) (by decide), mo 32 (by decide) (by decide), mo 33 (by decide) (by decide), mo 34 (by decide) (by decide), mo 35 (by decide) (by decide), mo 60 (by decide) (by decide), mo 61 (by decide) (by decide)]
            exact hI.2.2.2.2.2.1
          · show M1 18 6 = nI E
            rw [mo 18 (by decide) (by decide)]; exact e2
          · show M1 45 4 = nI E
            rw [r45]; exact e3
          · show M1 5 7 = nI Nb
            rw [mo 5 (by decide) (by decide)]; exact e4
          · show M1 45 9 = nI Nb
            rw [r45]; exact e5
          · show M1 5 8 = nI C
            rw [mo 5 (by decide) (by decide)]; exact e6
          · show iBlk Nb C (M1 6) (M1 7) (M1 8) (M1 53) (M1 54) (M1 55) (M1 0 11)
            rw [r0, mo 6 (by decide) (by decide), mo 7 (by decide) (by decide), mo 8 (by decide) (by decide), mo 53 (by decide) (by decide), mo 54 (by decide) (by decide), mo 55 (by decide) (by decide)]; exact e8
          · show iHist (M1 1 0) E (M1 20) (M1 21) (M1 22) (M1 49)
            rw [r1, mo 20 (by decide) (by decide), mo 21 (by decide) (by decide), mo 22 (by decide) (by decide), mo 49 (by decide) (by decide)]; exact e9
          · show iTree (M1 1 0) E C (M1 6) (M1 7) (M1 8) (M1 9) (M1 46) (M1 19) (M1 20) (M1 11) (M1 57) (M1 56) (M1 3)
            rw [r1, mo 6 (by decide) (by decide), mo 7 (by decide) (by decide), mo 8 (by decide) (by decide), mo 9 (by decide) (by decide), mo 46 (by decide) (by decide), mo 19 (by decide) (by decide), mo 20 (by decide) (by decide), mo 11 (by decide) (by decide), mo 57 (by decide) (by decide), mo 56 (by decide) (by decide), mo 3 (by decide) (by decide)]; exact e10
      · refine ⟨-1, M, M, ?_, ?_, hI⟩
        · rw [if_pos c0, (f_isName_at hn).1]
          simp only [Option.bind_some, if_neg (show ¬ (1 : Int32) = 0 by decide), (f_isKey N y M).1, if_neg hk, if_true]
        · rw [hfl.1, if_pos c0, (f_isName_at hn).2]
          simp only [Option.bind_some, if_neg (show ¬ (1 : Int32) = 0 by decide), (f_isKey N y M).2, if_neg hk, if_true]
  · exact ⟨-9, M, M, by rw [if_neg c0], by rw [hfl.1, if_neg c0], hI⟩
