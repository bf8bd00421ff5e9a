/-! restart, poke -/
theorem restart_loop (N : Nat) (M : zMem) (Nb C : Nat) (hN : Nb ≤ 300) (hC : C = 0 ∨ M 53 (C - 1) = 3) (hk : ∀ i, C ≤ i → i < Nb → M 53 i ≠ 3) : ∀ d n, C + d ≤ Nb → d < n → f_Mo_restart_l19 N n (nI (C + d)) M = f_Mo_restart_b41 N (nI C) M := by
  intro d
  induction d with
  | zero =>
    intro n h1 hn
    obtain ⟨n, rfl⟩ : ∃ m, n = m + 1 := ⟨n - 1, by omega⟩
    rw [f_Mo_restart_l19, Nat.add_zero]
    by_cases c0 : C = 0
    · subst c0
      rw [if_pos (by decide)]
    · rw [if_neg (nI_nle (by omega) (by omega)), lN1, nI_subN (by omega), if_pos (zin_t (by omega) (by decide)), nI_clamp (by omega), if_pos (hC.resolve_left c0)]
  | succ d ih =>
    intro n h1 hn
    obtain ⟨n, rfl⟩ : ∃ m, n = m + 1 := ⟨n - 1, by omega⟩
    have hp1 : nI (C + (d + 1)) - 1 = nI (C + d) := nI_pred (C + d)
    have hp2 : nI (C + (d + 1)) + (-1 : Int32) = nI (C + d) := by rw [← Int32.sub_eq_add_neg]; exact hp1
    rw [f_Mo_restart_l19, if_neg (nI_nle (by omega) (by omega)), hp1, if_pos (zin_t (by omega) (by decide)), nI_clamp (by omega), if_neg (hk (C + d) (by omega) (by omega))]
    simp only [zlt]
    rw [hp2]
    exact ih n (by omega) (by omega)
theorem ok_restart {N : Nat} (hN : 301 ≤ N) : Ok2 (f_ED_restart N) (f_Mo_restart N) := by
  intro M hI
  obtain ⟨E, Nb, C, e1, e2, e3, e4, e5, e6, e7, e8, e9, e10⟩ := hI.2.2.2.2.2.2
  have hfl := hI.2.1
  obtain ⟨b1, b2, b3, b4, b5, b6⟩ := e8
  unfold f_ED_restart f_St_cutOff f_Mo_restart zlt
  by_cases c0 : M 0 11 = 0
  · exact ⟨-1, M, M, by rw [if_pos c0], by rw [hfl.1, if_pos c0], hI⟩
  · have hst : M 0 11 = 1 := hfl.2.2.1.resolve_left c0
    refine ⟨nI (Nb - C), zu (zu M 0 11 0) 5 7 (nI C), zu (zu (zu (zu M 0 11 0) 5 7 (nI C)) 45 18 0) 45 9 (nI C), ?_, ?_, ?_⟩
    · rw [if_neg c0]
      show some (M 5 7 - M 5 8, zu (zu M 0 11 0) 5 7 (M 5 8)) = _
      rw [e4, e6, nI_subN b2]
    · show (if M 45 18 = 0 then _ else f_Mo_restart_l19 N N (M 45 9) (zu (zu (zu M 0 11 0) 5 7 (nI C)) 45 18 0)) = _
      rw [hfl.1, if_neg c0, e5]
      have hl := restart_loop N (zu (zu (zu M 0 11 0) 5 7 (nI C)) 45 18 0) Nb C b1 (by
          show C = 0 ∨ M 53 (C - 1) = 3
          by_cases c : C = 0
          · exact Or.inl c
          · right; rw [(b6 (C - 1) (by omega)).1]; exact b4.resolve_left c) (by
          intro i h1 h2
          show M 53 i ≠ 3
          rw [(b6 i h2).1]; exact b5 i h1 h2) (Nb - C) N (by omega) (by omega)
      rw [show C + (Nb - C) = Nb by omega] at hl
      rw [hl]
      show some (M 45 9 - nI C, _) = _
      rw [e5, nI_subN b2]
    · exact ⟨hI.1, ⟨rfl, hfl.2.1, Or.inl rfl, hfl.2.2.2⟩, hI.2.2.1, hI.2.2.2.1, hI.2.2.2.2.1, hI.2.2.2.2.2.1, E, C, C, e1, e2, e3, rfl, rfl, e6, e7, ⟨by omega, Nat.le_refl _, fun _ => rfl, b4, fun i h1 h2 => by omega, fun i hi => b6 i (by omega)⟩, e9, e10⟩
theorem ok_poke (N : Nat) (x y w : Int32) : Ok2 (f_ED_poke N x y w) (f_Mo_poke N x y w) := by
  intro M hI
  have hb := hI.2.2.2.2.2.1
  rcases buf_cases x with hx | ⟨b, hb4, rfl⟩
  · refine ⟨0, M, M, by rw [f_ED_poke, f_bufferAt_no hx]; rfl, ?_, hI⟩
    rw [f_Mo_poke]
    by_cases c : x < 0
    · rw [if_pos c]
    · rw [if_neg c, if_pos (no3 hx c)]
  · obtain ⟨a1, c, a2, a3, a4⟩ := hb.get hb4
    have n0 : ¬ nI b < 0 := nI_pos (by omega)
    have n3 : ¬ (3 : Int32) < nI b := show ¬ (3 : Int32) < nI b by rw [lN3, nI_ltI (by decide) (by omega)]; omega
    have z4 : zin (nI b) 4 = true := zin_t hb4 (by decide)
    by_cases c0 : y < 0
    · refine ⟨0, M, M, ?_, ?_, hI⟩
      · rw [f_ED_poke, f_bufferAt_at hb4]
        simp only [Option.bind_some, zcs, zis_Bu_of hb4, if_true, f_Bu_replaceOrAppend, if_pos c0]
      · rw [f_Mo_poke, if_neg n0, if_neg n3, if_pos c0]
    · obtain ⟨j, hj, rfl⟩ := nI_of c0
      by_cases c1 : c < j
      · have c1' : nI c < nI j := by rw [nI_ltI (by omega) hj]; exact c1
        refine ⟨0, M, M, ?_, ?_, hI⟩
        · rw [f_ED_poke, f_bufferAt_at hb4]
          simp only [Option.bind_some, zcs, zis_Bu_of hb4, if_true, f_Bu_replaceOrAppend, if_neg c0, a3, if_pos c1']
        · rw [f_Mo_poke, if_neg n0, if_neg n3, if_neg c0, if_pos z4, nI_clamp (show b < 2 ^ 31 by omega), a1, a3, if_pos c1']
      · have c1' : ¬ nI c < nI j := by rw [nI_ltI (by omega) hj]; exact c1
        by_cases c2 : j < 30
        · have l30 : nI j < (30 : Int32) := show nI j < (30 : Int32) by rw [lN30, nI_ltI hj (by decide)]; exact c2
          have l29 : nI j ≤ (29 : Int32) := show nI j ≤ (29 : Int32) by rw [lN29, nI_leI hj (by decide)]; omega
          have e : (30 : Int32) * nI b + nI j = nI (30 * b + j) := by rw [lN30, nI_mulN, nI_add]
          have q1 : zu M (28 + 2 * b + 1) j w (28 + 2 * b) 1 = nI c := by rw [zu_ne _ _ _ (by omega)]; exact a3
          -- the new length
          obtain ⟨c', hc'⟩ : ∃ c', c' = if j = c then j + 1 else c := ⟨_, rfl⟩
          have hc30 : c' ≤ 30 := by rw [hc']; split <;> omega
          have hmax : (if nI c < nI (j + 1) then nI (j + 1) else nI c) = nI c' := by
            rw [hc']
            by_cases hjc : j = c
            · rw [if_pos (by rw [nI_ltI (by omega) (by omega)]; omega), if_pos hjc]
            · rw [if_neg (by rw [nI_ltI (by omega) (by omega)]; omega), if_neg hjc]
          obtain ⟨M1, hM1⟩ : ∃ M1, M1 = zu (zu M (28 + 2 * b + 1) j w) (28 + 2 * b) 1 (nI c') := ⟨_, rfl⟩
          have q2 : M1 61 b = nI c := by rw [hM1, zu_ne _ _ _ (by omega), zu_ne _ _ _ (by omega), a1]; exact a3
          refine ⟨1, M1, zu (zu M1 60 (30 * b + j) w) 61 b (nI c'), ?_, ?_, ?_⟩
          · rw [f_ED_poke, f_bufferAt_at hb4]
            simp only [Option.bind_some, zcs, zis_Bu_of hb4, if_true, f_Bu_replaceOrAppend, if_neg c0, a3, if_neg c1', if_pos l30, if_pos (zin_t c2 (show 30 < 2 ^ 31 by decide)), nI_clamp hj, zlt, q1, nI_1, hmax, if_neg (show ¬ (1 : Int32) = 0 by decide), hM1]
          · have q3 : zu M1 60 (30 * b + j) w 61 b = nI c := by rw [zu_ne _ _ _ (by decide)]; exact q2
            rw [f_Mo_poke]
            simp only [if_neg n0, if_neg n3, if_neg c0, if_pos z4, nI_clamp (show b < 2 ^ 31 by omega), q2, if_neg c1', if_pos l29, e, if_pos (zin_t (show 30 * b + j < 120 by omega) (show 120 < 2 ^ 31 by decide)), nI_clamp (show 30 * b + j < 2 ^ 31 by omega), zlt, q3, nI_1]
            by_cases hjc : j = c
            · rw [if_pos (by rw [hjc]), hc', if_pos hjc]
            · rw [if_neg (by rw [nI_eq hj (by omega)]; exact hjc), hc', if_neg hjc]
          · have hB : iBufs (zu (zu M1 60 (30 * b + j) w) 61 b (nI c')) := by
              refine hb.setb hb4 (fun k k1 k2 k3 k4 => ?_) (fun b' hb' => ?_) (fun i hi => ?_) ?_
              · rw [zu_ne _ _ _ k4, zu_ne _ _ _ k3, hM1, zu_ne _ _ _ k1, zu_ne _ _ _ k2]
              · rw [zu_eq, upd_ne _ _ hb', zu_ne _ _ _ (by decide), hM1, zu_ne _ _ _ (by omega), zu_ne _ _ _ (by omega)]
              · rw [zu_ne _ _ _ (by decide), zu_eq, upd_ne _ _ (by omega), hM1, zu_ne _ _ _ (by omega), zu_ne _ _ _ (by omega)]
              · rw [zu_ne _ _ _ (show 28 + 2 * b ≠ 61 by omega), zu_ne _ _ _ (show 28 + 2 * b ≠ 60 by omega), zu_ne _ _ _ (show 28 + 2 * b + 1 ≠ 61 by omega), zu_ne _ _ _ (show 28 + 2 * b + 1 ≠ 60 by omega), zu_eq _ 61, upd_eq, zu_ne _ _ _ (show 60 ≠ 61 by decide), zu_eq _ 60, hM1, zu_eq, upd_eq, zu_ne _ _ _ (show 28 + 2 * b + 1 ≠ 28 + 2 * b by omega), zu_eq, zu_ne _ _ _ (show 60 ≠ 28 + 2 * b by omega), zu_ne _ _ _ (show 60 ≠ 28 + 2 * b + 1 by omega)]
                refine ⟨rfl, c', hc30, rfl, fun i hi => ?_⟩
                by_cases hij : i = j
                · subst hij; rw [upd_eq, upd_eq]
                · rw [upd_ne _ _ hij, upd_ne _ _ (by omega)]
                  refine a4 i ?_
                  rw [hc'] at hi
                  split at hi <;> omega
            subst hM1
            rcases (show b = 0 ∨ b = 1 ∨ b = 2 ∨ b = 3 by omega) with rfl | rfl | rfl | rfl <;> exact ⟨hI.1, hI.2.1, hI.2.2.1, hI.2.2.2.1, hI.2.2.2.2.1, hB, hI.2.2.2.2.2.2⟩
        · have l30 : ¬ nI j < (30 : Int32) := show ¬ nI j < (30 : Int32) by rw [lN30, nI_ltI hj (by decide)]; exact c2
          have l29 : ¬ nI j ≤ (29 : Int32) := show ¬ nI j ≤ (29 : Int32) by rw [lN29, nI_leI hj (by decide)]; omega
          refine ⟨0, M, M, ?_, ?_, hI⟩
          · rw [f_ED_poke, f_bufferAt_at hb4]
            simp only [Option.bind_some, zcs, zis_Bu_of hb4, if_true, f_Bu_replaceOrAppend, if_neg c0, a3, if_neg c1', if_neg l30]
          · rw [f_Mo_poke, if_neg n0, if_neg n3, if_neg c0, if_pos z4, nI_clamp (show b < 2 ^ 31 by omega), a1, a3, if_neg c1', if_neg l29]
