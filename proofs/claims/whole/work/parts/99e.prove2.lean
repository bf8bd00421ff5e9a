/-! prove(): the refusals and the kinds -/
theorem ep_cases (x : Int32) {E : Nat} (hE : E ≤ 40) : (x < 0 ∨ (¬ x < 0 ∧ nI E ≤ x)) ∨ ∃ e, e < E ∧ x = nI e := by
  by_cases c : x < 0
  · exact Or.inl (Or.inl c)
  · obtain ⟨e, he, rfl⟩ := nI_of c
    by_cases c1 : nI E ≤ nI e
    · exact Or.inl (Or.inr ⟨c, c1⟩)
    · rw [nI_leI (by omega) he] at c1
      exact Or.inr ⟨e, by omega, rfl⟩
theorem f_closed_no {N E : Nat} {x : Int32} {M : zMem} (hE : M 18 6 = nI E) (h : x < 0 ∨ (¬ x < 0 ∧ nI E ≤ x)) : f_Hi_isClosed N x M = some (0, M) := by
  rw [f_Hi_isClosed, hE]
  rcases h with h | ⟨h, h'⟩
  · rw [if_pos h]
  · rw [if_neg h, if_pos h']
theorem f_closed_at {N E e : Nat} {M : zMem} (hE : M 18 6 = nI E) (h40 : E ≤ 40) (h : e < E) : f_Hi_isClosed N (nI e) M = some (1, M) := by
  rw [f_Hi_isClosed, hE, if_neg (nI_pos (show e < 2 ^ 31 by omega)), if_neg (show ¬ nI E ≤ nI e by rw [nI_leI (by omega) (by omega)]; omega)]
theorem pr_ref {N : Nat} {x1 x2 x3 x4 s0 : Int32} {M : zMem} (h : (x1 < 0 ∨ (4 : Int32) ≤ x1) ∨ s0 = 0 ∨ (x2 < 0 ∨ (2 : Int32) < x2)) : f_Mo_prove_b29 N x1 x2 x3 x4 s0 M = some (-1, M) := by
  rw [f_Mo_prove_b29]
  by_cases c0 : x1 < 0
  · rw [if_pos c0]
  · rw [if_neg c0]
    by_cases c1 : (3 : Int32) < x1
    · rw [if_pos c1]
    · rw [if_neg c1]
      by_cases c2 : x2 < 0
      · rw [if_pos c2]
      · rw [if_neg c2]
        by_cases c3 : (2 : Int32) < x2
        · rw [if_pos c3]
        · rw [if_neg c3]
          rcases h with h | h | h
          · exact absurd (no3 h c0) c1
          · rw [if_pos h]
          · rcases h with h | h
            · exact absurd h c2
            · exact absurd h c3
theorem kind_cases (x : Int32) : x = 0 ∨ x = 1 ∨ x = 2 ∨ (x ≠ 0 ∧ x ≠ 1 ∧ x ≠ 2 ∧ (x < 0 ∨ (2 : Int32) < x)) := by
  by_cases c : x < 0
  · refine Or.inr (Or.inr (Or.inr ⟨?_, ?_, ?_, Or.inl c⟩)) <;> (intro e; rw [e] at c; exact absurd c (by decide))
  · obtain ⟨k, hk, rfl⟩ := nI_of c
    by_cases c2 : k ≤ 2
    · rcases k with _ | _ | _ | k
      · exact Or.inl rfl
      · exact Or.inr (Or.inl rfl)
      · exact Or.inr (Or.inr (Or.inl rfl))
      · omega
    · refine Or.inr (Or.inr (Or.inr ⟨?_, ?_, ?_, Or.inr ?_⟩))
      · rw [lN0]; exact fun e => by have := (nI_eq hk (by decide)).mp e; omega
      · rw [lN1]; exact fun e => by have := (nI_eq hk (by decide)).mp e; omega
      · rw [lN2]; exact fun e => by have := (nI_eq hk (by decide)).mp e; omega
      · rw [lN2, nI_ltI (by decide) hk]; omega
theorem ok_prove {N : Nat} (hN : 129 ≤ N) (x1 x2 x3 x4 : Int32) : Ok2 (f_ED_prove N x1 x2 x3 x4) (f_Mo_prove N x1 x2 x3 x4) := by
  intro M hI
  obtain ⟨E, Nb, C, e1, e2, e3, -⟩ := id hI.2.2.2.2.2.2
  have st : M 45 18 = M 0 11 := hI.2.1.1
  by_cases s0 : M 0 11 = 0
  · have st0 : M 45 18 = 0 := by rw [st]; exact s0
    have refC : ∀ s, (s = (0 : Int32) ∨ s = 1) → (x4 < 0 ∨ (¬ x4 < 0 ∧ nI E ≤ x4) → s = 0) → ((∃ e, e < E ∧ x4 = nI e) → s = 1) → f_Mo_prove N x1 x2 x3 x4 M = f_Mo_prove_b29 N x1 x2 x3 x4 s M := fun s hs h1 h2 => by
      rw [f_Mo_prove, if_pos st0, e3]
      rcases ep_cases x4 e1 with h | h
      · rw [h1 h]
        rcases h with h | ⟨h, h'⟩
        · rw [if_pos h]; rfl
        · rw [if_neg h, if_pos h']; rfl
      · rw [h2 h]
        obtain ⟨e, he, rfl⟩ := h
        rw [if_neg (nI_pos (show e < 2 ^ 31 by omega)), if_neg (show ¬ nI E ≤ nI e by rw [nI_leI (by omega) (by omega)]; omega)]
    rcases buf_cases x1 with hx | ⟨b, hb, rfl⟩
    · refine ⟨-1, M, M, by rw [f_ED_prove, if_pos s0, f_bufferAt_no hx]; rfl, ?_, hI⟩
      rcases ep_cases x4 e1 with h | h
      · rw [refC 0 (Or.inl rfl) (fun _ => rfl) (fun ⟨e, he, q⟩ => by
          exfalso
          rw [q] at h
          rcases h with h | ⟨-, h⟩
          · exact nI_pos (by omega) h
          · rw [nI_leI (by omega) (by omega)] at h; omega), pr_ref (Or.inl hx)]
      · rw [refC 1 (Or.inr rfl) (fun q => by
          exfalso
          obtain ⟨e, he, q'⟩ := h
          rw [q'] at q
          rcases q with h | ⟨-, h⟩
          · exact nI_pos (by omega) h
          · rw [nI_leI (by omega) (by omega)] at h; omega) (fun _ => rfl), pr_ref (Or.inl hx)]
    · rcases ep_cases x4 e1 with h | ⟨e, he, rfl⟩
      · refine ⟨-1, M, M, ?_, ?_, hI⟩
        · rw [f_ED_prove, if_pos s0, f_bufferAt_at hb, Option.bind_some, zcs, if_pos (zis_Bu_of hb), f_closed_no e2 h, Option.bind_some, if_pos rfl]
        · rw [refC 0 (Or.inl rfl) (fun _ => rfl) (fun ⟨e, he, q⟩ => by
            exfalso
            rw [q] at h
            rcases h with h | ⟨-, h⟩
            · exact nI_pos (by omega) h
            · rw [nI_leI (by omega) (by omega)] at h; omega), pr_ref (Or.inr (Or.inl rfl))]
      · have hf : f_ED_prove N (nI b) x2 x3 (nI e) M = (if x2 = 0 then (f_ED_isName N x3 M).bind fun q41 => (if q41.1 = 0 then some ((-1 : Int32), q41.2) else (f_ED_proveLookup N (28 + 2 * b) x3 (nI e) q41.2).bind fun q53 => some (q53.1, q53.2)) else (if x2 = (1 : Int32) then f_ED_prove_b71 N (28 + 2 * b) x2 x3 (nI e) M else (if x2 = (2 : Int32) then f_ED_prove_b71 N (28 + 2 * b) x2 x3 (nI e) M else some ((-1 : Int32), M)))) := by
          rw [f_ED_prove, if_pos s0, f_bufferAt_at hb, Option.bind_some, zcs, if_pos (zis_Bu_of hb), f_closed_at e2 e1 he, Option.bind_some, if_neg (show ¬ (1 : Int32) = 0 by decide)]
        -- the reference, its 45 as it was
        have hg : ∀ X : zMem, X 45 = M 45 → f_Mo_prove N (nI b) x2 x3 (nI e) X = f_Mo_prove_b29 N (nI b) x2 x3 (nI e) 1 X := fun X h45 => by
          rw [f_Mo_prove, h45, if_pos st0, e3, if_neg (nI_pos (show e < 2 ^ 31 by omega)), if_neg (show ¬ nI E ≤ nI e by rw [nI_leI (by omega) (by omega)]; omega)]
        have hg2 : ∀ X : zMem, ¬ x2 < 0 → ¬ (2 : Int32) < x2 → f_Mo_prove_b29 N (nI b) x2 x3 (nI e) 1 X = (if x2 = 0 then (f_Mo_isName N x3 X).bind fun q59 => (if q59.1 = 0 then some ((-1 : Int32), q59.2) else f_Mo_prove_b65 N (nI b) x2 x3 (nI e) q59.2) else f_Mo_prove_b65 N (nI b) x2 x3 (nI e) X) := fun X h1 h2 => by
          rw [f_Mo_prove_b29, if_neg (nI_pos (show b < 2 ^ 31 by omega)), if_neg (show ¬ (3 : Int32) < nI b by rw [lN3, nI_ltI (by decide) (by omega)]; omega), if_neg h1, if_neg h2, if_neg (show ¬ (1 : Int32) = 0 by decide)]
        have hist : ∀ wh : Bool, (x2 = 1 ∧ wh = false) ∨ (x2 = 2 ∧ wh = true) → f_ED_prove N (nI b) x2 x3 (nI e) M = f_ED_prove_b71 N (28 + 2 * b) x2 x3 (nI e) M → ∃ r M1 M2, f_ED_prove N (nI b) x2 x3 (nI e) M = some (r, M1) ∧ f_Mo_prove N (nI b) x2 x3 (nI e) M1 = some (r, M2) ∧ Inv M2 := fun wh hw hcl => by
          have k0 : ¬ x2 < 0 := by rcases hw with ⟨rfl, -⟩ | ⟨rfl, -⟩ <;> decide
          have k2 : ¬ (2 : Int32) < x2 := by rcases hw with ⟨rfl, -⟩ | ⟨rfl, -⟩ <;> decide
          have kz : ¬ x2 = 0 := by rcases hw with ⟨rfl, -⟩ | ⟨rfl, -⟩ <;> decide
          have kl : ¬ x2 ≤ 0 := by rcases hw with ⟨rfl, -⟩ | ⟨rfl, -⟩ <;> decide
          have hr : ∀ X : zMem, X 45 = M 45 → f_Mo_prove N (nI b) x2 x3 (nI e) X = (if x3 < 0 then some ((-1 : Int32), X) else (if x3 ≤ nI e then f_Mo_prove_b81 N (nI b) x2 x3 (nI e) X else some ((-1 : Int32), X))) := fun X h45 => by
            rw [hg X h45, hg2 X k0 k2, if_neg kz, f_Mo_prove_b65, if_neg kl]
          by_cases c3 : x3 < 0
          · exact ⟨-1, M, M, by rw [hcl, f_ED_prove_b71, if_pos c3], by rw [hr M rfl, if_pos c3], hI⟩
          · by_cases c4 : x3 ≤ nI e
            · obtain ⟨j, hj, rfl⟩ := nI_of c3
              rw [nI_leI hj (by omega)] at c4
              have c4' : nI j ≤ nI e := nI_le c4 (by omega)
              obtain ⟨r, M1, M2, g1, g2, g3, g4⟩ := proveH_both (N := N) (by omega) hI hb c4 e2 he e1 x2 wh hw
              exact ⟨r, M1, M2, by rw [hcl, f_ED_prove_b71, if_neg c3, if_pos c4', g1]; rfl, by rw [hr M1 g4, if_neg c3, if_pos c4']; exact g2, g3⟩
            · exact ⟨-1, M, M, by rw [hcl, f_ED_prove_b71, if_neg c3, if_neg c4], by rw [hr M rfl, if_neg c3, if_neg c4], hI⟩
        rcases kind_cases x2 with rfl | h1 | h2 | ⟨k0, k1, k2, k3⟩
        · rcases name_cases x3 with h3 | ⟨n, hn, rfl⟩
          · refine ⟨-1, M, M, ?_, ?_, hI⟩
            · rw [hf, if_pos rfl, (f_isName_no h3).1, Option.bind_some, if_pos rfl]
            · rw [hg M rfl, hg2 M (by decide) (by decide), if_pos rfl, (f_isName_no h3).2, Option.bind_some, if_pos rfl]
          · obtain ⟨r, M1, M2, g1, g2, g3, g4⟩ := lookup_both hN hI hb hn e2 he e1
            refine ⟨r, M1, M2, ?_, ?_, g3⟩
            · rw [hf, if_pos rfl, (f_isName_at hn).1, Option.bind_some, if_neg (show ¬ (1 : Int32) = 0 by decide), g1]; rfl
            · rw [hg M1 g4, hg2 M1 (by decide) (by decide), if_pos rfl, (f_isName_at hn).2, Option.bind_some, if_neg (show ¬ (1 : Int32) = 0 by decide), f_Mo_prove_b65, if_pos (by decide)]
              exact g2
        · exact hist false (Or.inl ⟨h1, rfl⟩) (by rw [hf, if_neg (by rw [h1]; decide), if_pos h1])
        · exact hist true (Or.inr ⟨h2, rfl⟩) (by rw [hf, if_neg (by rw [h2]; decide), if_neg (by rw [h2]; decide), if_pos h2])
        · refine ⟨-1, M, M, ?_, ?_, hI⟩
          · rw [hf, if_neg k0, if_neg k1, if_neg k2]
          · rw [hg M rfl, pr_ref (Or.inr (Or.inr k3))]
  · exact ⟨-9, M, M, by rw [f_ED_prove, if_neg s0], by rw [f_Mo_prove, st, if_neg s0], hI⟩
