/-! consistent, follow -/
theorem con_C {N : Nat} (M : zMem) {L : List (Bool × Nat × Nat)} {fs : Nat} {o rS rE : Nat → Int32} (h : WC L fs o rS) {b g : Nat} (hb : b < 4) (hg : g ≤ 1) (old hd x : Int32) : ∀ d i fuel, i + d = L.length → d < fuel → f_HC_acceptsConsistency_l82 N (28 + 2 * b) fuel old hd (nI g) (mk (M 1 0) L (fun i => M (28 + 2 * b + 1) (g + i)) x i) (mo (M 1 0) L (fun i => M (28 + 2 * b + 1) (g + i)) x i) (nI i) (w3 M 41 o rS rE) = some (if mo (M 1 0) L (fun i => M (28 + 2 * b + 1) (g + i)) x L.length = old ∧ mk (M 1 0) L (fun i => M (28 + 2 * b + 1) (g + i)) x L.length = hd then 1 else 0, w3 M 41 o rS rE) := by
  have g2 := h.2.1
  have g3 := h.2.2.1
  intro d
  induction d with
  | zero =>
    intro i fuel hi hf
    obtain ⟨fuel, rfl⟩ : ∃ m, fuel = m + 1 := ⟨fuel - 1, by omega⟩
    have : i = L.length := by omega
    subst this
    rw [f_HC_acceptsConsistency_l82, w3_0, g3, if_pos (nI_le (Nat.le_refl _) (by omega))]
    by_cases c : mo (M 1 0) L (fun i => M (28 + 2 * b + 1) (g + i)) x L.length = old
    · by_cases c2 : mk (M 1 0) L (fun i => M (28 + 2 * b + 1) (g + i)) x L.length = hd
      · rw [if_pos c, if_pos c2, if_pos ⟨c, c2⟩]
      · rw [if_pos c, if_neg c2, if_neg (fun z => c2 z.2)]
    · rw [if_neg c, if_neg (fun z => c z.1)]
  | succ d ih =>
    intro i fuel hi hf
    obtain ⟨fuel, rfl⟩ : ∃ m, fuel = m + 1 := ⟨fuel - 1, by omega⟩
    have hs : nI L.length - (1 : Int32) - nI i = nI (L.length - 1 - i) := by rw [lN1, nI_subN (by omega), nI_subN (by omega)]
    have hq := getD_at (show L.length - 1 - i < L.length by omega)
    have IH := ih (i + 1) fuel (by omega) (by omega)
    rw [mk, mo] at IH
    rw [f_HC_acceptsConsistency_l82, w3_0, g3, if_neg (by rw [nI_leI (by omega) (by omega)]; omega), hs, nI_add]
    simp only [zlt]
    rw [if_pos (zin_t (show g + i < 30 by omega) (by decide)), nI_clamp (show g + i < 2 ^ 31 by omega), w3_ne _ _ _ _ _ (show 28 + 2 * b + 1 ≠ 41 by omega) (show 28 + 2 * b + 1 ≠ 41 + 1 by omega) (show 28 + 2 * b + 1 ≠ 41 + 2 by omega), f_join M h hq]
    simp only [Option.bind_some]
    rw [f_before M h hq]
    simp only [Option.bind_some]
    by_cases c : (L.getD (L.length - 1 - i) (false, 0, 0)).1 = true
    · rw [if_pos c] at IH
      rw [if_pos c, if_neg (show ¬ (1 : Int32) = 0 by decide), f_join M h hq, c]
      rw [c] at IH
      simp only [Option.bind_some, f_HC_acceptsConsistency_b159, zlt, nI_1]
      exact IH
    · rw [if_neg c] at IH
      rw [if_neg c, if_pos rfl]
      simp only [f_HC_acceptsConsistency_b159, zlt, nI_1]
      exact IH
theorem con_M {N : Nat} (M : zMem) {L : List (Bool × Nat × Nat)} {o a b' c' : Nat → Int32} (h : WM L o a) (hL : L.length ≤ 6) {b g : Nat} (hb : b < 4) (hg : g ≤ 1) (old hd x : Int32) : ∀ d i fuel, i + d = L.length → d < fuel → f_Mo_consistent_l80 N fuel (nI b) old hd (nI g) (mk (32 - o 0) L (fun i => M 60 (30 * b + g + i)) x i) (mo (32 - o 0) L (fun i => M 60 (30 * b + g + i)) x i) (nI i) (v4 M o a b' c') = some (if mo (32 - o 0) L (fun i => M 60 (30 * b + g + i)) x L.length = old ∧ mk (32 - o 0) L (fun i => M 60 (30 * b + g + i)) x L.length = hd then 1 else 0, v4 M o a b' c') := by
  obtain ⟨g3, g5⟩ := h
  intro d
  induction d with
  | zero =>
    intro i fuel hi hf
    obtain ⟨fuel, rfl⟩ : ∃ m, fuel = m + 1 := ⟨fuel - 1, by omega⟩
    have : i = L.length := by omega
    subst this
    rw [f_Mo_consistent_l80, v4_45, g3, if_pos (nI_le (Nat.le_refl _) (by omega))]
    by_cases c : mo (32 - o 0) L (fun i => M 60 (30 * b + g + i)) x L.length = old
    · by_cases c2 : mk (32 - o 0) L (fun i => M 60 (30 * b + g + i)) x L.length = hd
      · rw [if_pos c2, if_pos c, if_pos ⟨c, c2⟩]
      · rw [if_neg c2, if_neg (fun z => c2 z.2)]
    · by_cases c2 : mk (32 - o 0) L (fun i => M 60 (30 * b + g + i)) x L.length = hd
      · rw [if_pos c2, if_neg c, if_neg (fun z => c z.1)]
      · rw [if_neg c2, if_neg (fun z => c2 z.2)]
  | succ d ih =>
    intro i fuel hi hf
    obtain ⟨fuel, rfl⟩ : ∃ m, fuel = m + 1 := ⟨fuel - 1, by omega⟩
    have hs : nI L.length - (1 : Int32) - nI i = nI (L.length - 1 - i) := by rw [lN1, nI_subN (by omega), nI_subN (by omega)]
    have e : (30 : Int32) * nI b + nI g + nI i = nI (30 * b + g + i) := by rw [lN30, nI_mulN, nI_add, nI_add]
    have hq := getD_at (show L.length - 1 - i < L.length by omega)
    have IH := ih (i + 1) fuel (by omega) (by omega)
    rw [mk, mo] at IH
    rw [f_Mo_consistent_l80, v4_45, g3, if_neg (by rw [nI_leI (by omega) (by omega)]; omega), hs, e, if_pos (zin_t (show 30 * b + g + i < 120 by omega) (by decide)), nI_clamp (show 30 * b + g + i < 2 ^ 31 by omega), v4_ne _ _ _ _ _ (show 60 ≠ 45 by decide) (show 60 ≠ 64 by decide) (show 60 ≠ 65 by decide) (show 60 ≠ 66 by decide)]
    simp only [zlt]
    rw [if_pos (zin_t (show L.length - 1 - i < 8 by omega) (by decide)), nI_clamp (show L.length - 1 - i < 2 ^ 31 by omega), v4_64, g5 _ _ hq]
    unfold jn at IH
    by_cases c : (L.getD (L.length - 1 - i) (false, 0, 0)).1 = true
    · rw [if_pos c, if_pos c, if_pos rfl] at IH
      rw [if_pos c, if_neg (show ¬ (1 : Int32) = 0 by decide), f_hash]
      simp only [Option.bind_some, f_Mo_consistent_b148, if_neg (show ¬ (1 : Int32) = 0 by decide), f_hash, f_Mo_consistent_b169, zlt, nI_1]
      exact IH
    · rw [if_neg c, if_neg c] at IH
      rw [if_neg c, if_pos rfl, f_hash]
      simp only [Option.bind_some, f_Mo_consistent_b148, if_true, f_Mo_consistent_b169, zlt, nI_1]
      exact IH
/-- consistent() on both: the answer, and that little is touched; the reference over any memory with its own part -/
theorem con_both {N : Nat} (hN : 7 ≤ N) (x y z old hd : Int32) (M : zMem) (hI : Inv M) : ∃ r M1, f_ED_consistent N x y z old hd M = some (r, M1) ∧ (M1 = M ∨ ∃ o rS rE, M1 = w3 M 41 o rS rE) ∧ (r = 0 ∨ (r = 1 ∧ ∃ n, n < 40 ∧ z = nI n)) ∧ ∀ X : zMem, (∀ k, 45 ≤ k → X k = M k) → ∃ o2 a b c, f_Mo_consistent N x y z old hd X = some (r, v4 X o2 a b c) ∧ ∀ i, i ≠ 25 → i ≠ 29 → i ≠ 30 → o2 i = X 45 i := by
  have hb := hI.2.2.2.2.2.1
  rcases buf_cases x with hx | ⟨b, hb4, rfl⟩
  · refine ⟨0, M, by rw [f_ED_consistent, f_bufferAt_no hx]; rfl, Or.inl rfl, Or.inl rfl, fun X hX => ⟨X 45, X 64, X 65, X 66, ?_, fun i _ _ _ => rfl⟩⟩
    rw [f_Mo_consistent, f_Mo_inOrder, v4_self]
    by_cases c : x < 0
    · rw [if_pos c]; rfl
    · rw [if_neg c, if_pos (no3 hx c)]; rfl
  · rcases ord_cases y z with ho | ⟨e, n, he, hn, rfl, rfl⟩
    · refine ⟨0, M, ?_, Or.inl rfl, Or.inl rfl, fun X hX => ⟨X 45, X 64, X 65, X 66, ?_, fun i _ _ _ => rfl⟩⟩
      · rw [f_ED_consistent, f_bufferAt_at hb4]
        simp only [Option.bind_some, zcs, zis_Bu_of hb4, if_true, f_HC_acceptsConsistency, (f_order_no hb4 ho).1]
      · rw [f_Mo_consistent, (f_order_no hb4 ho).2, v4_self]; rfl
    · obtain ⟨a1, c, a2, a3, a4⟩ := hb.get hb4
      obtain ⟨o, rS, rE, q1, q2, q3, q4, q5⟩ := f_go hN M 41 e n false (by decide) he hn
      have q2 : o 2 = nI (wy e true 6 0 (n + 1)).1.length := q2
      have q3 : o 3 = nI (wy e true 6 0 (n + 1)).2.1 := q3
      have hW := wc_of (wh := true) he hn q2 q3 (fun i q hq => (q5 i q hq).1)
      have hWY := fun X : zMem => f_way hN X e n true he hn
      generalize (wy e true 6 0 (n + 1)).1 = L at hW hWY q2
      generalize (wy e true 6 0 (n + 1)).2.1 = fs at hW hWY q3
      have hL6 := hW.2.1
      have hfs := hW.1
      have w28 : w3 M 41 o rS rE (28 + 2 * b) = M (28 + 2 * b) := w3_ne _ _ _ _ _ (by omega) (by omega) (by omega)
      have w29 : w3 M 41 o rS rE (28 + 2 * b + 1) = M (28 + 2 * b + 1) := w3_ne _ _ _ _ _ (by omega) (by omega) (by omega)
      -- how many words are given first
      obtain ⟨g, hg⟩ : ∃ g, g = if fs = 0 then 0 else 1 := ⟨_, rfl⟩
      have hg1 : g ≤ 1 := by rw [hg]; split <;> omega
      obtain ⟨w0, hw0⟩ : ∃ w0, w0 = if g = 1 then M (28 + 2 * b + 1) 0 else old := ⟨_, rfl⟩
      have hF : f_HC_acceptsConsistency N (28 + 2 * b) (nI e) (nI n) old hd M = f_HC_acceptsConsistency_b35 N (28 + 2 * b) old hd (nI g) (w3 M 41 o rS rE) := by
        rw [f_HC_acceptsConsistency, if_pos (zis_Bu_of hb4), (f_order_at hb4 he hn).1]
        simp only [Option.bind_some, if_neg (show ¬ (1 : Int32) = 0 by decide)]
        rw [show f_Wy_go N 41 (nI e) (nI n) 0 M = _ from q1]
        simp only [Option.bind_some]
        rw [w3_0, q3]
        by_cases c0 : fs = 0
        · rw [if_pos (by rw [c0]; decide), hg, if_pos c0]; rfl
        · rw [if_neg (nI_nle (by omega) (by omega)), hg, if_neg c0]; rfl
      have eg : nI g = (1 : Int32) ↔ g = 1 := by rw [lN1, nI_eq (by omega) (by decide)]
      refine ⟨if c = g + L.length then (if mo (M 1 0) L (fun i => M (28 + 2 * b + 1) (g + i)) w0 L.length = old ∧ mk (M 1 0) L (fun i => M (28 + 2 * b + 1) (g + i)) w0 L.length = hd then 1 else 0) else 0, w3 M 41 o rS rE, ?_, Or.inr ⟨o, rS, rE, rfl⟩, ?_, fun X hX => ?_⟩
      · rw [f_ED_consistent, f_bufferAt_at hb4]
        simp only [Option.bind_some, zcs, zis_Bu_of hb4, if_true, hF]
        rw [f_HC_acceptsConsistency_b35, w28, a3, w3_0, q2, nI_add]
        by_cases cc : c = g + L.length
        · rw [if_pos (by rw [cc]), if_pos cc]
          have hx : (if nI g = (1 : Int32) then f_HC_acceptsConsistency_b73 N (28 + 2 * b) old hd (nI g) (w3 M 41 o rS rE (28 + 2 * b + 1) 0) (w3 M 41 o rS rE) else f_HC_acceptsConsistency_b73 N (28 + 2 * b) old hd (nI g) old (w3 M 41 o rS rE)) = f_HC_acceptsConsistency_b73 N (28 + 2 * b) old hd (nI g) w0 (w3 M 41 o rS rE) := by
            rw [w29, hw0]
            by_cases c1 : g = 1
            · rw [if_pos (eg.mpr c1), if_pos c1]
            · rw [if_neg (fun q => c1 (eg.mp q)), if_neg c1]
          rw [hx, f_HC_acceptsConsistency_b73, show f_HC_acceptsConsistency_l82 N (28 + 2 * b) N old hd (nI g) w0 w0 0 (w3 M 41 o rS rE) = _ from con_C M hW hb4 hg1 old hd w0 L.length 0 N (by omega) (by omega)]
          simp only [Option.bind_some]
          by_cases c9 : mo (M 1 0) L (fun i => M (28 + 2 * b + 1) (g + i)) w0 L.length = old ∧ mk (M 1 0) L (fun i => M (28 + 2 * b + 1) (g + i)) w0 L.length = hd
          · rw [if_pos c9, if_neg (show ¬ (1 : Int32) = 0 by decide)]
          · rw [if_neg c9, if_pos rfl]
        · rw [if_neg (by rw [nI_eq (by omega) (by omega)]; exact cc), if_neg cc]
          rfl
      · by_cases cc : c = g + L.length
        · rw [if_pos cc]
          by_cases c9 : mo (M 1 0) L (fun i => M (28 + 2 * b + 1) (g + i)) w0 L.length = old ∧ mk (M 1 0) L (fun i => M (28 + 2 * b + 1) (g + i)) w0 L.length = hd
          · rw [if_pos c9]; exact Or.inr ⟨rfl, n, hn, rfl⟩
          · rw [if_neg c9]; exact Or.inl rfl
        · rw [if_neg cc]; exact Or.inl rfl
      · obtain ⟨o2, a', b', c', p1, p2, p3, p4, p5, p6⟩ := hWY X
        have hWM : WM L o2 a' := ⟨p2, fun i q hq => (p6 i q hq).1⟩
        have hsh : 32 - o2 0 = M 1 0 := by rw [p5 0 (by decide) (by decide) (by decide), hX 45 (by decide)]; exact hI.1.symm
        have hX60 := hX 60 (by decide)
        have hX61 := hX 61 (by decide)
        refine ⟨o2, a', b', c', ?_, p5⟩
        have hG : f_Mo_consistent N (nI b) (nI e) (nI n) old hd X = f_Mo_consistent_b31 N (nI b) old hd (nI g) (v4 X o2 a' b' c') := by
          rw [f_Mo_consistent, (f_order_at hb4 he hn).2]
          simp only [Option.bind_some, if_neg (show ¬ (1 : Int32) = 0 by decide)]
          rw [show f_Mo_way N (nI e) (nI n) 1 X = _ from p1]
          simp only [Option.bind_some]
          rw [v4_45, p3]
          by_cases c0 : fs = 0
          · rw [if_pos (by rw [c0]; decide), hg, if_pos c0]; rfl
          · rw [if_neg (nI_nle (by omega) (by omega)), hg, if_neg c0]; rfl
        rw [hG, f_Mo_consistent_b31, if_pos (zin_t hb4 (by decide)), nI_clamp (show b < 2 ^ 31 by omega), v4_45, p2, v4_ne _ _ _ _ _ (show 61 ≠ 45 by decide) (show 61 ≠ 64 by decide) (show 61 ≠ 65 by decide) (show 61 ≠ 66 by decide), hX61, a1, a3, nI_add]
        by_cases cc : c = g + L.length
        · rw [if_pos (by rw [cc, Nat.add_comm]), if_pos cc]
          have e30 : (30 : Int32) * nI b = nI (30 * b) := by rw [lN30, nI_mulN]
          have hx : (if nI g = (1 : Int32) then (if zin ((30 : Int32) * nI b) 120 = true then f_Mo_consistent_b71 N (nI b) old hd (nI g) (v4 X o2 a' b' c' 60 ((30 : Int32) * nI b).toNatClampNeg) (v4 X o2 a' b' c') else none) else f_Mo_consistent_b71 N (nI b) old hd (nI g) old (v4 X o2 a' b' c')) = f_Mo_consistent_b71 N (nI b) old hd (nI g) w0 (v4 X o2 a' b' c') := by
            rw [hw0]
            by_cases c1 : g = 1
            · rw [if_pos (eg.mpr c1), if_pos c1, e30, if_pos (zin_t (show 30 * b < 120 by omega) (by decide)), nI_clamp (show 30 * b < 2 ^ 31 by omega)]
              have h60 : v4 X o2 a' b' c' 60 (30 * b) = M (28 + 2 * b + 1) 0 := by
                rw [v4_ne _ _ _ _ _ (by decide) (by decide) (by decide) (by decide), hX60]
                exact (a4 0 (by omega)).symm
              rw [h60]
            · rw [if_neg (fun q => c1 (eg.mp q)), if_neg c1]
          rw [hx, f_Mo_consistent_b71, show f_Mo_consistent_l80 N N (nI b) old hd (nI g) w0 w0 0 (v4 X o2 a' b' c') = _ from con_M X hWM hL6 hb4 hg1 old hd w0 L.length 0 N (by omega) (by omega), hsh]
          rw [mk_congr (M 1 0) L (w := fun i => X 60 (30 * b + g + i)) (w' := fun i => M (28 + 2 * b + 1) (g + i)) _ L.length (fun j hj => by rw [a4 (g + j) (by omega), Nat.add_assoc, hX60]), mo_congr (M 1 0) L (w := fun i => X 60 (30 * b + g + i)) (w' := fun i => M (28 + 2 * b + 1) (g + i)) _ L.length (fun j hj => by rw [a4 (g + j) (by omega), Nat.add_assoc, hX60])]
        · rw [if_neg (by rw [nI_eq (by omega) (by omega)]; omega), if_neg cc]
theorem w3_hi (M : zMem) (o rS rE : Nat → Int32) {k : Nat} (h : 45 ≤ k) : w3 M 41 o rS rE k = M k := w3_ne _ _ _ _ _ (by omega) (by omega) (by omega)
theorem ok_consistent {N : Nat} (hN : 7 ≤ N) (x y z old hd : Int32) : Ok2 (f_ED_consistent N x y z old hd) (f_Mo_consistent N x y z old hd) := by
  intro M hI
  obtain ⟨r, M1, h1, h2, -, h4⟩ := con_both hN x y z old hd M hI
  have hI1 : Inv M1 := by
    rcases h2 with rfl | ⟨o, rS, rE, rfl⟩
    · exact hI
    · exact Inv_w3 hI _ _ _
  obtain ⟨o2, a, b, c, h5, h6⟩ := h4 M1 (fun k hk => by
    rcases h2 with rfl | ⟨o, rS, rE, rfl⟩
    · rfl
    · exact w3_hi M o rS rE hk)
  exact ⟨r, M1, _, h1, h5, Inv_v4 hI1 _ _ _ h6⟩
theorem zu_self (M : zMem) (k j : Nat) : zu M k j (M k j) = M := by
  funext k'
  unfold zu
  by_cases h : k' = k
  · rw [if_pos h, h]
    funext j'
    unfold upd
    by_cases hj : j' = j
    · rw [if_pos hj, hj]
    · rw [if_neg hj]
  · rw [if_neg h]
theorem fol_M0 (N : Nat) (x y : Int32) (M : zMem) : f_Mo_follow_b40 N x y 0 M = some (0, M) := by
  rw [f_Mo_follow_b40, if_pos rfl, f_Mo_follow_b56]
  simp only [zlt, if_true, zu_self, show zbool 0 = true from rfl]
theorem fol_M1 (N : Nat) (x y : Int32) (M : zMem) : f_Mo_follow_b40 N x y 1 M = some (1, zu (zu M 45 31 x) 45 32 y) := by
  rw [f_Mo_follow_b40, if_neg (by decide), f_Mo_follow_b56]
  simp only [zlt, if_neg (show ¬ (1 : Int32) = 0 by decide), if_true, show zbool 1 = true from rfl]
theorem fol_C0 (N : Nat) (x y : Int32) (M : zMem) : f_ED_follow_b40 N x y 0 M = some (0, M) := by
  rw [f_ED_follow_b40, if_pos rfl, if_pos (show zbool 0 = true from rfl)]
theorem fol_C1 (N : Nat) (x y : Int32) (M : zMem) : f_ED_follow_b40 N x y 1 M = some (1, zu (zu (zu M 0 15 1) 0 16 x) 0 17 y) := by
  rw [f_ED_follow_b40, if_neg (by decide)]
  simp only [zlt, if_true, show zbool 1 = true from rfl]
/-- both have seen epoch k and head y -/
theorem Inv_seen {M : zMem} (h : Inv M) {k : Nat} (hk : k < 40) (y : Int32) : Inv (zu (zu (zu (zu (zu M 0 15 1) 0 16 (nI k)) 0 17 y) 45 31 (nI k)) 45 32 y) := ⟨h.1, h.2.1, h.2.2.1, Or.inr ⟨rfl, rfl, rfl, k, hk, rfl⟩, h.2.2.2.2.1, h.2.2.2.2.2.1, h.2.2.2.2.2.2⟩
theorem ok_follow {N : Nat} (hN : 7 ≤ N) (x y z : Int32) : Ok2 (f_ED_follow N x y z) (f_Mo_follow N x y z) := by
  intro M hI
  rcases hI.2.2.2.1 with ⟨s1, s2⟩ | ⟨s1, s2, s3, k, s4, s5⟩
  · have hneg : ∀ X : zMem, X 45 31 = -1 → ¬ (0 : Int32) ≤ X 45 31 := fun X h => by rw [h]; decide
    by_cases c0 : y < 0
    · refine ⟨0, M, M, ?_, ?_, hI⟩
      · rw [f_ED_follow, if_pos s1, if_pos c0, f_ED_follow_b39, fol_C0]
      · rw [f_Mo_follow, if_neg (hneg M s2), if_pos c0, f_Mo_follow_b21, fol_M0]
    · by_cases c1 : (40 : Int32) ≤ y
      · refine ⟨0, M, M, ?_, ?_, hI⟩
        · rw [f_ED_follow, if_pos s1, if_neg c0, if_pos c1, f_ED_follow_b39, fol_C0]
        · rw [f_Mo_follow, if_neg (hneg M s2), if_neg c0, if_pos c1, f_Mo_follow_b21, fol_M0]
      · obtain ⟨j, hj, rfl⟩ := nI_of c0
        have hj40 : j < 40 := by rw [lN40, nI_leI (by decide) hj] at c1; omega
        refine ⟨1, zu (zu (zu M 0 15 1) 0 16 (nI j)) 0 17 z, _, ?_, ?_, Inv_seen hI hj40 z⟩
        · rw [f_ED_follow, if_pos s1, if_neg c0, if_neg c1, fol_C1]
        · rw [f_Mo_follow, if_neg (hneg (zu (zu (zu M 0 15 1) 0 16 (nI j)) 0 17 z) s2), if_neg c0, if_neg c1, fol_M1]
  · have hs : ¬ M 0 15 = 0 := by rw [s1]; decide
    obtain ⟨r, M1, h1, h2, h3, h4⟩ := con_both hN x (M 0 16) y (M 0 17) z M hI
    have hI1 : Inv M1 := by
      rcases h2 with rfl | ⟨o, rS, rE, rfl⟩
      · exact hI
      · exact Inv_w3 hI _ _ _
    have h45 : ∀ k, 45 ≤ k → M1 k = M k := fun k hk => by
      rcases h2 with rfl | ⟨o, rS, rE, rfl⟩
      · rfl
      · exact w3_hi M o rS rE hk
    have hp : (0 : Int32) ≤ M 45 31 := by rw [s2, s5]; exact nI_pos' (by omega)
    rcases h3 with rfl | ⟨rfl, n, hn, rfl⟩
    · obtain ⟨o2, a, b, c, h5, h6⟩ := h4 M1 h45
      refine ⟨0, M1, v4 M1 o2 a b c, ?_, ?_, Inv_v4 hI1 _ _ _ h6⟩
      · rw [f_ED_follow, if_neg hs, h1]
        simp only [Option.bind_some]
        rw [fol_C0]
      · rw [f_Mo_follow, h45 45 (by decide), if_pos hp, s2, s3, h5]
        simp only [Option.bind_some]
        rw [fol_M0]
    · obtain ⟨o2, a, b, c, h5, h6⟩ := h4 (zu (zu (zu M1 0 15 1) 0 16 (nI n)) 0 17 z) (fun k hk => by rw [zu_ne _ _ _ (by omega), zu_ne _ _ _ (by omega), zu_ne _ _ _ (by omega)]; exact h45 k hk)
      refine ⟨1, zu (zu (zu M1 0 15 1) 0 16 (nI n)) 0 17 z, zu (zu (v4 (zu (zu (zu M1 0 15 1) 0 16 (nI n)) 0 17 z) o2 a b c) 45 31 (nI n)) 45 32 z, ?_, ?_, ?_⟩
      · rw [f_ED_follow, if_neg hs, h1]
        simp only [Option.bind_some]
        rw [fol_C1]
      · rw [f_Mo_follow, zu_ne _ _ _ (show 45 ≠ 0 by decide), zu_ne _ _ _ (show 45 ≠ 0 by decide), zu_ne _ _ _ (show 45 ≠ 0 by decide), h45 45 (by decide), if_pos hp, s2, s3, h5]
        simp only [Option.bind_some]
        rw [fol_M1]
      · have hV := Inv_v4 (o := o2) hI1 a b c h6
        exact Inv_seen hV hn z
