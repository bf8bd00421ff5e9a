/-! prove() of history: whole -/
theorem iBufs.setc {M X : zMem} (h : iBufs M) {b c : Nat} (hb : b < 4) (hc : c ≤ 30) {W : Nat → Int32} (h28 : ∀ b', b' < 4 → b' ≠ b → X (28 + 2 * b') = M (28 + 2 * b') ∧ X (28 + 2 * b' + 1) = M (28 + 2 * b' + 1)) (h61 : ∀ b', b' ≠ b → X 61 b' = M 61 b') (h60 : ∀ i, i < 30 * b ∨ 30 * b + 30 ≤ i → X 60 i = M 60 i) (hC : BC X b c W) (hM : BM X b c W) : iBufs X := by
  refine iBufs.mk4 (fun b' hb' => ?_)
  by_cases e : b' = b
  · subst e
    exact ⟨by rw [hC.1, hM.1], c, hc, hC.1, fun i hi => by rw [hC.2 i hi, hM.2 i hi]⟩
  · obtain ⟨a1, c', a2, a3, a4⟩ := h.get hb'
    rw [(h28 b' hb' e).1, (h28 b' hb' e).2, h61 b' e]
    exact ⟨a1, c', a2, a3, fun i hi => by rw [a4 i hi, h60 (30 * b' + i) (by omega)]⟩
/-- what a proof may touch -/
def SP (b : Nat) : Nat → Prop := fun k => k = 0 ∨ (23 ≤ k ∧ k ≤ 26) ∨ k = 28 + 2 * b ∨ k = 28 + 2 * b + 1 ∨ k = 45 ∨ (50 ≤ k ∧ k ≤ 52) ∨ (60 ≤ k ∧ k ≤ 66)
theorem Inv_fin {M X : zMem} (h : Inv M) {b : Nat} (hb : b < 4) (hA : Ag (SP b) M X) (h0 : ∀ j, j ≠ 13 → j ≠ 14 → X 0 j = M 0 j) (h45 : ∀ j, j ≠ 21 → j ≠ 22 → j ≠ 25 → j ≠ 29 → j ≠ 30 → X 45 j = M 45 j) (hw : X 45 21 = X 0 13 ∧ X 45 22 = X 0 14) (hB : iBufs X) : Inv X := by
  obtain ⟨E, Nb, C, e1, e2, e3, e4, e5, e6, e7, e8, e9, e10⟩ := h.2.2.2.2.2.2
  have g : ∀ k, ¬ SP b k → X k = M k := hA
  refine ⟨?_, ?_, hw, ?_, ?_, hB, E, Nb, C, e1, ?_, ?_, ?_, ?_, ?_, ?_, ?_, ?_, ?_⟩
  · rw [g 1 (by unfold SP; omega), h45 0 (by decide) (by decide) (by decide) (by decide) (by decide)]; exact h.1
  · rw [h0 11 (by decide) (by decide), h0 12 (by decide) (by decide), h45 18 (by decide) (by decide) (by decide) (by decide) (by decide), h45 17 (by decide) (by decide) (by decide) (by decide) (by decide)]; exact h.2.1
  · rw [h0 15 (by decide) (by decide), h0 16 (by decide) (by decide), h0 17 (by decide) (by decide), h45 31 (by decide) (by decide) (by decide) (by decide) (by decide), h45 32 (by decide) (by decide) (by decide) (by decide) (by decide)]; exact h.2.2.2.1
  · rw [g 70 (by unfold SP; omega), g 44 (by unfold SP; omega)]; exact h.2.2.2.2.1
  · rw [g 18 (by unfold SP; omega)]; exact e2
  · rw [h45 4 (by decide) (by decide) (by decide) (by decide) (by decide)]; exact e3
  · rw [g 5 (by unfold SP; omega)]; exact e4
  · rw [h45 9 (by decide) (by decide) (by decide) (by decide) (by decide)]; exact e5
  · rw [g 5 (by unfold SP; omega)]; exact e6
  · rw [g 3 (by unfold SP; omega), g 4 (by unfold SP; omega), g 47 (by unfold SP; omega), g 48 (by unfold SP; omega), g 46 (by unfold SP; omega), g 2 (by unfold SP; omega)]; exact e7
  · rw [g 6 (by unfold SP; omega), g 7 (by unfold SP; omega), g 8 (by unfold SP; omega), g 53 (by unfold SP; omega), g 54 (by unfold SP; omega), g 55 (by unfold SP; omega), h0 11 (by decide) (by decide)]; exact e8
  · rw [g 1 (by unfold SP; omega), g 20 (by unfold SP; omega), g 21 (by unfold SP; omega), g 22 (by unfold SP; omega), g 49 (by unfold SP; omega)]; exact e9
  · rw [g 1 (by unfold SP; omega), g 6 (by unfold SP; omega), g 7 (by unfold SP; omega), g 8 (by unfold SP; omega), g 9 (by unfold SP; omega), g 46 (by unfold SP; omega), g 19 (by unfold SP; omega), g 20 (by unfold SP; omega), g 11 (by unfold SP; omega), g 57 (by unfold SP; omega), g 56 (by unfold SP; omega), g 3 (by unfold SP; omega)]; exact e10
theorem hw_congr {s : Int32} {lv lv' : Nat → Int32} {L : List (Bool × Nat × Nat)} {g fs fn m : Nat} (h : ∀ i, i < m → lv i = lv' i) (hf : 0 < g → 1 ≤ fn ∧ fs + fn ≤ m) (hL : ∀ q ∈ L, 1 ≤ q.2.2 ∧ q.2.1 + q.2.2 ≤ m) {i : Nat} (hi : i < g + L.length) : hw s lv L g fs fn i = hw s lv' L g fs fn i := by
  unfold hw
  by_cases c : i < g
  · rw [if_pos c, if_pos c]
    obtain ⟨h1, h2⟩ := hf (by omega)
    exact rd_congr _ fn fs (fun j hj => h _ (by omega)) h1
  · rw [if_neg c, if_neg c]
    obtain ⟨h1, h2⟩ := hL _ (List.mem_of_getElem? (getD_at (show L.length - 1 - (i - g) < L.length by omega)))
    exact rd_congr _ _ _ (fun j hj => h _ (by omega)) h1
/-- both write the same words; kd is the kind, 1 or 2 -/
theorem proveH_both {N : Nat} (hN : 41 ≤ N) {M : zMem} (hI : Inv M) {b e n E : Nat} (hb : b < 4) (he : e ≤ n) (hE : M 18 6 = nI E) (hnE : n < E) (hE40 : E ≤ 40) (kd : Int32) (wh : Bool) (hkd : (kd = 1 ∧ wh = false) ∨ (kd = 2 ∧ wh = true)) :
    ∃ r M1 M2, f_ED_proveHistory N (28 + 2 * b) kd (nI e) (nI n) M = some (r, M1) ∧ f_Mo_prove_b81 N (nI b) kd (nI e) (nI n) M1 = some (r, M2) ∧ Inv M2 ∧ M1 45 = M 45 := by
  have hn40 : n < 40 := by omega
  have hh : iHist (M 1 0) E (M 20) (M 21) (M 22) (M 49) := by
    obtain ⟨E', Nb, C, e1, e2, e3, e4, e5, e6, e7, e8, e9, e10⟩ := hI.2.2.2.2.2.2
    have : E' = E := by rw [e2] at hE; exact (nI_eq (by omega) (by omega)).mp hE
    subst this
    exact e9
  obtain ⟨o, rS, rE, q1, q2, q3, q4, q5⟩ := f_go (show 7 ≤ N by omega) M 24 e n (!wh) (by decide) he hn40
  rw [Bool.not_not] at q2 q3 q4 q5
  have e6 : (2 : Nat) ^ 6 = 64 := rfl
  have hlen := wy_len e wh 6 0 (n + 1) (by omega) (by omega)
  obtain ⟨i1, i2, i3, i4, i5⟩ := wy_end e wh 6 0 (n + 1) (Nat.zero_le _) (by omega)
  have hWY := fun X : zMem => f_way (show 7 ≤ N by omega) X e n wh he hn40
  generalize hLd : (wy e wh 6 0 (n + 1)).1 = L at q2 q5 hlen i5 hWY
  generalize hfd : (wy e wh 6 0 (n + 1)).2.1 = fs at q3 q4 i1 i2 i3 i4 i5 hWY
  generalize hnd : (wy e wh 6 0 (n + 1)).2.2 = fn at q4 i3 i4 hWY
  have hLq : ∀ q ∈ L, 1 ≤ q.2.2 ∧ q.2.1 + q.2.2 ≤ n + 1 := fun q hq => ⟨(i5 q hq).2.1, by have := (i5 q hq).2.2.2; omega⟩
  obtain ⟨g, hg⟩ : ∃ g, g = if wh = true ∧ fs ≠ 0 then 1 else 0 := ⟨_, rfl⟩
  have hg1 : g ≤ 1 := by rw [hg]; split <;> omega
  -- the class
  obtain ⟨M0, hM0⟩ : ∃ M0, M0 = zu (w3 M 24 o rS rE) (28 + 2 * b) 1 0 := ⟨_, rfl⟩
  have m0 : ∀ k, k ≠ 24 → k ≠ 25 → k ≠ 26 → k ≠ 28 + 2 * b → M0 k = M k := fun k k1 k2 k3 k4 => by rw [hM0, zu_ne _ _ _ k4, w3_ne _ _ _ _ _ k1 (show k ≠ 24 + 1 by omega) (show k ≠ 24 + 2 by omega)]
  have m24 : M0 24 = o := by rw [hM0, zu_ne _ _ _ (by omega), w3_0]
  have m25 : M0 25 = rS := by rw [hM0, zu_ne _ _ _ (by omega)]; exact w3_1 M 24 o rS rE
  have m26 : M0 26 = rE := by rw [hM0, zu_ne _ _ _ (by omega)]; exact w3_2 M 24 o rS rE
  have m1 : M0 1 = M 1 := m0 1 (by omega) (by omega) (by omega) (by omega)
  have m21 : M0 21 = M 21 := m0 21 (by omega) (by omega) (by omega) (by omega)
  have hr : ∀ i q, L[i]? = some q → M0 25 i = nI q.2.1 ∧ M0 26 i = nI (q.2.1 + q.2.2) ∧ 1 ≤ q.2.2 ∧ q.2.1 + q.2.2 ≤ 40 := fun i q hq => by
    obtain ⟨a1, a2⟩ := hLq q (List.mem_of_getElem? hq)
    rw [m25, m26]
    exact ⟨(q5 i q hq).1, (q5 i q hq).2, a1, by omega⟩
  have hB0 : BC M0 b 0 (hw (M0 1 0) (M0 21) L g fs fn) := ⟨by rw [hM0, zu_eq, upd_eq]; rfl, fun i hi => by omega⟩
  have hC : ∃ M', f_ED_proveHistory N (28 + 2 * b) kd (nI e) (nI n) M = some (nI (g + L.length), zu M' 0 13 (nI (g + L.length))) ∧ BC M' b (g + L.length) (hw (M0 1 0) (M0 21) L g fs fn) ∧ Ag (PC b) M0 M' := by
    have hrun : f_ED_proveHistory N (28 + 2 * b) kd (nI e) (nI n) M = (if kd = (2 : Int32) then (if nI fs ≤ 0 then f_ED_proveHistory_b65 N (28 + 2 * b) M0 else (f_Hi_rowDigest N (nI fs) (nI (fs + fn)) M0).bind fun q59 => (f_Bu_append N (28 + 2 * b) q59.1 q59.2).bind fun q62 => f_ED_proveHistory_b65 N (28 + 2 * b) q62.2) else f_ED_proveHistory_b65 N (28 + 2 * b) M0) := by
      have hb17 : ∀ s3 : Int32, s3 = (if (!wh) = true then 1 else 0) → f_ED_proveHistory_b17 N (28 + 2 * b) kd (nI e) (nI n) s3 M = (if kd = (2 : Int32) then (if nI fs ≤ 0 then f_ED_proveHistory_b65 N (28 + 2 * b) M0 else (f_Hi_rowDigest N (nI fs) (nI (fs + fn)) M0).bind fun q59 => (f_Bu_append N (28 + 2 * b) q59.1 q59.2).bind fun q62 => f_ED_proveHistory_b65 N (28 + 2 * b) q62.2) else f_ED_proveHistory_b65 N (28 + 2 * b) M0) := by
        intro s3 hs3
        rw [f_ED_proveHistory_b17, hs3, q1]
        simp only [Option.bind_some, f_Bu_startWith, if_pos (zis_Bu_of hb), zlt]
        rw [← hM0, m24, q3, q4]
      rw [f_ED_proveHistory, if_pos (zis_Bu_of hb)]
      rcases hkd with ⟨k1, k2⟩ | ⟨k1, k2⟩
      · rw [if_pos k1]
        exact hb17 1 (by rw [k2]; rfl)
      · rw [if_neg (by rw [k1]; decide)]
        exact hb17 0 (by rw [k2]; rfl)
    have h65 : ∀ X : zMem, X 24 = o → f_ED_proveHistory_b65 N (28 + 2 * b) X = f_ED_proveHistory_l76 N (28 + 2 * b) N (nI L.length - 1) X := by
      intro X hX
      rw [f_ED_proveHistory_b65]
      simp only [zlt]
      rw [hX, q2]
    rw [hrun]
    by_cases cg : g = 1
    · have hcond : wh = true ∧ fs ≠ 0 := by
        by_cases c : wh = true ∧ fs ≠ 0
        · exact c
        · rw [if_neg c] at hg; omega
      have k2 : kd = 2 := by
        rcases hkd with ⟨k1, k3⟩ | ⟨k1, k3⟩
        · rw [k3] at hcond; exact absurd hcond.1 (by decide)
        · exact k1
      rw [if_pos k2, if_neg (nI_nle (by omega) (by omega))]
      obtain ⟨r', d1⟩ := f_rowDigest hN M0 fs fn (by omega) (by omega)
      have hw1 : rd (zH (M0 1 0) 4) (M0 21) fs fn = hw (M0 1 0) (M0 21) L g fs fn 0 := by rw [hw, if_pos (by omega)]
      rw [d1, hw1]
      simp only [Option.bind_some]
      have hB2 : BC (sr M0 23 r') b 0 (hw (M0 1 0) (M0 21) L g fs fn) := ⟨by rw [sr_ne _ _ (by omega)]; exact hB0.1, fun i hi => by omega⟩
      obtain ⟨M', a1, a2, a3⟩ := app_C (N := N) hb (by decide) hB2
      rw [a1]
      simp only [Option.bind_some]
      have hA' : Ag (PC b) M0 M' := fun k hk => by rw [a3 k (fun q => hk (by unfold PC; omega)), sr_ne _ _ (fun q => hk (Or.inl q))]
      rw [h65 M' (by rw [hA' 24 (by unfold PC; omega), m24])]
      exact his_C hN hb hg1 hlen M0 hr L.length N M' (Nat.le_refl _) (by omega) hA' (by rw [Nat.sub_self, Nat.add_zero, cg]; rw [cg] at a2; exact a2)
    · have g0 : g = 0 := by omega
      have hres := his_C hN hb hg1 hlen M0 hr L.length N M0 (Nat.le_refl _) (by omega) (fun k hk => rfl) (by rw [Nat.sub_self, Nat.add_zero]; rw [g0] at hB0 ⊢; exact hB0)
      rw [← h65 M0 m24] at hres
      by_cases k2 : kd = (2 : Int32)
      · have hwh : wh = true := by
          rcases hkd with ⟨k1, k3⟩ | ⟨k1, k3⟩
          · rw [k1] at k2; exact absurd k2 (by decide)
          · exact k3
        have hfs0 : fs = 0 := by
          rcases Nat.eq_zero_or_pos fs with z | z
          · exact z
          · rw [if_pos ⟨hwh, by omega⟩] at hg; omega
        rw [if_pos k2, if_pos (by rw [hfs0]; decide)]
        exact hres
      · rw [if_neg k2]; exact hres
  obtain ⟨M', hrun, hBC, hAg⟩ := hC
  -- the reference, over the class's end
  obtain ⟨Y, hY⟩ : ∃ Y, Y = zu M' 0 13 (nI (g + L.length)) := ⟨_, rfl⟩
  have y45 : ∀ k, 27 ≤ k → k ≠ 28 + 2 * b → k ≠ 28 + 2 * b + 1 → Y k = M k := fun k k1 k2 k3 => by
    rw [hY, zu_ne _ _ _ (by omega), hAg k (by unfold PC; omega), m0 k (by omega) (by omega) (by omega) (by omega)]
  obtain ⟨o2, a', b', c', p1, p2, p3, p4, p5, p6⟩ := hWY (zu Y 61 b 0)
  obtain ⟨V, hV⟩ : ∃ V, V = v4 (zu Y 61 b 0) o2 a' b' c' := ⟨_, rfl⟩
  have vne : ∀ k, k ≠ 45 → k ≠ 64 → k ≠ 65 → k ≠ 66 → k ≠ 61 → V k = Y k := fun k k1 k2 k3 k4 k5 => by rw [hV, v4_ne _ _ _ _ _ k1 k2 k3 k4, zu_ne _ _ _ k5]
  have v45 : V 45 = o2 := by rw [hV]; rfl
  have v61 : V 61 = upd (Y 61) b 0 := by rw [hV, v4_ne _ _ _ _ _ (by decide) (by decide) (by decide) (by decide), zu_eq]
  have vs : 32 - V 45 0 = M 1 0 := by rw [v45, p5 0 (by decide) (by decide) (by decide), zu_ne _ _ _ (by decide), y45 45 (by decide) (by omega) (by omega)]; exact hI.1.symm
  have vlf : ∀ i, i < n + 1 → lfM V i = M 21 i := fun i hi => by
    rw [← lfM_eq hI.1 hh (show i < E by omega), lfM, lfM, vs, vne 49 (by decide) (by decide) (by decide) (by decide) (by decide), y45 49 (by decide) (by omega) (by omega), hI.1]
  have hr2 : ∀ i q, L[i]? = some q → V 65 i = nI q.2.1 ∧ V 66 i = nI q.2.2 ∧ 1 ≤ q.2.2 ∧ q.2.1 + q.2.2 ≤ 40 := fun i q hq => by
    obtain ⟨a1, a2⟩ := hLq q (List.mem_of_getElem? hq)
    rw [show V 65 = b' by rw [hV]; rfl, show V 66 = c' by rw [hV]; rfl]
    exact ⟨(p6 i q hq).2.1, (p6 i q hq).2.2, a1, by omega⟩
  have hx2 : kd ≠ 0 := by rcases hkd with ⟨k1, -⟩ | ⟨k1, -⟩ <;> rw [k1] <;> decide
  have hBM0 : BM V b 0 (hw (32 - V 45 0) (lfM V) L g fs fn) := ⟨by rw [v61, upd_eq]; rfl, fun i hi => by omega⟩
  have hMo : ∃ M'', f_Mo_prove_b81 N (nI b) kd (nI e) (nI n) Y = some (nI (g + L.length), zu M'' 45 21 (nI (g + L.length))) ∧ BM M'' b (g + L.length) (hw (32 - V 45 0) (lfM V) L g fs fn) ∧ Ag PM V M'' ∧ (∀ b', b' ≠ b → M'' 61 b' = V 61 b') ∧ ∀ i, i < 30 * b ∨ 30 * b + 30 ≤ i → M'' 60 i = V 60 i := by
    have hrun2 : f_Mo_prove_b81 N (nI b) kd (nI e) (nI n) Y = (if kd = (2 : Int32) then (if nI fs ≤ 0 then f_Mo_prove_b158 N (nI b) kd 0 V else (f_Mo_row N (nI fs) (nI fn) V).bind fun q146 => (f_Mo_add N (nI b) q146.1 q146.2).bind fun q155 => f_Mo_prove_b158 N (nI b) kd 0 q155.2) else f_Mo_prove_b158 N (nI b) kd 0 V) := by
      have hb122 : ∀ s3 : Int32, s3 = (if wh = true then 1 else 0) → f_Mo_prove_b122 N (nI b) kd 0 (nI e) (nI n) s3 (zu Y 61 b 0) = (if kd = (2 : Int32) then (if nI fs ≤ 0 then f_Mo_prove_b158 N (nI b) kd 0 V else (f_Mo_row N (nI fs) (nI fn) V).bind fun q146 => (f_Mo_add N (nI b) q146.1 q146.2).bind fun q155 => f_Mo_prove_b158 N (nI b) kd 0 q155.2) else f_Mo_prove_b158 N (nI b) kd 0 V) := by
        intro s3 hs3
        rw [f_Mo_prove_b122, hs3, p1]
        simp only [Option.bind_some]
        rw [← hV, v45, p3, p4]
      rw [f_Mo_prove_b81, if_pos (zin_t hb (by decide)), nI_clamp (show b < 2 ^ 31 by omega)]
      simp only [zlt]
      rw [if_neg hx2]
      rcases hkd with ⟨k1, k2⟩ | ⟨k1, k2⟩
      · rw [if_neg (by rw [k1]; decide)]
        exact hb122 0 (by rw [k2]; rfl)
      · rw [if_pos k1]
        exact hb122 1 (by rw [k2]; rfl)
    have h158 : ∀ X : zMem, X 45 = o2 → f_Mo_prove_b158 N (nI b) kd 0 X = f_Mo_prove_l166 N N (nI b) kd 0 (nI L.length - 1) X := by
      intro X hX
      rw [f_Mo_prove_b158]
      simp only [zlt]
      rw [hX, p2]
    rw [hrun2]
    by_cases cg : g = 1
    · have hcond : wh = true ∧ fs ≠ 0 := by
        by_cases c : wh = true ∧ fs ≠ 0
        · exact c
        · rw [if_neg c] at hg; omega
      have k2 : kd = 2 := by
        rcases hkd with ⟨k1, k3⟩ | ⟨k1, k3⟩
        · rw [k3] at hcond; exact absurd hcond.1 (by decide)
        · exact k1
      rw [if_pos k2, if_neg (nI_nle (by omega) (by omega))]
      obtain ⟨pd, sz, d1⟩ := f_row hN V fs fn (by omega) (by omega)
      have hw1 : rd (zH (32 - V 45 0) 4) (lfM V) fs fn = hw (32 - V 45 0) (lfM V) L g fs fn 0 := by rw [hw, if_pos (by omega)]
      rw [d1, hw1]
      simp only [Option.bind_some]
      have hB2 : BM (s2 V pd sz) b 0 (hw (32 - V 45 0) (lfM V) L g fs fn) := hBM0
      obtain ⟨M', a1, a2, a3, a4, a5⟩ := app_M (N := N) hb (by decide) hB2
      rw [a1]
      simp only [Option.bind_some]
      have hA' : Ag PM V M' := fun k hk => by rw [a3 k (fun q => hk (by unfold PM; omega)), s2_ne _ _ _ (fun q => hk (by unfold PM; omega)) (fun q => hk (by unfold PM; omega))]
      rw [h158 M' (by rw [hA' 45 (by unfold PM; omega), v45])]
      exact his_M hN hb hg1 hlen kd 0 hx2 V hr2 L.length N M' (Nat.le_refl _) (by omega) hA' a4 a5 (by rw [Nat.sub_self, Nat.add_zero, cg]; rw [cg] at a2; exact a2)
    · have g0 : g = 0 := by omega
      have hres := his_M hN hb hg1 hlen kd 0 hx2 V hr2 L.length N V (Nat.le_refl _) (by omega) (fun k hk => rfl) (fun _ _ => rfl) (fun _ _ => rfl) (by rw [Nat.sub_self, Nat.add_zero]; rw [g0] at hBM0 ⊢; exact hBM0)
      rw [← h158 V v45] at hres
      by_cases k2 : kd = (2 : Int32)
      · have hwh : wh = true := by
          rcases hkd with ⟨k1, k3⟩ | ⟨k1, k3⟩
          · rw [k1] at k2; exact absurd k2 (by decide)
          · exact k3
        have hfs0 : fs = 0 := by
          rcases Nat.eq_zero_or_pos fs with z | z
          · exact z
          · rw [if_pos ⟨hwh, by omega⟩] at hg; omega
        rw [if_pos k2, if_pos (by rw [hfs0]; decide)]
        exact hres
      · rw [if_neg k2]; exact hres
  obtain ⟨M'', hrun2, hBM, hAg2, h61, h60⟩ := hMo
  refine ⟨nI (g + L.length), Y, zu M'' 45 21 (nI (g + L.length)), by rw [hrun, hY], hrun2, ?_, y45 45 (by decide) (by omega) (by omega)⟩
  have x1 : ∀ k, k ≠ 45 → k ≠ 60 → k ≠ 61 → k ≠ 62 → k ≠ 63 → k ≠ 64 → k ≠ 65 → k ≠ 66 → zu M'' 45 21 (nI (g + L.length)) k = Y k := fun k k1 k2 k3 k4 k5 k6 k7 k8 => by
    rw [zu_ne _ _ _ k1, hAg2 k (by unfold PM; omega), vne k k1 k6 k7 k8 k3]
  refine Inv_fin hI hb (fun k hk => ?_) (fun j j1 j2 => ?_) (fun j j1 j2 j3 j4 j5 => ?_) ⟨?_, ?_⟩ ?_
  · have hk' : ¬ SP b k := hk
    unfold SP at hk'
    rw [x1 k (by omega) (by omega) (by omega) (by omega) (by omega) (by omega) (by omega) (by omega), hY, zu_ne _ _ _ (by omega), hAg k (by unfold PC; omega), m0 k (by omega) (by omega) (by omega) (by omega)]
  · rw [x1 0 (by decide) (by decide) (by decide) (by decide) (by decide) (by decide) (by decide) (by decide), hY, zu_eq, upd_ne _ _ j1, hAg 0 (by unfold PC; omega), m0 0 (by decide) (by decide) (by decide) (by omega)]
  · rw [zu_eq, upd_ne _ _ j1, hAg2 45 (by unfold PM; omega), v45, p5 j j3 j4 j5, zu_ne _ _ _ (by decide), y45 45 (by decide) (by omega) (by omega)]
  · rw [zu_eq, upd_eq, x1 0 (by decide) (by decide) (by decide) (by decide) (by decide) (by decide) (by decide) (by decide), hY, zu_eq, upd_eq]
  · rw [zu_eq, upd_ne _ _ (by decide), hAg2 45 (by unfold PM; omega), v45, p5 22 (by decide) (by decide) (by decide), zu_ne _ _ _ (by decide), y45 45 (by decide) (by omega) (by omega), x1 0 (by decide) (by decide) (by decide) (by decide) (by decide) (by decide) (by decide) (by decide), hY, zu_eq, upd_ne _ _ (by decide), hAg 0 (by unfold PC; omega), m0 0 (by decide) (by decide) (by decide) (by omega)]
    exact hI.2.2.1.2
  · have hW : ∀ i, i < g + L.length → hw (32 - V 45 0) (lfM V) L g fs fn i = hw (M0 1 0) (M0 21) L g fs fn i := fun i hi => by
      rw [vs, m1, m21]
      exact hw_congr (m := n + 1) vlf (fun _ => by omega) hLq hi
    refine iBufs.setc (W := hw (M0 1 0) (M0 21) L g fs fn) (c := g + L.length) hI.2.2.2.2.2.1 hb (by omega) (fun b' hb' hne => ?_) (fun b' hne => ?_) (fun i hi => ?_) ⟨?_, fun i hi => ?_⟩ ⟨?_, fun i hi => ?_⟩
    · rw [x1 (28 + 2 * b') (by omega) (by omega) (by omega) (by omega) (by omega) (by omega) (by omega) (by omega), x1 (28 + 2 * b' + 1) (by omega) (by omega) (by omega) (by omega) (by omega) (by omega) (by omega) (by omega), y45 (28 + 2 * b') (by omega) (by omega) (by omega), y45 (28 + 2 * b' + 1) (by omega) (by omega) (by omega)]
      exact ⟨rfl, rfl⟩
    · rw [zu_ne _ _ _ (by decide), h61 b' hne, v61, upd_ne _ _ hne, y45 61 (by decide) (by omega) (by omega)]
    · rw [zu_ne _ _ _ (by decide), h60 i hi, vne 60 (by decide) (by decide) (by decide) (by decide) (by decide), y45 60 (by decide) (by omega) (by omega)]
    · rw [x1 (28 + 2 * b) (by omega) (by omega) (by omega) (by omega) (by omega) (by omega) (by omega) (by omega), hY, zu_ne _ _ _ (by omega)]
      exact hBC.1
    · rw [x1 (28 + 2 * b + 1) (by omega) (by omega) (by omega) (by omega) (by omega) (by omega) (by omega) (by omega), hY, zu_ne _ _ _ (by omega)]
      exact hBC.2 i hi
    · rw [zu_ne _ _ _ (by decide)]; exact hBM.1
    · rw [zu_ne _ _ _ (by decide), hBM.2 i hi, hW i hi]
