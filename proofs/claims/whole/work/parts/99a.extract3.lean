/-! extract() whole -/
def acc (s : Int32) (n c : Nat) (w : Nat → Int32) (rt : Int32) : Prop := fmOk c w n ∧ du s n w (c - 3) (c - 3) = rt
theorem acc_congr {s rt : Int32} {n c : Nat} {w w' : Nat → Int32} (h : ∀ i, i < c → w i = w' i) (ha : acc s n c w rt) : acc s n c w' rt := by
  have h3 := ha.1.1
  exact ⟨fmOk_congr h ha.1, by rw [← ha.2]; exact (du_congr (fun i hi => h i (by omega)) _ (Nat.le_refl _)).symm⟩
theorem tr3_congr {s : Int32} {n d i : Nat} {w w' : Nat → Int32} (h : ∀ i, i < d + 3 → w i = w' i) : tr3 s n w d i = tr3 s n w' d i := by
  unfold tr3
  by_cases c : i < d
  · rw [if_pos c, if_pos c, (xy_congr h c).1, (xy_congr h c).2]
  · rw [if_neg c, if_neg c, h 1 (by omega), h 2 (by omega)]
theorem ca {N t b c n : Nat} (hN : 8 ≤ N) (ht : zis_LC t = true) (hb : b < 4) (hn : n < 64) (hc : c ≤ 30) (rt : Int32) {X : zMem} (h1 : X (28 + 2 * b) 1 = nI c) {s : Int32} {w : Nat → Int32} (hs : X 1 0 = s) (hw : X (28 + 2 * b + 1) = w) :
    (¬ acc s n c w rt → ∃ X', f_LC_accepts N t (28 + 2 * b) (nI n) rt X = some (0, X') ∧ Ag (fun k => k = t ∨ k = t + 1) X X') ∧
    (acc s n c w rt → ∃ X', f_LC_accepts N t (28 + 2 * b) (nI n) rt X = some (1, X') ∧ Ag (fun k => k = t ∨ k = t + 1) X X' ∧ X' t 2 = nI (c - 3) ∧ X' t 3 = sy w n ∧ ∀ i, i ≤ c - 3 → (i = c - 3 → w 1 ≠ -1) → r3 (X' (t + 1)) i = tr3 s n w (c - 3) i) := by
  obtain ⟨q0, q1⟩ := acc_C hN ht hb hn hc rt h1
  rw [hw] at q0 q1
  rw [hs] at q1
  refine ⟨fun h => ?_, fun h => ?_⟩
  · by_cases f : fmOk c w n
    · obtain ⟨X', g1, g2, -⟩ := q1 f
      rw [if_neg (fun e => h ⟨f, e⟩)] at g1
      exact ⟨X', g1, g2⟩
    · exact ⟨X, q0 f, fun _ _ => rfl⟩
  · obtain ⟨X', g1, g2, g3, g4, g5, g6⟩ := q1 h.1
    rw [if_pos h.2] at g1
    refine ⟨X', g1, g2, g3, g4, fun i hi hl => ?_⟩
    unfold r3 tr3
    by_cases c' : i < c - 3
    · obtain ⟨a1, a2, a3⟩ := g5 i c'
      rw [if_pos c', a1, a2, a3]
    · have : i = c - 3 := by omega
      obtain ⟨a1, a2, a3⟩ := g6 (hl this)
      rw [if_neg c', this, a1, a2, a3]
theorem ra {N a b c n : Nat} (hN : 8 ≤ N) (ha : a ≤ 7) (hb : b < 4) (hn : n < 64) (hc : c ≤ 30) (rt : Int32) {X : zMem} (h1 : X 61 b = nI c) {s : Int32} {w : Nat → Int32} (hs : 32 - X 45 0 = s) (hw : ∀ i, i < c → w i = X 60 (30 * b + i)) :
    (¬ acc s n c w rt → ∃ X', f_Mo_accepted N (nI b) (nI n) rt (nI a) X = some (0, X') ∧ Ag (fun k => k = 67 ∨ k = 68 ∨ k = 69) X X') ∧
    (acc s n c w rt → ∃ X', f_Mo_accepted N (nI b) (nI n) rt (nI a) X = some (1, X') ∧ Ag (fun k => k = 67 ∨ k = 68 ∨ k = 69) X X' ∧ (∀ i, i ≤ c - 3 → (i = c - 3 → w 1 ≠ -1) → m3 X' (a + i) = tr3 s n w (c - 3) i) ∧ ∀ i, i < a → m3 X' i = m3 X i) := by
  obtain ⟨q0, q1⟩ := acc_M (N := N) (a := a) hN ha hb hn hc rt h1 (fun _ => rfl)
  rw [hs] at q1
  refine ⟨fun h => ?_, fun h => ?_⟩
  · by_cases f : fmOk c (fun i => X 60 (30 * b + i)) n
    · obtain ⟨X', g1, g2, -⟩ := q1 f
      rw [if_neg (fun e => h (acc_congr (w := fun i => X 60 (30 * b + i)) (fun i hi => (hw i hi).symm) ⟨f, e⟩))] at g1
      exact ⟨X', g1, g2⟩
    · exact ⟨X, q0 f, fun _ _ => rfl⟩
  · have h' : acc s n c (fun i => X 60 (30 * b + i)) rt := acc_congr hw h
    have h3 := h.1.1
    obtain ⟨X', g1, g2, g5, g6, g7⟩ := q1 h'.1
    rw [if_pos h'.2] at g1
    refine ⟨X', g1, g2, fun i hi hl => ?_, fun i hi => by unfold m3; rw [(g7 i hi).1, (g7 i hi).2.1, (g7 i hi).2.2]⟩
    rw [tr3_congr (w := w) (w' := fun i => X 60 (30 * b + i)) (fun i hi => hw i (by omega))]
    unfold m3 tr3
    by_cases c' : i < c - 3
    · obtain ⟨a1, a2, a3⟩ := g5 i c'
      rw [if_pos c', a1, a2, a3]
    · have e : i = c - 3 := by omega
      obtain ⟨a1, a2, a3⟩ := g6
      rw [if_neg (show ¬ X 60 (30 * b + 1) = -1 by rw [← hw 1 (by omega)]; exact hl e)] at a1
      rw [if_neg c', e, a1, a2, a3]
theorem ok_extract {N : Nat} (hN : 8 ≤ N) (x y z rt : Int32) : Ok2 (f_ED_extract N x y z rt) (f_Mo_extract N x y z rt) := by
  intro M hI
  have hb := hI.2.2.2.2.2.1
  have h0 : (0 : Int32) = nI 0 := rfl
  have h7 : (7 : Int32) = nI 7 := rfl
  -- what is left where nothing is taken out
  have fin0 : ∀ X1 X2 : zMem, Ag (fun k => 36 ≤ k ∧ k ≤ 39) M X1 → Ag (fun k => k = 67 ∨ k = 68 ∨ k = 69) X1 X2 → Inv X2 := fun X1 X2 a1 a2 => Inv_free hI (fun k hk => by
    rw [a2 k (fun e => hk (by unfold FP; omega)), a1 k (fun e => hk (by unfold FP; omega))]) (fun i hi => by
      rw [a2 70 (by omega), a1 70 (by omega), a2 44 (by omega), a1 44 (by omega)]; exact hI.2.2.2.2.1 i hi)
  rcases buf_cases x with hx | ⟨b, hb4, rfl⟩
  · refine ⟨0, M, M, ?_, ?_, hI⟩
    · rw [f_ED_extract, f_bufferAt_no hx, Option.bind_some, zcs]
      rcases buf_cases y with hy | ⟨c, hc4, rfl⟩
      · rw [f_bufferAt_no hy]; rfl
      · rw [f_bufferAt_at hc4, Option.bind_some, zcs, if_pos (zis_Bu_of hc4)]
    · rw [f_Mo_extract, acc_no (Or.inl hx), Option.bind_some, if_pos rfl]
  · rcases name_cases z with hz | ⟨n, hn, rfl⟩
    · refine ⟨0, M, M, ?_, ?_, hI⟩
      · rw [f_ED_extract, f_bufferAt_at hb4, Option.bind_some, zcs, if_pos (zis_Bu_of hb4)]
        rcases buf_cases y with hy | ⟨c, hc4, rfl⟩
        · rw [f_bufferAt_no hy]; rfl
        · rw [f_bufferAt_at hc4, Option.bind_some, zcs, if_pos (zis_Bu_of hc4), (f_isName_no hz).1, Option.bind_some, if_pos rfl]
      · rw [f_Mo_extract, acc_no (Or.inr hz), Option.bind_some, if_pos rfl]
    · obtain ⟨p1, cb, p2, p3, p4⟩ := hb.get hb4
      have p5 : M 61 b = nI cb := by rw [p1]; exact p3
      have hs : 32 - M 45 0 = M 1 0 := hI.1.symm
      rcases buf_cases y with hy | ⟨c, hc4, rfl⟩
      · -- the second buffer isn't there
        obtain ⟨r0, r1⟩ := ra (N := N) (a := 0) hN (by decide) hb4 hn p2 rt p5 hs p4
        by_cases A : acc (M 1 0) n cb (M (28 + 2 * b + 1)) rt
        · obtain ⟨X', g1, g2, -⟩ := r1 A
          refine ⟨0, M, X', ?_, ?_, fin0 M X' (fun _ _ => rfl) g2⟩
          · rw [f_ED_extract, f_bufferAt_at hb4, Option.bind_some, zcs, if_pos (zis_Bu_of hb4), f_bufferAt_no hy]; rfl
          · rw [f_Mo_extract, h0, g1, Option.bind_some, if_neg (show ¬ (1 : Int32) = nI 0 by decide), acc_no (Or.inl hy), Option.bind_some, if_pos (show (0 : Int32) = nI 0 from rfl)]
        · obtain ⟨X', g1, g2⟩ := r0 A
          refine ⟨0, M, X', ?_, ?_, fin0 M X' (fun _ _ => rfl) g2⟩
          · rw [f_ED_extract, f_bufferAt_at hb4, Option.bind_some, zcs, if_pos (zis_Bu_of hb4), f_bufferAt_no hy]; rfl
          · rw [f_Mo_extract, h0, g1, Option.bind_some, if_pos (show (0 : Int32) = nI 0 from rfl)]
      · obtain ⟨o1, cc, o2, o3, o4⟩ := hb.get hc4
        have o5 : M 61 c = nI cc := by rw [o1]; exact o3
        have hf : f_ED_extract N (nI b) (nI c) (nI n) rt M = (f_LC_accepts N 36 (28 + 2 * b) (nI n) rt M).bind fun q42 => (if q42.1 = 0 then some ((0 : Int32), q42.2) else (f_LC_accepts N 38 (28 + 2 * c) (nI n) rt q42.2).bind fun q57 => (if q57.1 = 0 then some ((0 : Int32), q57.2) else (if (q57.2 36 3) = (q57.2 38 3) then some ((0 : Int32), q57.2) else (f_ED_takeOutFirstDifference N q57.2).bind fun q81 => (if q81.1 = 0 then some ((0 : Int32), q81.2) else some ((1 : Int32), q81.2))))) := by
          rw [f_ED_extract, f_bufferAt_at hb4, Option.bind_some, zcs, if_pos (zis_Bu_of hb4), f_bufferAt_at hc4, Option.bind_some, zcs, if_pos (zis_Bu_of hc4), (f_isName_at hn).1, Option.bind_some, if_neg (show ¬ (1 : Int32) = 0 by decide)]
        obtain ⟨c0, c1⟩ := ca (N := N) (t := 36) hN (by decide) hb4 hn p2 rt p3 (s := M 1 0) rfl rfl
        by_cases A : acc (M 1 0) n cb (M (28 + 2 * b + 1)) rt
        · obtain ⟨X1, g1, g2, g3, g4, g5⟩ := c1 A
          have e1 : ∀ k, k ≠ 36 → k ≠ 37 → X1 k = M k := fun k a1 a2 => g2 k (by omega)
          obtain ⟨d0, d1⟩ := ca (N := N) (t := 38) (X := X1) hN (by decide) hc4 hn o2 rt (by rw [e1 _ (by omega) (by omega)]; exact o3) (s := M 1 0) (w := M (28 + 2 * c + 1)) (by rw [e1 1 (by decide) (by decide)]) (by rw [e1 _ (by omega) (by omega)])
          by_cases B : acc (M 1 0) n cc (M (28 + 2 * c + 1)) rt
          · obtain ⟨X2, k1, k2, k3, k4, k5⟩ := d1 B
            have e2 : ∀ k, k < 36 ∨ 39 < k → X2 k = M k := fun k hk => by rw [k2 k (by omega), e1 k (by omega) (by omega)]
            have x36 : X2 36 = X1 36 := k2 36 (by omega)
            have x37 : X2 37 = X1 37 := k2 37 (by omega)
            have hAg : Ag (fun k => 36 ≤ k ∧ k ≤ 39) M X2 := fun k hk => e2 k (by omega)
            by_cases S : sy (M (28 + 2 * b + 1)) n = sy (M (28 + 2 * c + 1)) n
            · obtain ⟨Y1, r1, r2, r3', r4⟩ := (ra (N := N) (a := 0) (X := X2) hN (by decide) hb4 hn p2 rt (by rw [e2 61 (by decide)]; exact p5) (s := M 1 0) (by rw [e2 45 (by decide)]; exact hs) (w := M (28 + 2 * b + 1)) (fun i hi => by rw [e2 60 (by decide)]; exact p4 i hi)).2 A
              have y1 : ∀ k, k < 67 → Y1 k = X2 k := fun k hk => r2 k (by omega)
              obtain ⟨Y2, t1, t2, t3, t4⟩ := (ra (N := N) (a := 7) (X := Y1) hN (by decide) hc4 hn o2 rt (by rw [y1 61 (by decide), e2 61 (by decide)]; exact o5) (s := M 1 0) (by rw [y1 45 (by decide), e2 45 (by decide)]; exact hs) (w := M (28 + 2 * c + 1)) (fun i hi => by rw [y1 60 (by decide), e2 60 (by decide)]; exact o4 i hi)).2 B
              have y2 : Y2 60 = M 60 := by rw [t2 60 (by omega), y1 60 (by decide), e2 60 (by decide)]
              refine ⟨0, X2, Y2, ?_, ?_, fin0 X2 Y2 hAg (fun k hk => by rw [t2 k hk, r2 k hk])⟩
              · rw [hf, g1, Option.bind_some, if_neg (show ¬ (1 : Int32) = 0 by decide), k1, Option.bind_some, if_neg (show ¬ (1 : Int32) = 0 by decide), if_pos (show X2 36 3 = X2 38 3 by rw [x36, g4, k4, S])]
              · have sb : (if Y2 60 (30 * b + 1) = nI n then Y2 60 (30 * b + 2) else 0) = sy (M (28 + 2 * b + 1)) n := by rw [y2, ← p4 1 (by have := A.1.1; omega), ← p4 2 (by have := A.1.1; omega)]; rfl
                have sc : (if Y2 60 (30 * c + 1) = nI n then Y2 60 (30 * c + 2) else 0) = sy (M (28 + 2 * c + 1)) n := by rw [y2, ← o4 1 (by have := B.1.1; omega), ← o4 2 (by have := B.1.1; omega)]; rfl
                rw [f_Mo_extract, h0, h7, r1, Option.bind_some, if_neg (show ¬ (1 : Int32) = nI 0 by decide), t1, Option.bind_some, if_neg (show ¬ (1 : Int32) = nI 0 by decide), f_says hb4, Option.bind_some, f_says hc4, Option.bind_some]
                exact if_pos (show (if Y2 60 (30 * b + 1) = nI n then Y2 60 (30 * b + 2) else 0) = (if Y2 60 (30 * c + 1) = nI n then Y2 60 (30 * c + 2) else 0) by rw [sb, sc, S])
            · obtain ⟨i, i1, i2, i3, i4, i5, i6⟩ := diff_ex hn (A.2.trans B.2.symm) S
              have bA := A.1.2.1
              have bB := B.1.2.1
              have R1 : ∀ j, j ≤ i → r3 (X2 37) j = tr3 (M 1 0) n (M (28 + 2 * b + 1)) (cb - 3) j := fun j hj => by
                rw [x37]
                exact g5 j (by omega) (fun e => i5 (by omega))
              have R2 : ∀ j, j ≤ i → r3 (X2 39) j = tr3 (M 1 0) n (M (28 + 2 * c + 1)) (cc - 3) j := fun j hj => k5 j (by omega) (fun e => i6 (by omega))
              obtain ⟨X3, hX3⟩ : ∃ X3, X3 = s6 X2 44 (r3 (X2 37) i) (r3 (X2 39) i) := ⟨_, rfl⟩
              have n3 : ∀ k, k ≠ 44 → X3 k = X2 k := fun k hk => by rw [hX3]; exact s6_ne _ _ _ hk
              have e3 : ∀ k, 44 < k → X3 k = M k := fun k hk => by rw [n3 k (by omega), e2 k (by omega)]
              have tk : f_ED_takeOutFirstDifference N X2 = some (1, X3) := by
                have dm : (if X2 38 2 < X2 36 2 then X2 38 2 else X2 36 2) = nI (min (cb - 3) (cc - 3)) := by
                  rw [x36, g3, k3]
                  by_cases q : cc - 3 < cb - 3
                  · rw [if_pos (nI_lt q (by omega)), Nat.min_eq_right (by omega)]
                  · rw [if_neg (by rw [nI_ltI (by omega) (by omega)]; exact q), Nat.min_eq_left (by omega)]
                rw [f_ED_takeOutFirstDifference, zlt_eq, dm, h0, take_C (by omega) X2 (show i ≤ min (cb - 3) (cc - 3) by omega) (by omega) (fun j hj => by rw [R1 j (by omega), R2 j (by omega)]; exact i3 j hj) (by rw [R1 i (Nat.le_refl _), R2 i (Nat.le_refl _)]; exact i4) i 0 N (by omega) (by omega), hX3]
              obtain ⟨Y1, r1, r2, r3', r4⟩ := (ra (N := N) (a := 0) (X := X3) hN (by decide) hb4 hn p2 rt (by rw [e3 61 (by decide)]; exact p5) (s := M 1 0) (by rw [e3 45 (by decide)]; exact hs) (w := M (28 + 2 * b + 1)) (fun i hi => by rw [e3 60 (by decide)]; exact p4 i hi)).2 A
              have y1 : ∀ k, k < 67 → Y1 k = X3 k := fun k hk => r2 k (by omega)
              obtain ⟨Y2, t1, t2, t3, t4⟩ := (ra (N := N) (a := 7) (X := Y1) hN (by decide) hc4 hn o2 rt (by rw [y1 61 (by decide), e3 61 (by decide)]; exact o5) (s := M 1 0) (by rw [y1 45 (by decide), e3 45 (by decide)]; exact hs) (w := M (28 + 2 * c + 1)) (fun i hi => by rw [y1 60 (by decide), e3 60 (by decide)]; exact o4 i hi)).2 B
              have y2 : Y2 60 = M 60 := by rw [t2 60 (by omega), y1 60 (by decide), e3 60 (by decide)]
              have Q1 : ∀ j, j ≤ i → m3 Y2 j = tr3 (M 1 0) n (M (28 + 2 * b + 1)) (cb - 3) j := fun j hj => by
                rw [t4 j (by omega)]
                have := r3' j (by omega) (fun e => i5 (by omega))
                rw [Nat.zero_add] at this
                exact this
              have Q2 : ∀ j, j ≤ i → m3 Y2 (7 + j) = tr3 (M 1 0) n (M (28 + 2 * c + 1)) (cc - 3) j := fun j hj => t3 j (by omega) (fun e => i6 (by omega))
              refine ⟨1, X3, s6 Y2 70 (m3 Y2 i) (m3 Y2 (7 + i)), ?_, ?_, ?_⟩
              · rw [hf, g1, Option.bind_some, if_neg (show ¬ (1 : Int32) = 0 by decide), k1, Option.bind_some, if_neg (show ¬ (1 : Int32) = 0 by decide), if_neg (show ¬ X2 36 3 = X2 38 3 by rw [x36, g4, k4]; exact S), tk, Option.bind_some, if_neg (show ¬ (1 : Int32) = 0 by decide)]
              · have sb : (if Y2 60 (30 * b + 1) = nI n then Y2 60 (30 * b + 2) else 0) = sy (M (28 + 2 * b + 1)) n := by rw [y2, ← p4 1 (by have := A.1.1; omega), ← p4 2 (by have := A.1.1; omega)]; rfl
                have sc : (if Y2 60 (30 * c + 1) = nI n then Y2 60 (30 * c + 2) else 0) = sy (M (28 + 2 * c + 1)) n := by rw [y2, ← o4 1 (by have := B.1.1; omega), ← o4 2 (by have := B.1.1; omega)]; rfl
                rw [f_Mo_extract, h0, h7, r1, Option.bind_some, if_neg (show ¬ (1 : Int32) = nI 0 by decide), t1, Option.bind_some, if_neg (show ¬ (1 : Int32) = nI 0 by decide), f_says hb4, Option.bind_some, f_says hc4, Option.bind_some]
                exact (if_neg (show ¬ (if Y2 60 (30 * b + 1) = nI n then Y2 60 (30 * b + 2) else 0) = (if Y2 60 (30 * c + 1) = nI n then Y2 60 (30 * c + 2) else 0) by rw [sb, sc]; exact S)).trans (take_M Y2 (by omega) (fun j hj => by rw [Q1 j (by omega), Q2 j (by omega)]; exact i3 j hj) (by rw [Q1 i (Nat.le_refl _), Q2 i (Nat.le_refl _)]; exact i4) i 0 N (by omega) (by omega))
              · refine Inv_free hI (fun k hk => ?_) (fun j hj => ?_)
                · rw [s6_ne _ _ _ (fun e => hk (by unfold FP; omega)), t2 k (fun e => hk (by unfold FP; omega)), r2 k (fun e => hk (by unfold FP; omega)), n3 k (fun e => hk (by unfold FP; omega)), e2 k (Decidable.byContradiction fun q => hk (by unfold FP; omega))]
                · rw [s6_at _ _ _ _ j hj, s6_ne _ _ _ (by decide), t2 44 (by omega), r2 44 (by omega), hX3, s6_at _ _ _ _ j hj, Q1 i (Nat.le_refl _), Q2 i (Nat.le_refl _), R1 i (Nat.le_refl _), R2 i (Nat.le_refl _)]
          · obtain ⟨X2, k1, k2⟩ := d0 B
            have e2 : ∀ k, k < 36 ∨ 39 < k → X2 k = M k := fun k hk => by rw [k2 k (by omega), e1 k (by omega) (by omega)]
            obtain ⟨Y1, r1, r2, r3', r4⟩ := (ra (N := N) (a := 0) (X := X2) hN (by decide) hb4 hn p2 rt (by rw [e2 61 (by decide)]; exact p5) (s := M 1 0) (by rw [e2 45 (by decide)]; exact hs) (w := M (28 + 2 * b + 1)) (fun i hi => by rw [e2 60 (by decide)]; exact p4 i hi)).2 A
            have y1 : ∀ k, k < 67 → Y1 k = X2 k := fun k hk => r2 k (by omega)
            obtain ⟨Y2, t1, t2⟩ := (ra (N := N) (a := 7) (X := Y1) hN (by decide) hc4 hn o2 rt (by rw [y1 61 (by decide), e2 61 (by decide)]; exact o5) (s := M 1 0) (by rw [y1 45 (by decide), e2 45 (by decide)]; exact hs) (w := M (28 + 2 * c + 1)) (fun i hi => by rw [y1 60 (by decide), e2 60 (by decide)]; exact o4 i hi)).1 B
            refine ⟨0, X2, Y2, ?_, ?_, fin0 X2 Y2 (fun k hk => e2 k (by omega)) (fun k hk => by rw [t2 k hk, r2 k hk])⟩
            · rw [hf, g1, Option.bind_some, if_neg (show ¬ (1 : Int32) = 0 by decide), k1, Option.bind_some, if_pos rfl]
            · rw [f_Mo_extract, h0, h7, r1, Option.bind_some, if_neg (show ¬ (1 : Int32) = nI 0 by decide), t1, Option.bind_some, if_pos (show (0 : Int32) = nI 0 from rfl)]
        · obtain ⟨X1, g1, g2⟩ := c0 A
          have e2 : ∀ k, k < 36 ∨ 39 < k → X1 k = M k := fun k hk => g2 k (by omega)
          obtain ⟨Y1, r1, r2⟩ := (ra (N := N) (a := 0) (X := X1) hN (by decide) hb4 hn p2 rt (by rw [e2 61 (by decide)]; exact p5) (s := M 1 0) (by rw [e2 45 (by decide)]; exact hs) (w := M (28 + 2 * b + 1)) (fun i hi => by rw [e2 60 (by decide)]; exact p4 i hi)).1 A
          refine ⟨0, X1, Y1, ?_, ?_, fin0 X1 Y1 (fun k hk => e2 k (by omega)) r2⟩
          · rw [hf, g1, Option.bind_some, if_pos rfl]
          · rw [f_Mo_extract, h0, h7, r1, Option.bind_some, if_pos (show (0 : Int32) = nI 0 from rfl)]
