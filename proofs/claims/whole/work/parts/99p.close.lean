/-! close() on both -/
theorem iBufs_ag {M X : zMem} (h : iBufs M) (g : ∀ k, ((28 ≤ k ∧ k ≤ 35) ∨ k = 60 ∨ k = 61) → X k = M k) : iBufs X := by
  unfold iBufs
  rw [g 28 (by omega), g 29 (by omega), g 30 (by omega), g 31 (by omega), g 32 (by omega), g 33 (by omega), g 34 (by omega), g 35 (by omega), g 60 (by omega), g 61 (by omega)]
  exact h
theorem nz_zero {f : Nat → Int32} : ∀ n, (∀ i, i < n → f i = 0) → nz f n = 0
  | 0, _ => rfl
  | n + 1, h => by rw [nz, nz_zero n (fun i hi => h i (by omega)), if_pos (h n (by omega))]
theorem bkd_ne (m : Nat → Int32) (h : Nat) : bkd m h ≠ 3 := by
  unfold bkd
  by_cases c : cT m h = 1
  · rw [if_pos c]; decide
  · rw [if_neg c]; decide
theorem LL_blT {s : Int32} {m ok ck' la : Nat → Int32} {Nb C' : Nat} {k f g dg : Nat → Int32} (hm : ∀ n, n < 64 → m n = ck' n) (ht : trOk s C' k f g dg m (Bv m ok la Nb)) : trOk s C' k f g dg ck' (blT ck' (LL m la Nb (Wn (fun x => nd m x && tT ok x)) (Wl (fun x => nd m x && tT ok x)).length)) := by
  refine trOk_bl (fun h h1 h2 hr => ?_) (trOk_map hm ht)
  obtain ⟨e1, e2, -⟩ := tree_map s hm h1 h2
  rw [blT_eq]
  by_cases z : cT m h = 0
  · rw [if_pos (by omega), Bv_no z]
  · have hr' : h = 1 ∨ 2 ≤ cT m (h / 2) := by
      by_cases q : h = 1
      · exact Or.inl q
      · rw [(tree_map s hm (x := h / 2) (by omega) (by omega)).1]; exact hr
    have hn : nd m h = true := nd_iff.mpr ⟨by omega, hr'⟩
    rw [if_neg (by omega), ← pl_same e1 e2]
    exact (LL_eq _ h (Nat.le_refl _) h1 h2 hn (fun t => (rk_W (wr := fun x => nd m x && tT ok x) h1 h2 (by rw [hn, t]; rfl)).2)).symm
/-- stopped while writing -/
theorem Inv_stop {M X Z : zMem} {E Nb F : Nat} (hI : Inv M) (e1 : E ≤ 40) (e2 : M 18 6 = nI E) (e3 : M 45 4 = nI E) (b4 : Nb = 0 ∨ M 6 (Nb - 1) = 3) (e6 : M 5 8 = nI Nb) (hF : Nb + F ≤ 300) (mapI : iMap E (M 3) (M 4) (M 47) (M 48) (M 46) (M 2 2) (M 2 3)) (b6 : ∀ i, i < Nb → M 53 i = M 6 i ∧ M 54 i = M 7 i ∧ M 55 i = M 8 i) (histI : iHist (M 1 0) E (M 20) (M 21) (M 22) (M 49)) (treeI : iTree (M 1 0) E Nb (M 6) (M 7) (M 8) (M 9) (M 46) (M 19) (M 20) (M 11) (M 57) (M 56) (M 3))
    {m ok la : Nat → Int32} (hS : cS (M 1 0) m (Bv m ok la Nb) (Wn (fun x => nd m x && tT ok x)) Nb F M X) (hR : rA m ok la Nb E F X Z) : Inv Z := by
  obtain ⟨i1, -, i3, i4, i5, i6, -⟩ := hI
  obtain ⟨⟨c1, c2, c3, c4, -⟩, cA, c11, c12, c0, cc2, cc4⟩ := hS
  obtain ⟨rF, r45, r9, r17, r18, r53, rw', r47⟩ := hR
  obtain ⟨m1, m2, m3, m4⟩ := mapI
  obtain ⟨t1, t2, t3, t4⟩ := treeI
  have lo : ∀ k, k < 45 → Z k = X k := fun k hk => rF k (by omega) (by omega) (by omega) (by omega) (by omega) (by omega)
  have z0 := lo 0 (by decide)
  have zX : ∀ k, k ≠ 0 → k ≠ 2 → k ≠ 4 → ¬ (5 ≤ k ∧ k ≤ 10) → k < 45 → Z k = M k := fun k k1 k2 k3 k4 k5 => by rw [lo k k5, cA k k1 k2 k3 k4]
  have zH : ∀ k, k ≠ 45 → k ≠ 47 → k ≠ 48 → ¬ (50 ≤ k ∧ k ≤ 55) → k ≠ 58 → k ≠ 59 → 45 ≤ k → Z k = M k := fun k k1 k2 k3 k4 k5 k6 k7 => by rw [rF k k1 k2 k3 k4 k5 k6, cA k (by omega) (by omega) (by omega) (by omega)]
  have z45 : ∀ i, i ≠ 9 → i ≠ 17 → i ≠ 18 → Z 45 i = M 45 i := fun i q1 q2 q3 => by rw [r45 i q1 q2 q3, cA 45 (by decide) (by decide) (by decide) (by decide)]
  have z0' : ∀ i, i ≠ 11 → i ≠ 12 → Z 0 i = M 0 i := fun i q1 q2 => by rw [z0, c0 i q1 q2]
  have blk : ∀ i, i < Nb → Z 6 i = M 6 i ∧ Z 7 i = M 7 i ∧ Z 8 i = M 8 i ∧ Z 9 i = M 9 i := fun i hi => by
    rw [lo 6 (by decide), lo 7 (by decide), lo 8 (by decide), lo 9 (by decide)]; exact c3 i hi
  have z1 : Z 1 0 = M 1 0 := by rw [zX 1 (by decide) (by decide) (by decide) (by decide) (by decide)]
  refine ⟨by rw [z1, z45 0 (by decide) (by decide) (by decide)]; exact i1, ⟨?_, ?_, Or.inr (by rw [z0]; exact c11), 0, by omega, by rw [z0]; exact c12⟩, ?_, ?_, ?_, iBufs_ag i6 (fun k hk => ?_), E, Nb + F, Nb, e1, ?_, ?_, ?_, ?_, ?_, ?_, ?_, ?_, ?_⟩
  · rw [z0, c11, r18]
  · rw [z0, c12, r17]; rfl
  · rw [z45 21 (by decide) (by decide) (by decide), z45 22 (by decide) (by decide) (by decide), z0' 13 (by decide) (by decide), z0' 14 (by decide) (by decide)]; exact i3
  · rw [z45 31 (by decide) (by decide) (by decide), z45 32 (by decide) (by decide) (by decide), z0' 15 (by decide) (by decide), z0' 16 (by decide) (by decide), z0' 17 (by decide) (by decide)]; exact i4
  · rw [zH 70 (by decide) (by decide) (by decide) (by decide) (by decide) (by decide) (by decide), zX 44 (by decide) (by decide) (by decide) (by decide) (by decide)]; exact i5
  · by_cases q : k < 45
    · exact zX k (by omega) (by omega) (by omega) (by omega) q
    · exact zH k (by omega) (by omega) (by omega) (by omega) (by omega) (by omega) (by omega)
  · rw [zX 18 (by decide) (by decide) (by decide) (by decide) (by decide)]; exact e2
  · rw [z45 4 (by decide) (by decide) (by decide)]; exact e3
  · rw [lo 5 (by decide)]; exact c1
  · exact r9
  · rw [lo 5 (by decide), c2]; exact e6
  · rw [zX 3 (by decide) (by decide) (by decide) (by decide) (by decide), zH 46 (by decide) (by decide) (by decide) (by decide) (by decide) (by decide) (by decide)]
    refine ⟨fun n hn => ⟨fun _ => ?_, fun q => absurd (by rw [lo 4 (by decide)]; exact cc4 n hn) q⟩, m2, ?_, ?_⟩
    · obtain ⟨q1, q2⟩ := r47 n hn
      rw [q1, q2, m2 n hn, cA 46 (by decide) (by decide) (by decide) (by decide)]
      exact ⟨rfl, rfl⟩
    · rw [lo 2 (by decide), cc2, upd_ne _ _ (by decide)]; exact m3
    · rw [lo 2 (by decide), cc2, upd_eq, nz_zero 64 (fun i hi => by rw [lo 4 (by decide)]; exact cc4 i hi)]; rfl
  · refine ⟨hF, by omega, fun q => absurd q (by rw [z0, c11]; decide), ?_, fun i q1 q2 => ?_, fun i hi => ?_⟩
    · rcases b4 with b4 | b4
      · exact Or.inl b4
      · by_cases q : Nb = 0
        · exact Or.inl q
        · exact Or.inr (by rw [(blk (Nb - 1) (by omega)).1]; exact b4)
    · have w := (c4 (i - Nb) (by omega)).1
      rw [show Nb + (i - Nb) = i by omega] at w
      rw [lo 6 (by decide), w]
      exact bkd_ne _ _
    · by_cases q : i < Nb
      · obtain ⟨q1, q2, q3, -⟩ := blk i q
        obtain ⟨p1, p2, p3⟩ := r53 i q
        rw [p1, p2, p3, q1, q2, q3, cA 53 (by decide) (by decide) (by decide) (by decide), cA 54 (by decide) (by decide) (by decide) (by decide), cA 55 (by decide) (by decide) (by decide) (by decide)]
        exact b6 i q
      · obtain ⟨q1, q2, q3⟩ := c4 (i - Nb) (by omega)
        obtain ⟨p1, p2, p3⟩ := rw' (i - Nb) (by omega)
        rw [show Nb + (i - Nb) = i by omega] at p1 p2 p3 q1 q2 q3
        rw [p1, p2, p3, lo 6 (by decide), lo 7 (by decide), lo 8 (by decide), q1, q2, q3]
        exact ⟨rfl, rfl, rfl⟩
  · rw [z1, zX 20 (by decide) (by decide) (by decide) (by decide) (by decide), zX 21 (by decide) (by decide) (by decide) (by decide) (by decide), zX 22 (by decide) (by decide) (by decide) (by decide) (by decide), zH 49 (by decide) (by decide) (by decide) (by decide) (by decide) (by decide) (by decide)]
    exact histI
  · rw [z1, zX 19 (by decide) (by decide) (by decide) (by decide) (by decide), zX 20 (by decide) (by decide) (by decide) (by decide) (by decide), zX 11 (by decide) (by decide) (by decide) (by decide) (by decide), zX 3 (by decide) (by decide) (by decide) (by decide) (by decide), zH 46 (by decide) (by decide) (by decide) (by decide) (by decide) (by decide) (by decide), zH 56 (by decide) (by decide) (by decide) (by decide) (by decide) (by decide) (by decide), zH 57 (by decide) (by decide) (by decide) (by decide) (by decide) (by decide) (by decide)]
    refine ⟨fun e he => ?_, trOk_mem (Nat.le_refl _) blk t2, t3, t4⟩
    obtain ⟨a, bl, b, c⟩ := t1 e he
    exact ⟨a, bl, b, trOk_mem (Nat.le_refl _) blk c⟩
/-- closed whole -/
theorem Inv_whole {M X Z : zMem} {E Nb F : Nat} (hI : Inv M) (e1 : E < 40) (hF : F ≤ 100) (b6 : ∀ i, i < Nb → M 53 i = M 6 i ∧ M 54 i = M 7 i ∧ M 55 i = M 8 i) (histI : iHist (M 1 0) E (M 20) (M 21) (M 22) (M 49)) (treeI : iTree (M 1 0) E Nb (M 6) (M 7) (M 8) (M 9) (M 46) (M 19) (M 20) (M 11) (M 57) (M 56) (M 3))
    {m ok : Nat → Int32} (hm : ∀ n, n < 64 → m n = if ok n = 0 then M 3 n else ok n) (hNb : Nb + (Wl (fun x => nd m x && tT ok x)).length + 1 ≤ 300) (hE : cE (M 1 0) m ok (M 11) Nb E M X) (hfl : (F = (Wl (fun x => nd m x && tT ok x)).length + 1 ∧ X 0 11 = 1 ∧ X 0 12 = nI 0) ∨ (F ≠ (Wl (fun x => nd m x && tT ok x)).length + 1 ∧ X 0 11 = 0 ∧ X 0 12 = nI (F - ((Wl (fun x => nd m x && tT ok x)).length + 1)))) (hR : rE (M 1 0) m ok (M 11) Nb E F X Z) : Inv Z := by
  obtain ⟨i1, -, i3, i4, i5, i6, -⟩ := hI
  obtain ⟨t1, t2, t3, t4⟩ := treeI
  have hs : ∀ n, n < 64 → ok n = 0 → m n = M 3 n := fun n hn z => by rw [hm n hn, if_pos z]
  obtain ⟨cA, c0, c3, c22, c23, c4, c57, c58, cb, cw, cd, ⟨k1, k2, k3⟩, c11, c18, c19, c20, c21, c22'⟩ := hE
  obtain ⟨rF, r45, r4, r9, r17, r18, r53, rw', ⟨l1, l2, l3⟩, r57, r56, r46, r46', r49, r47⟩ := hR
  obtain ⟨K, hK⟩ : ∃ K, K = (Wl (fun x => nd m x && tT ok x)).length := ⟨_, rfl⟩
  rw [← hK] at hNb hfl c57 c58 cw cd k1 k2 k3 r9 r17 r18 rw' l1 l2 l3
  have lo : ∀ k, k < 45 → Z k = X k := fun k hk => rF k (by omega)
  have z0 := lo 0 (by decide)
  have zX : ∀ k, k ≠ 0 → ¬ (2 ≤ k ∧ k ≤ 11) → ¬ (18 ≤ k ∧ k ≤ 23) → ¬ (45 ≤ k ∧ k ≤ 59) → Z k = M k := fun k q0 q1 q2 q3 => by rw [rF k q3, cA k q0 q1 q2]
  have xM : ∀ k, 45 ≤ k → X k = M k := fun k hk => cA k (by omega) (by omega) (by omega)
  have z45 : ∀ i, i ≠ 4 → i ≠ 9 → i ≠ 17 → i ≠ 18 → Z 45 i = M 45 i := fun i q0 q1 q2 q3 => by rw [r45 i q0 q1 q2 q3, xM 45 (by decide)]
  have z0' : ∀ i, i ≠ 11 → i ≠ 12 → Z 0 i = M 0 i := fun i q1 q2 => by rw [z0, c0 i q1 q2]
  have z1 : Z 1 0 = M 1 0 := by rw [zX 1 (by decide) (by decide) (by decide) (by decide)]
  have blk : ∀ i, i < Nb → Z 6 i = M 6 i ∧ Z 7 i = M 7 i ∧ Z 8 i = M 8 i ∧ Z 9 i = M 9 i := fun i hi => by
    rw [lo 6 (by decide), lo 7 (by decide), lo 8 (by decide), lo 9 (by decide)]; exact cb i hi
  have z3 : ∀ n, n < 64 → Z 3 n = m n := by rw [lo 3 (by decide)]; exact c3
  have tn : trOk (M 1 0) (Nb + K + 1) (Z 6) (Z 7) (Z 8) (Z 9) m (Bv m ok (M 11) Nb) := tree_new (C' := Nb + K + 1) t2 hs (Nat.le_refl Nb) (by omega) blk (by rw [lo 6 (by decide), lo 7 (by decide), lo 8 (by decide), ← hK]; exact cw) (by rw [lo 9 (by decide), ← hK]; exact cd)
  have ky : ∀ n, n < 64 → m n = keyE (Z 46) E n := fun n hn => (r46' n hn).symm
  refine ⟨by rw [z1, z45 0 (by decide) (by decide) (by decide) (by decide)]; exact i1, ?_, ?_, ?_, ?_, iBufs_ag i6 (fun k hk => zX k (by omega) (by omega) (by omega) (by omega)), E + 1, Nb + K + 1, Nb + K + 1, by omega, ?_, r4, ?_, r9, ?_, ?_, ?_, ?_, ?_⟩
  · rw [z0, r17, r18]
    rcases hfl with ⟨q1, q2, q3⟩ | ⟨q1, q2, q3⟩
    · rw [q2, q3, if_pos q1]
      exact ⟨rfl, by rw [q1, Nat.sub_self], Or.inr rfl, 0, by omega, rfl⟩
    · rw [q2, q3, if_neg q1]
      exact ⟨rfl, rfl, Or.inl rfl, _, by omega, rfl⟩
  · rw [z45 21 (by decide) (by decide) (by decide) (by decide), z45 22 (by decide) (by decide) (by decide) (by decide), z0' 13 (by decide) (by decide), z0' 14 (by decide) (by decide)]; exact i3
  · rw [z45 31 (by decide) (by decide) (by decide) (by decide), z45 32 (by decide) (by decide) (by decide) (by decide), z0' 15 (by decide) (by decide), z0' 16 (by decide) (by decide), z0' 17 (by decide) (by decide)]; exact i4
  · rw [zX 70 (by decide) (by decide) (by decide) (by decide), zX 44 (by decide) (by decide) (by decide) (by decide)]; exact i5
  · rw [lo 18 (by decide)]; exact c18
  · rw [lo 5 (by decide)]; exact c57
  · rw [lo 5 (by decide)]; exact c58
  · refine ⟨fun n hn => ⟨fun _ => ?_, fun q => absurd (by rw [lo 4 (by decide)]; exact c4 n hn) q⟩, fun n hn => ?_, ?_, ?_⟩
    · obtain ⟨q1, q2⟩ := r47 n hn
      rw [q1, q2, z3 n hn]
      exact ⟨rfl, rfl⟩
    · rw [if_neg (by omega), show E + 1 - 1 = E by omega, z3 n hn, r46' n hn]
    · rw [lo 2 (by decide), lo 3 (by decide)]; exact c22
    · rw [lo 2 (by decide), c23, nz_zero 64 (fun i hi => by rw [lo 4 (by decide)]; exact c4 i hi)]; rfl
  · refine ⟨hNb, by omega, fun _ => rfl, Or.inr ?_, fun i q1 q2 => by omega, fun i hi => ?_⟩
    · rw [show Nb + K + 1 - 1 = Nb + K by omega, lo 6 (by decide)]; exact k1
    · by_cases q : i < Nb
      · obtain ⟨q1, q2, q3, -⟩ := blk i q
        obtain ⟨p1, p2, p3⟩ := r53 i q
        rw [p1, p2, p3, q1, q2, q3, xM 53 (by decide), xM 54 (by decide), xM 55 (by decide)]
        exact b6 i q
      · by_cases q' : i = Nb + K
        · rw [q', l1, l2, l3, lo 6 (by decide), lo 7 (by decide), lo 8 (by decide), k1, k2, k3]
          exact ⟨rfl, rfl, rfl⟩
        · obtain ⟨q1, q2, q3⟩ := cw (i - Nb) (by omega)
          obtain ⟨p1, p2, p3⟩ := rw' (i - Nb) (by omega)
          rw [show Nb + (i - Nb) = i by omega] at p1 p2 p3 q1 q2 q3
          rw [p1, p2, p3, lo 6 (by decide), lo 7 (by decide), lo 8 (by decide), q1, q2, q3]
          exact ⟨rfl, rfl, rfl⟩
  · intro e he
    rw [z1, lo 20 (by decide), lo 21 (by decide), lo 22 (by decide), r49, c20, c21, c22', xM 49 (by decide)]
    by_cases q : e = E
    · subst q
      rw [upd_eq, upd_eq, upd_eq, upd_eq]
      exact ⟨rfl, rfl, rfl⟩
    · obtain ⟨h1, h2, h3⟩ := histI e (by omega)
      rw [upd_ne _ _ q, upd_ne _ _ q, upd_ne _ _ q, upd_ne _ _ q]
      refine ⟨h1, h2, ?_⟩
      rw [h3]
      exact rd_congr _ (e + 1) 0 (fun i hi => by rw [upd_ne _ _ (by omega)]) (by omega)
  · rw [z1]
    refine ⟨fun e he => ?_, ?_, fun h h1 h2 => ?_, fun n hn => ?_⟩
    · rw [lo 19 (by decide), lo 20 (by decide), c19, c20]
      by_cases q : e = E
      · subst q
        rw [upd_eq, upd_eq]
        refine ⟨(tree_map (M 1 0) ky (x := 1) (by omega) (by omega)).2.2, Bv m ok (M 11) Nb, rfl, ?_⟩
        exact trOk_map ky tn
      · rw [upd_ne _ _ q, upd_ne _ _ q]
        obtain ⟨a, bl, b, c⟩ := t1 e (by omega)
        have kk : ∀ n, n < 64 → keyE (M 46) e n = keyE (Z 46) e n := fun n hn => by
          unfold keyE
          rw [r46 _ (by omega), xM 46 (by decide)]
        exact ⟨by rw [a]; exact (tree_map (M 1 0) kk (x := 1) (by omega) (by omega)).2.2, bl, b, trOk_map kk (trOk_mem (by omega) blk c)⟩
    · rw [lo 11 (by decide), c11]
      exact LL_blT (fun n hn => (z3 n hn).symm) tn
    · rw [lo 11 (by decide), c11, r57 h h1 h2]
    · rw [lo 11 (by decide), c11, r56 n hn]
theorem ok_close {N : Nat} (hN : 129 ≤ N) : Ok2 (f_ED_close N) (f_Mo_close N) := by
  intro M hI
  obtain ⟨i1, ⟨f1, f2, f3, F, f4, f5⟩, i3, i4, i5, i6, E, Nb, C, e1, e2, e3, e4, e5, e6, mapI, ⟨b1, b2, b3, b4, b5, b6⟩, histI, treeI⟩ := id hI
  rcases f3 with f3 | f3
  · have hC := b3 f3
    subst hC
    obtain ⟨m1, m2, m3, m4⟩ := id mapI
    have hm : ∀ n, n < 64 → M 47 n = if M 4 n = 0 then M 3 n else M 4 n := fun n hn => by
      by_cases q : M 4 n = 0
      · rw [if_pos q]; exact ((m1 n hn).1 q).2
      · rw [if_neg q]; exact ((m1 n hn).2 q).2
    have hp : ∀ n, n < 64 → (M 48 n = 0 ↔ M 4 n = 0) := fun n hn => by
      by_cases q : M 4 n = 0
      · exact ⟨fun _ => q, fun _ => ((m1 n hn).1 q).1⟩
      · refine ⟨fun z => ?_, fun z => absurd z q⟩
        rw [((m1 n hn).2 q).1] at z
        exact absurd z (by decide)
    have h18 : M 45 18 = 0 := by rw [f1]; exact f3
    have h17 : M 45 17 = nI F := by rw [f2]; exact f5
    obtain ⟨Y, y1, yA, y12, y17, y16, yp⟩ := f_draw hN M (M 47) hm b1 e4
    have hL := Wl_len (fun x => nd (M 47) x && tT (M 4) x)
    obtain ⟨K, hK⟩ : ∃ K, K = (Wl (fun x => nd (M 47) x && tT (M 4) x)).length := ⟨_, rfl⟩
    have g : ∀ k, ¬ (12 ≤ k ∧ k ≤ 17) → Y k = M k := yA
    have hcl : f_ED_close N M = if E = 40 ∨ 300 < C + K + 1 then some (-2, Y) else f_ED_close_l65 N N 0 Y := by
      rw [f_ED_close, if_pos f3, y1, Option.bind_some]
      simp only [g 18 (by decide), g 5 (by decide), e2, e4, y12, ← hK]
      by_cases c1 : E = 40
      · rw [if_pos (show (40 : Int32) ≤ nI E by rw [c1]; decide), if_pos (Or.inl c1)]
      · rw [if_neg (show ¬ (40 : Int32) ≤ nI E by rw [lN40, nI_leI (by decide) (by omega)]; omega), nI_add, nI_1]
        by_cases c2 : C + K + 1 ≤ 300
        · rw [if_pos (show nI (C + K + 1) ≤ 300 by rw [lN300, nI_leI (by omega) (by decide)]; exact c2), if_neg (by omega)]
        · rw [if_neg (show ¬ nI (C + K + 1) ≤ 300 by rw [lN300, nI_leI (by omega) (by decide)]; exact c2), if_pos (by omega)]
    rw [← hK] at hL y12 y17
    by_cases cF : E = 40 ∨ 300 < C + K + 1
    · obtain ⟨Z, z1, z2, z3⟩ := g_close0 (N := N) (Nb := C) (E := E) (F := F) (m := M 47) (ok := M 4) (M := Y) hN b1 e1 f4 (g 47 (by decide)) (by rw [g 48 (by decide)]; exact hp) (by rw [g 45 (by decide)]; exact e3) (by rw [g 45 (by decide)]; exact e5) (by rw [g 45 (by decide)]; exact h18)
      refine ⟨-2, Y, Z, by rw [hcl, if_pos cF], by rw [z3, ← hK, if_pos cF], Inv_free hI (fun k hk => ?_) ?_⟩
      · unfold FP at hk
        rw [z1 k (by omega), g k (by omega)]
      · rw [z1 70 (by decide), z1 44 (by decide), g 70 (by decide), g 44 (by decide)]; exact i5
    · have hE : E < 40 := by omega
      have hNb : C + (Wl (fun x => nd (M 47) x && tT (M 4) x)).length + 1 ≤ 300 := by omega
      have hY : cY (M 1 0) (M 47) (M 4) (M 3) (M 11) C Y := by
        unfold cY
        rw [g 1 (by decide), g 4 (by decide), g 3 (by decide), g 11 (by decide), g 6 (by decide), g 7 (by decide), g 8 (by decide), g 9 (by decide), g 5 (by decide), ← hK]
        exact ⟨rfl, rfl, rfl, rfl, hm, treeI.2.1, e6, y12, y17, y16, yp⟩
      have hIY : Inv Y := Inv_free hI (fun k hk => g k (fun q => hk (by unfold FP; omega))) (by rw [g 70 (by decide), g 44 (by decide)]; exact i5)
      have yb6 : ∀ i, i < C → Y 53 i = Y 6 i ∧ Y 54 i = Y 7 i ∧ Y 55 i = Y 8 i := by
        rw [g 53 (by decide), g 54 (by decide), g 55 (by decide), g 6 (by decide), g 7 (by decide), g 8 (by decide)]; exact b6
      have yhist : iHist (Y 1 0) E (Y 20) (Y 21) (Y 22) (Y 49) := by
        rw [g 1 (by decide), g 20 (by decide), g 21 (by decide), g 22 (by decide), g 49 (by decide)]; exact histI
      have ytree : iTree (Y 1 0) E C (Y 6) (Y 7) (Y 8) (Y 9) (Y 46) (Y 19) (Y 20) (Y 11) (Y 57) (Y 56) (Y 3) := by
        rw [g 1 (by decide), g 6 (by decide), g 7 (by decide), g 8 (by decide), g 9 (by decide), g 46 (by decide), g 19 (by decide), g 20 (by decide), g 11 (by decide), g 57 (by decide), g 56 (by decide), g 3 (by decide)]; exact treeI
      have y011 : Y 0 11 = 0 := by rw [g 0 (by decide)]; exact f3
      have start : cN (M 1 0) (M 47) (Bv (M 47) (M 4) (M 11) C) (Wn (fun x => nd (M 47) x && tT (M 4) x)) C F 0 Y Y := ⟨⟨by rw [g 5 (by decide)]; exact e4, rfl, fun _ _ => ⟨rfl, rfl, rfl, rfl⟩, fun i hi => absurd hi (Nat.not_lt_zero _), fun i hi => absurd hi (Nat.not_lt_zero _)⟩, fun _ _ _ => rfl, by rw [g 0 (by decide)]; exact f5, fun _ _ => rfl⟩
      rcases cl_l65 (N := N) (F := F) (by omega) hY hNb y011 f4 (Wl (fun x => nd (M 47) x && tT (M 4) x)).length 0 N Y (by omega) (by omega) (by omega) start with ⟨hF', X, x1, x2⟩ | ⟨g1, g2, X, x1, x2⟩
      · obtain ⟨A, a1, a2⟩ := f_b106 (N := N) (E := E) hN hY hNb hE (by rw [g 18 (by decide)]; exact e2) (by rw [g 2 (by decide)]; exact m3) y011 f4 hF' x2
        have aY : ∀ k, 45 ≤ k → A k = M k := fun k hk => by rw [a1.1 k (by omega) (by omega) (by omega), g k (by omega)]
        have a45 := aY 45 (by decide)
        obtain ⟨Z, z1, z2⟩ := (g_close (N := N) (F := F) (m := M 47) (ok := M 4) (la := M 11) hN (M := A) hE f4 (aY 47 (by decide)) (by rw [aY 48 (by decide)]; exact hp) (by rw [a45]; exact e3) (by rw [a45]; exact e5) (by rw [a45]; exact h17) (by rw [a45]; exact h18) (by rw [aY 57 (by decide)]; exact treeI.2.2.1) (by rw [aY 56 (by decide)]; exact treeI.2.2.2) hNb).2 hF'
        rw [a45, ← i1, ← g 1 (by decide), ← g 11 (by decide)] at z2
        rw [← g 1 (by decide), ← g 11 (by decide)] at a1
        have fin : ∀ r, f_ED_close N M = some (r, A) → f_Mo_close N A = some (r, Z) → ((F = (Wl (fun x => nd (M 47) x && tT (M 4) x)).length + 1 ∧ A 0 11 = 1 ∧ A 0 12 = nI 0) ∨ (F ≠ (Wl (fun x => nd (M 47) x && tT (M 4) x)).length + 1 ∧ A 0 11 = 0 ∧ A 0 12 = nI (F - ((Wl (fun x => nd (M 47) x && tT (M 4) x)).length + 1)))) → ∃ r M1 M2, f_ED_close N M = some (r, M1) ∧ f_Mo_close N M1 = some (r, M2) ∧ Inv M2 := by
          intro r q1 q2 q3
          exact ⟨r, A, Z, q1, q2, Inv_whole hIY hE f4 yb6 yhist ytree (by rw [g 3 (by decide)]; exact hm) hNb a1 q3 z2⟩
        rcases a2 with ⟨q1, q2, q3, q4⟩ | ⟨q1, q2, q3, q4⟩
        · exact fin (-9) (by rw [hcl, if_neg cF, lN0, x1, q2]) (by rw [z1, if_pos q1]) (Or.inl ⟨q1, q3, q4⟩)
        · exact fin (nI E) (by rw [hcl, if_neg cF, lN0, x1, q2]) (by rw [z1, if_neg q1]) (Or.inr ⟨q1, q3, q4⟩)
      · have aY : ∀ k, 45 ≤ k → X k = M k := fun k hk => by rw [x2.2.1 k (by omega) (by omega) (by omega) (by omega), g k (by omega)]
        have a45 := aY 45 (by decide)
        obtain ⟨Z, z1, z2⟩ := (g_close (N := N) (F := F) (m := M 47) (ok := M 4) (la := M 11) hN (M := X) hE f4 (aY 47 (by decide)) (by rw [aY 48 (by decide)]; exact hp) (by rw [a45]; exact e3) (by rw [a45]; exact e5) (by rw [a45]; exact h17) (by rw [a45]; exact h18) (by rw [aY 57 (by decide)]; exact treeI.2.2.1) (by rw [aY 56 (by decide)]; exact treeI.2.2.2) hNb).1 g1 g2
        rw [← g 1 (by decide)] at x2
        refine ⟨-9, X, Z, by rw [hcl, if_neg cF, lN0, x1], z1, Inv_stop (E := E) (Nb := C) (F := F) hIY e1 (by rw [g 18 (by decide)]; exact e2) (by rw [g 45 (by decide)]; exact e3) (by rw [g 6 (by decide)]; exact b4) (by rw [g 5 (by decide)]; exact e6) (by omega) (by rw [g 3 (by decide), g 4 (by decide), g 47 (by decide), g 48 (by decide), g 46 (by decide), g 2 (by decide)]; exact mapI) yb6 yhist ytree x2 z2⟩
  · have h18 : ¬ M 45 18 = 0 := by rw [f1, f3]; decide
    refine ⟨-9, M, M, by rw [f_ED_close, if_neg (by rw [f3]; decide)], by rw [f_Mo_close, if_neg h18], hI⟩
