/-! prove() whole -/
/-- the blocks stand for the tree of m -/
def SF (s : Int32) (Nb C : Nat) (m bl : Nat → Int32) (M : zMem) : Prop := M 5 7 = nI Nb ∧ C ≤ Nb ∧ Nb ≤ 300 ∧ trOk s C (M 6) (M 7) (M 8) (M 9) m bl
theorem SF.ag {s : Int32} {Nb C : Nat} {m bl : Nat → Int32} {X Y : zMem} (h : SF s Nb C m bl X) (e5 : Y 5 = X 5) (e6 : Y 6 = X 6) (e7 : Y 7 = X 7) (e8 : Y 8 = X 8) (e9 : Y 9 = X 9) : SF s Nb C m bl Y := by
  unfold SF
  rw [e5, e6, e7, e8, e9]
  exact h
theorem f_isBlock_y {N i Nb : Nat} {M : zMem} (h : M 5 7 = nI Nb) (hi : i < Nb) (hN : Nb ≤ 300) : f_St_isBlock N (nI i) M = some (1, M) := by
  rw [f_St_isBlock, if_neg (nI_pos (show i < 2 ^ 31 by omega)), h, if_neg (show ¬ nI Nb ≤ nI i by rw [nI_leI (by omega) (by omega)]; omega)]
theorem f_isBlock_m {N : Nat} (M : zMem) : f_St_isBlock N (-1) M = some (0, M) := by
  rw [f_St_isBlock, if_pos (by decide)]
theorem st_dig {N Nb C h : Nat} {s : Int32} {m bl : Nat → Int32} {M : zMem} (hS : SF s Nb C m bl M) (h1 : 1 ≤ h) (h2 : h < 128) (hp : h = 1 ∨ 2 ≤ cT m (h / 2)) : f_St_digestOf N (bl h) M = some (dT s m h, M) := by
  obtain ⟨a1, a2, a3, a4⟩ := hS
  obtain ⟨l0, l1, l2⟩ := a4 h h1 h2 hp
  have blk : ∀ i, i < C → bl h = nI i → M 9 i = dT s m h → f_St_digestOf N (bl h) M = some (dT s m h, M) := fun i hi e e9 => by
    rw [f_St_digestOf, e, f_isBlock_y a1 (by omega) a3, Option.bind_some, if_neg (show ¬ (1 : Int32) = 0 by decide), if_pos (zin_t (show i < 300 by omega) (by decide)), nI_clamp (show i < 2 ^ 31 by omega)]
    dsimp only
    rw [e9]
  by_cases c0 : cT m h = 0
  · rw [f_St_digestOf, l0 c0, f_isBlock_m, Option.bind_some, if_pos rfl, (cT_zero s m (128 - h) h (by omega) h1 (by omega) c0).1]
  · by_cases c1 : cT m h = 1
    · obtain ⟨i, i1, i2, -, -, -, i6⟩ := l1 c1
      exact blk i i1 i2 i6
    · obtain ⟨i, i1, i2, -, -, -, i6⟩ := l2 (by omega)
      exact blk i i1 i2 i6
theorem st_kind {N i Nb : Nat} {M : zMem} {k x : Int32} (h : M 5 7 = nI Nb) (hi : i < Nb) (hN : Nb ≤ 300) (hk : M 6 i = k) : f_St_isOfKind N (nI i) x M = some (if k = x then 1 else 0, M) := by
  rw [f_St_isOfKind, f_isBlock_y h hi hN, Option.bind_some, if_neg (show ¬ (1 : Int32) = 0 by decide), if_pos (zin_t (show i < 300 by omega) (by decide)), nI_clamp (show i < 2 ^ 31 by omega)]
  simp only [hk]
  by_cases c : k = x
  · rw [if_pos c, if_pos c]
  · rw [if_neg c, if_neg c]
theorem st_kind0 {N : Nat} (M : zMem) (x : Int32) : f_St_isOfKind N (-1) x M = some (0, M) := by
  rw [f_St_isOfKind, f_isBlock_m, Option.bind_some, if_pos rfl]
theorem st_part {N i β : Nat} {M : zMem} (hi : i < 300) (hβ : β ≤ 1) : f_St_partOf N (nI i) (nI β) M = some (if β = 0 then M 7 i else M 8 i, M) := by
  rw [f_St_partOf, if_pos (zin_t hi (by decide)), if_pos (zin_t hi (by decide)), nI_clamp (show i < 2 ^ 31 by omega)]
  by_cases c : β = 0
  · rw [if_pos c, if_pos (show nI β = 0 by rw [c]; rfl)]
  · rw [if_neg c, if_neg (show ¬ nI β = 0 by rw [lN0, nI_eq (by omega) (by decide)]; exact c)]
/-- the end of the class's lookup: the first three words, what was read -/
theorem lk_end {N b d : Nat} (hb : b < 4) (nm ln lk fl : Int32) (M : zMem) : f_ED_proveLookup_b149 N (28 + 2 * b) nm (nI d) fl ln lk M = some (if ln = nm then lk else 0, zu (zu (zu (zu (zu M (28 + 2 * b + 1) 0 (nI d)) (28 + 2 * b + 1) 1 ln) (28 + 2 * b + 1) 2 lk) 0 13 (M (28 + 2 * b) 1)) 0 14 (if fl = 0 then nI d else nI d + 1)) := by
  have e : zu (zu (zu M (28 + 2 * b + 1) 0 (nI d)) (28 + 2 * b + 1) 1 ln) (28 + 2 * b + 1) 2 lk (28 + 2 * b) 1 = M (28 + 2 * b) 1 := by
    rw [zu_ne _ _ _ (by omega), zu_ne _ _ _ (by omega), zu_ne _ _ _ (by omega)]
  rw [f_ED_proveLookup_b149, zlt_eq, zlt_eq, zlt_eq, zlt_eq, e]
  by_cases c : fl = 0
  · rw [if_pos c, if_pos c, f_ED_proveLookup_b198, zlt_eq]
    by_cases c' : ln = nm
    · rw [if_pos c', if_pos c']
    · rw [if_neg c', if_neg c']
  · rw [if_neg c, if_neg c, f_ED_proveLookup_b198, zlt_eq]
    by_cases c' : ln = nm
    · rw [if_pos c', if_pos c']
    · rw [if_neg c', if_neg c']
/-- the words of the class's buffer while the first three still stand -/
def lwC (W0 : Nat → Int32) (W : Nat → Int32) (i : Nat) : Int32 := if i < 3 then W0 i else W i
/-- what a class's lookup leaves -/
def lkM (Y : zMem) (b d : Nat) (ln lk : Int32) (c : Nat) : zMem := zu (zu (zu (zu (zu Y (28 + 2 * b + 1) 0 (nI d)) (28 + 2 * b + 1) 1 ln) (28 + 2 * b + 1) 2 lk) 0 13 (nI (3 + d))) 0 14 (nI d + nI c)
theorem lk_C {N b n d Nb C : Nat} (hb : b < 4) (hn : n < 64) (hd : d ≤ 6) (s : Int32) (m bl W0 : Nat → Int32) (h1 : cT m (pth n d) ≤ 1) (h2 : ∀ i, i < d → 2 ≤ cT m (pth n i)) : ∀ r i fuel X, i + r = d → r < fuel → SF s Nb C m bl X → BC X b (3 + i) (lwC W0 (lw s m n d)) → ∃ Y, f_ED_proveLookup_l25 N (28 + 2 * b) fuel (nI n) (nI (idx n)) (bl (pth n i)) (nI i) X = some (if oT m (pth n d) = nI n then m n else 0, lkM Y b d (oT m (pth n d)) (lw s m n d 2) (cT m (pth n d))) ∧ BC Y b (3 + d) (lwC W0 (lw s m n d)) ∧ Ag (fun k => k = 28 + 2 * b ∨ k = 28 + 2 * b + 1) X Y := by
  intro r
  induction r with
  | zero =>
    intro i fuel X hi hf hS hB
    obtain ⟨fuel, rfl⟩ : ∃ m, fuel = m + 1 := ⟨fuel - 1, by omega⟩
    have : i = d := by omega
    subst this
    obtain ⟨p1, p2⟩ := pth_128 n hd
    obtain ⟨a1, a2, a3, a4⟩ := hS
    have hp : pth n i = 1 ∨ 2 ≤ cT m (pth n i / 2) := by
      rcases i with _ | i
      · exact Or.inl rfl
      · right
        rw [show pth n (i + 1) / 2 = pth n i by rw [pth]; have := bt_le n i; omega]
        exact h2 i (by omega)
    obtain ⟨l0, l1, l2⟩ := a4 (pth n i) p1 p2 hp
    have w2 : lw s m n i 2 = (if cT m (pth n i) = 1 then m (oT m (pth n i)).toNatClampNeg else 0) := rfl
    refine ⟨X, ?_, hB, fun _ _ => rfl⟩
    -- past the loop
    have past : f_ED_proveLookup_b97 N (28 + 2 * b) (nI n) (bl (pth n i)) (nI i) X = some (if oT m (pth n i) = nI n then m n else 0, lkM X b i (oT m (pth n i)) (lw s m n i 2) (cT m (pth n i))) := by
      rw [f_ED_proveLookup_b97, w2]
      by_cases c : cT m (pth n i) = 1
      · obtain ⟨j, j1, j2, j3, j4, j5, -⟩ := l1 c
        obtain ⟨n', n1, n2, -⟩ := cT_one s m (128 - pth n i) (pth n i) (by omega) p1 (by omega) c
        have zj : zin (nI j) 300 = true := zin_t (by omega) (by decide)
        rw [j2, st_kind a1 (show j < Nb by omega) a3 j3, if_pos (show (1 : Int32) = 1 from rfl), Option.bind_some, if_neg (show ¬ (1 : Int32) = 0 by decide), if_pos zj, nI_clamp (show j < 2 ^ 31 by omega), f_ED_proveLookup_b128, if_neg (show ¬ (1 : Int32) = 0 by decide), if_pos zj, nI_clamp (show j < 2 ^ 31 by omega)]
        dsimp only
        rw [j4, j5, lk_end hb, hB.1, if_neg (show ¬ (1 : Int32) = 0 by decide), if_pos c, n2, nI_clamp (show n' < 2 ^ 31 by omega), c]
        by_cases e : nI n' = nI n
        · have : n' = n := (nI_eq (by omega) (by omega)).mp e
          subst this
          rw [if_pos rfl]; rfl
        · rw [if_neg e, if_neg e]; rfl
      · have c0 : cT m (pth n i) = 0 := by omega
        have o0 := (cT_zero s m (128 - pth n i) (pth n i) (by omega) p1 (by omega) c0).2
        rw [l0 c0, st_kind0, Option.bind_some, if_pos rfl, f_ED_proveLookup_b128, if_pos (show ((0 : Int32), X).1 = 0 from rfl)]
        dsimp only
        rw [lk_end hb, hB.1, if_pos rfl, if_neg c, o0, c0]
        have e : ¬ (-1 : Int32) = nI n := fun q => absurd (show (0 : Int32) ≤ -1 by rw [q]; exact nI_pos' (by omega)) (by decide)
        unfold lkM
        rw [if_neg e, if_neg e, show nI i + nI 0 = nI i from Int32.add_zero _]
    rw [f_ED_proveLookup_l25]
    by_cases c6 : (6 : Int32) ≤ nI i
    · rw [if_pos c6]; exact past
    · rw [if_neg c6]
      by_cases c : cT m (pth n i) = 1
      · obtain ⟨j, j1, j2, j3, -⟩ := l1 c
        have := past
        rw [j2] at this ⊢
        rw [st_kind a1 (show j < Nb by omega) a3 j3, if_neg (show ¬ (1 : Int32) = 2 by decide), Option.bind_some, if_pos rfl]
        exact this
      · have := past
        rw [l0 (by omega)] at this ⊢
        rw [st_kind0, Option.bind_some, if_pos rfl]
        exact this
  | succ r ih =>
    intro i fuel X hi hf hS hB
    obtain ⟨fuel, rfl⟩ : ∃ m, fuel = m + 1 := ⟨fuel - 1, by omega⟩
    have p1 := (pth_128 n (show i ≤ 6 by omega)).1
    have p2 := pth_64 n (show i < 6 by omega)
    have b1 := bt_le n i
    have c2 := h2 i (by omega)
    obtain ⟨a1, a2, a3, a4⟩ := id hS
    have hp : pth n i = 1 ∨ 2 ≤ cT m (pth n i / 2) := by
      rcases i with _ | i
      · exact Or.inl rfl
      · right
        rw [show pth n (i + 1) / 2 = pth n i by rw [pth]; have := bt_le n i; omega]
        exact h2 i (by omega)
    obtain ⟨j, j1, j2, j3, j4, j5, -⟩ := (a4 (pth n i) p1 (by omega) hp).2.2 c2
    have j300 : j < 300 := by omega
    have sib := st_dig (N := N) (h := 2 * pth n i + (1 - bt n i)) hS (by omega) (by omega) (Or.inr (by rw [show (2 * pth n i + (1 - bt n i)) / 2 = pth n i by omega]; exact c2))
    have w3i : lwC W0 (lw s m n d) (3 + i) = dT s m (2 * pth n i + (1 - bt n i)) := by
      unfold lwC; rw [if_neg (by omega), lw3]
    obtain ⟨X1, u1, u2, u3⟩ := app_C (N := N) hb (show 3 + i < 30 by omega) hB
    rw [w3i] at u1
    have hS1 : SF s Nb C m bl X1 := hS.ag (u3 5 (by omega)) (u3 6 (by omega)) (u3 7 (by omega)) (u3 8 (by omega)) (u3 9 (by omega))
    obtain ⟨Y, g1, g2, g3⟩ := ih (i + 1) fuel X1 (by omega) (by omega) hS1 u2
    refine ⟨Y, ?_, g2, Ag.trans u3 g3⟩
    have pa : ∀ β, β ≤ 1 → (if β = 0 then X 7 j else X 8 j) = bl (2 * pth n i + β) := fun β hβ => by
      rcases β with _ | _ | β
      · rw [if_pos rfl, j4]; rfl
      · rw [if_neg (by decide), j5]
      · omega
    have eb : (1 : Int32) - nI (bt n i) = nI (1 - bt n i) := by rw [lN1, nI_subN b1]
    have p' : bl (pth n (i + 1)) = (if bt n i = 0 then X1 7 j else X1 8 j) := by
      rw [u3 7 (by omega), u3 8 (by omega), pa _ b1, pth]
    rw [f_ED_proveLookup_l25, if_neg (show ¬ (6 : Int32) ≤ nI i by rw [lN6, nI_leI (by decide) (by omega)]; omega), j2, st_kind a1 (show j < Nb by omega) a3 j3, if_pos (show (2 : Int32) = 2 from rfl), Option.bind_some, if_neg (show ¬ (1 : Int32) = 0 by decide), (f_bit hn (show i < 6 by omega) X).1, Option.bind_some]
    dsimp only
    rw [eb, st_part j300 (by omega), Option.bind_some, pa _ (by omega)]
    dsimp only
    rw [sib, Option.bind_some]
    dsimp only
    rw [u1, Option.bind_some]
    dsimp only
    rw [st_part j300 b1, Option.bind_some, zlt_eq, ← p', nI_1]
    exact g1
theorem lookup_both {N : Nat} (hN : 129 ≤ N) {M : zMem} (hI : Inv M) {b n e E : Nat} (hb : b < 4) (hn : n < 64) (hE : M 18 6 = nI E) (heE : e < E) (hE40 : E ≤ 40) :
    ∃ r M1 M2, f_ED_proveLookup N (28 + 2 * b) (nI n) (nI e) M = some (r, M1) ∧ f_Mo_prove_b81 N (nI b) 0 (nI n) (nI e) M1 = some (r, M2) ∧ Inv M2 ∧ M1 45 = M 45 := by
  obtain ⟨E', Nb, C, e1, e2, e3, e4, e5, e6, e7, e8, e9, e10⟩ := hI.2.2.2.2.2.2
  have hEE : E' = E := (nI_eq (by omega) (by omega)).mp (e2.symm.trans hE)
  subst hEE
  obtain ⟨t1, bl, t2, t3⟩ := e10.1 e heE
  obtain ⟨m, hm⟩ : ∃ m, m = keyE (M 46) e := ⟨_, rfl⟩
  rw [← hm] at t3
  obtain ⟨d, d1, d2, d3⟩ := dep_ex m n
  obtain ⟨s, hs⟩ : ∃ s, M 1 0 = s := ⟨_, rfl⟩
  rw [hs] at t3
  have hs' : 32 - M 45 0 = s := by rw [← hs]; exact hI.1.symm
  have oB := hI.2.2.2.2.2.1
  obtain ⟨M0, hM0⟩ : ∃ M0, M0 = zu M (28 + 2 * b) 1 3 := ⟨_, rfl⟩
  have n0 : ∀ k, k ≠ 28 + 2 * b → M0 k = M k := fun k hk => by rw [hM0, zu_ne _ _ _ hk]
  have hS : SF s Nb C m bl M0 := by
    unfold SF
    rw [n0 5 (by omega), n0 6 (by omega), n0 7 (by omega), n0 8 (by omega), n0 9 (by omega)]
    exact ⟨e4, e8.2.1, e8.1, t3⟩
  obtain ⟨Y, g1, g2, g3⟩ := lk_C (N := N) hb hn d1 s m bl (M0 (28 + 2 * b + 1)) d2 d3 d 0 N M0 (by omega) (by omega) hS ⟨by rw [hM0, zu_eq, upd_eq]; rfl, fun i hi => by unfold lwC; rw [if_pos (by omega)]⟩
  obtain ⟨M1, hM1⟩ : ∃ M1, M1 = lkM Y b d (oT m (pth n d)) (lw s m n d 2) (cT m (pth n d)) := ⟨_, rfl⟩
  rw [← hM1] at g1
  have n1 : ∀ k, k ≠ 0 → k ≠ 28 + 2 * b + 1 → M1 k = Y k := fun k h1 h2 => by
    rw [hM1]; unfold lkM
    rw [zu_ne _ _ _ h1, zu_ne _ _ _ h1, zu_ne _ _ _ h2, zu_ne _ _ _ h2, zu_ne _ _ _ h2]
  have k1 : ∀ k, k ≠ 0 → k ≠ 28 + 2 * b → k ≠ 28 + 2 * b + 1 → M1 k = M k := fun k h1 h2 h3 => by
    rw [n1 k h1 h3, g3 k (by omega), n0 k h2]
  have m0 : ∀ j, j ≠ 13 → j ≠ 14 → M1 0 j = M 0 j := fun j h1 h2 => by
    rw [hM1]; unfold lkM
    rw [zu_eq, upd_ne _ _ h2, zu_eq, upd_ne _ _ h1, zu_ne _ _ _ (by omega), zu_ne _ _ _ (by omega), zu_ne _ _ _ (by omega), g3 0 (by omega), n0 0 (by omega)]
  have m13 : M1 0 13 = nI (3 + d) := by
    rw [hM1]; unfold lkM
    rw [zu_eq, upd_ne _ _ (by decide), zu_eq, upd_eq]
  have m14 : M1 0 14 = nI d + nI (cT m (pth n d)) := by
    rw [hM1]; unfold lkM
    rw [zu_eq, upd_eq]
  have hBC : BC M1 b (3 + d) (lw s m n d) := by
    refine ⟨by rw [n1 _ (by omega) (by omega)]; exact g2.1, fun i hi => ?_⟩
    have hw := g2.2 i hi
    rw [hM1]; unfold lkM
    rw [zu_ne _ _ _ (by omega), zu_ne _ _ _ (by omega)]
    rcases i with _ | _ | _ | i
    · rw [zu_eq, upd_ne _ _ (by decide), zu_eq, upd_ne _ _ (by decide), zu_eq, upd_eq]; rfl
    · rw [zu_eq, upd_ne _ _ (by decide), zu_eq, upd_eq]; rfl
    · rw [zu_eq, upd_eq]
    · rw [zu_eq, upd_ne _ _ (by omega), zu_eq, upd_ne _ _ (by omega), zu_eq, upd_ne _ _ (by omega), hw]
      unfold lwC
      rw [if_neg (by omega)]
  -- the reference
  obtain ⟨X, hX⟩ : ∃ X, X = zu M1 61 b 0 := ⟨_, rfl⟩
  have nX : ∀ k, k ≠ 61 → X k = M1 k := fun k hk => by rw [hX, zu_ne _ _ _ hk]
  obtain ⟨Z, l1, l2, l3, l4⟩ := f_lookup (N := N) (e := e) (X := X) hN hb hn (by omega) d1 m d2 d3 (fun j hj => by rw [nX 46 (by decide), k1 46 (by decide) (by omega) (by omega), hm]; rfl) (by rw [hX, zu_eq, upd_eq])
  rw [nX 45 (by decide), k1 45 (by decide) (by omega) (by omega), hs'] at l2
  obtain ⟨M2, hM2⟩ : ∃ M2, M2 = zu (zu Z 45 22 (nI d + nI (cT m (pth n d)))) 45 21 (nI (3 + d)) := ⟨_, rfl⟩
  have n2 : ∀ k, k ≠ 45 → M2 k = Z k := fun k hk => by rw [hM2, zu_ne _ _ _ hk, zu_ne _ _ _ hk]
  have k2 : ∀ k, k ≠ 45 → ¬ (50 ≤ k ∧ k ≤ 52) → k ≠ 60 → k ≠ 61 → M2 k = M1 k := fun k h1 h2 h3 h4 => by
    rw [n2 k h1, l3 k (by omega), nX k h4]
  refine ⟨if oT m (pth n d) = nI n then m n else 0, M1, M2, ?_, ?_, ?_, k1 45 (by decide) (by omega) (by omega)⟩
  · rw [f_ED_proveLookup, if_pos (zis_Bu_of hb), (f_indexOf hn M).1, Option.bind_some, if_pos (zin_t (show e < 40 by omega) (by decide)), nI_clamp (show e < 2 ^ 31 by omega), zlt_eq, f_Bu_startWith, if_pos (zis_Bu_of hb), zlt_eq, Option.bind_some]
    dsimp only
    rw [← hM0, ← t2]
    exact g1
  · have z : zin (nI b) 4 = true := zin_t hb (by decide)
    have zb : zu Z 45 22 (nI d + nI (cT m (pth n d))) 61 b = nI (3 + d) := by rw [zu_ne _ _ _ (by decide)]; exact l2.1
    rw [f_Mo_prove_b81, if_pos z, nI_clamp (show b < 2 ^ 31 by omega), zlt_eq, if_pos rfl, ← hX, l1, Option.bind_some, f_Mo_prove_b204, if_pos z, nI_clamp (show b < 2 ^ 31 by omega), zlt_eq, if_pos rfl]
    dsimp only
    rw [zb, ← hM2]
  · refine Inv_fin hI hb (fun k hk => ?_) (fun j h1 h2 => ?_) (fun j h1 h2 h3 h4 h5 => ?_) ⟨?_, ?_⟩ ?_
    · unfold SP at hk
      rw [k2 k (by omega) (by omega) (by omega) (by omega), k1 k (by omega) (by omega) (by omega)]
    · rw [k2 0 (by decide) (by omega) (by decide) (by decide), m0 j h1 h2]
    · rw [hM2, zu_eq, upd_ne _ _ h1, zu_eq, upd_ne _ _ h2, l3 45 (by omega), nX 45 (by decide), k1 45 (by decide) (by omega) (by omega)]
    · rw [k2 0 (by decide) (by omega) (by decide) (by decide), m13, hM2, zu_eq, upd_eq]
    · rw [k2 0 (by decide) (by omega) (by decide) (by decide), m14, hM2, zu_eq, upd_ne _ _ (by decide), zu_eq, upd_eq]
    · refine iBufs.setc (X := M2) (c := 3 + d) (W := lw s m n d) oB hb (by omega) (fun b' hb' hne => ?_) (fun b' hne => ?_) (fun i hi => ?_) ⟨?_, fun i hi => ?_⟩ ⟨?_, fun i hi => ?_⟩
      · rw [k2 _ (by omega) (by omega) (by omega) (by omega), k2 _ (by omega) (by omega) (by omega) (by omega), k1 _ (by omega) (by omega) (by omega), k1 _ (by omega) (by omega) (by omega)]
        exact ⟨rfl, rfl⟩
      · rw [n2 61 (by decide), l4.1 b' hne, hX, zu_eq, upd_ne _ _ hne, k1 61 (by decide) (by omega) (by omega)]
      · rw [n2 60 (by decide), l4.2 i hi, nX 60 (by decide), k1 60 (by decide) (by omega) (by omega)]
      · rw [k2 _ (by omega) (by omega) (by omega) (by omega)]; exact hBC.1
      · rw [k2 _ (by omega) (by omega) (by omega) (by omega)]; exact hBC.2 i hi
      · rw [n2 61 (by decide)]; exact l2.1
      · rw [n2 60 (by decide)]; exact l2.2 i hi
