/-! close(): the class counts the names -/
theorem f_keyOf {N n : Nat} (hn : n < 64) (X : zMem) : f_NM_keyOf N (nI n) X = some (if X 4 n = 0 then X 3 n else X 4 n, X) := by
  have z : zin (nI n) 64 = true := zin_t hn (by decide)
  rw [f_NM_keyOf, if_pos z, if_pos z, if_pos z, nI_clamp (show n < 2 ^ 31 by omega)]
  by_cases c : X 4 n = 0
  · rw [if_pos c, if_pos c]
  · rw [if_neg c, if_neg c]
theorem f_wasPut {N n : Nat} (hn : n < 64) (X : zMem) : f_NM_wasPut N (nI n) X = some (if X 4 n = 0 then 0 else 1, X) := by
  rw [f_NM_wasPut, if_pos (zin_t hn (by decide)), nI_clamp (show n < 2 ^ 31 by omega)]
  by_cases c : X 4 n = 0
  · rw [if_pos c, if_pos c]
  · rw [if_neg c, if_neg c]
/-- what the plan says of a leaf's place -/
def pL (m ok a b c : Nat → Int32) (n : Nat) : Prop := a (64 + idx n) = (if m n = 0 then 0 else 1) ∧ b (64 + idx n) = nI n ∧ c (64 + idx n) = (if ok n = 0 then 0 else 1)
theorem zbool_01 {c : Prop} (h : c ∨ ¬ c) (x : Int32) (hx : (c → x = 0) ∧ (¬ c → x = 1)) : zbool x = true := by
  rcases h with h | h
  · rw [hx.1 h]; rfl
  · rw [hx.2 h]; rfl
theorem cn_l2 {N : Nat} (M : zMem) (m : Nat → Int32) (hm : ∀ n, n < 64 → m n = if M 4 n = 0 then M 3 n else M 4 n) : ∀ d i fuel a b c, i + d = 64 → d < fuel → (∀ n, n < i → pL m (M 4) a b c n) → ∃ a' b' c', f_Pl_countNames_l2 N fuel (nI i) (w3 M 13 a b c) = f_Pl_countNames_l62 N N 63 (w3 M 13 a' b' c') ∧ ∀ n, n < 64 → pL m (M 4) a' b' c' n := by
  intro d
  induction d with
  | zero =>
    intro i fuel a b c hi hf h
    obtain ⟨fuel, rfl⟩ : ∃ m, fuel = m + 1 := ⟨fuel - 1, by omega⟩
    have : i = 64 := by omega
    subst this
    exact ⟨a, b, c, by rw [f_Pl_countNames_l2, if_pos (show (64 : Int32) ≤ nI 64 by decide)], h⟩
  | succ d ih =>
    intro i fuel a b c hi hf h
    obtain ⟨fuel, rfl⟩ : ∃ m, fuel = m + 1 := ⟨fuel - 1, by omega⟩
    have ii : i < 64 := by omega
    have hix := idx_lt i
    have ex := ixn_idx i ii
    have hne : ∀ n, n < i → idx n ≠ idx i := fun n hn e => by
      have : n = i := by rw [← ixn_idx n (by omega), e, ex]
      omega
    have z : zin (nI (64 + idx i)) 128 = true := zin_t (by omega) (by decide)
    obtain ⟨a', b', c', g1, g2⟩ := ih (i + 1) fuel (upd a (64 + idx i) (if m i = 0 then 0 else 1)) (upd b (64 + idx i) (nI i)) (upd c (64 + idx i) (if M 4 i = 0 then 0 else 1)) (by omega) (by omega) (fun n hn => by
      unfold pL
      by_cases e : n = i
      · subst e
        rw [upd_eq, upd_eq, upd_eq]
        exact ⟨rfl, rfl, rfl⟩
      · have hq := hne n (by omega)
        rw [upd_ne _ _ (show 64 + idx n ≠ 64 + idx i by omega), upd_ne _ _ (show 64 + idx n ≠ 64 + idx i by omega), upd_ne _ _ (show 64 + idx n ≠ 64 + idx i by omega)]
        exact h n (by omega))
    refine ⟨a', b', c', ?_, g2⟩
    have n3 : ∀ k, k ≠ 13 → k ≠ 14 → k ≠ 15 → ∀ a b c : Nat → Int32, w3 M 13 a b c k = M k := fun k h1 h2 h3 a b c => w3_ne _ _ _ _ _ h1 h2 h3
    have b34 : ∀ v, v = (if m i = 0 then (0 : Int32) else 1) → f_Pl_countNames_b34 N (f_Pl_countNames_l2 N fuel) (nI i) (nI (64 + idx i)) (nI (64 + idx i)) v (w3 M 13 a b c) = f_Pl_countNames_l62 N N 63 (w3 M 13 a' b' c') := by
      rintro v rfl
      rw [f_Pl_countNames_b34, if_pos z, nI_clamp (show 64 + idx i < 2 ^ 31 by omega), zlt_eq, if_pos z, zu_w3_0, zlt_eq, zu_w3_1, f_wasPut ii, Option.bind_some, if_pos z, n3 4 (by decide) (by decide) (by decide)]
      by_cases c4 : M 4 i = 0
      · rw [if_pos c4] at g1 ⊢
        rw [if_pos (show zbool 0 = true from rfl), zlt_eq, zlt_eq, zu_w3_2, nI_1]
        exact g1
      · rw [if_neg c4] at g1 ⊢
        rw [if_pos (show zbool 1 = true from rfl), zlt_eq, zlt_eq, zu_w3_2, nI_1]
        exact g1
    have hk : f_NM_keyOf N (nI i) (w3 M 13 a b c) = some (m i, w3 M 13 a b c) := by rw [f_keyOf ii, n3 4 (by decide) (by decide) (by decide), n3 3 (by decide) (by decide) (by decide), ← hm i ii]
    rw [f_Pl_countNames_l2, if_neg (show ¬ (64 : Int32) ≤ nI i by rw [lN64, nI_leI (by decide) (by omega)]; omega), (f_indexOf ii _).1, Option.bind_some, lN64, nI_add, zlt_eq, hk, Option.bind_some]
    by_cases c0 : m i = 0
    · rw [if_pos (show ((m i, w3 M 13 a b c) : Int32 × zMem).1 = 0 from c0)]
      exact b34 0 (by rw [if_pos c0])
    · rw [if_neg (show ¬ ((m i, w3 M 13 a b c) : Int32 × zMem).1 = 0 from c0)]
      exact b34 1 (by rw [if_neg c0])
/-- what the plan says of a prefix -/
def pC (m ok a b c : Nat → Int32) (h : Nat) : Prop := a h = nI (cT m h) ∧ (cT m h = 1 → b h = oT m h) ∧ c h = (if tT ok h = true then 1 else 0)
theorem cn_l62 {N : Nat} (M : zMem) (m ok : Nat → Int32) : ∀ i fuel a b c, i < 64 → i < fuel → (∀ h, i < h → h < 128 → pC m ok a b c h) → ∃ a' b' c', f_Pl_countNames_l62 N fuel (nI i) (w3 M 13 a b c) = some (0, w3 M 13 a' b' c') ∧ ∀ h, 0 < h → h < 128 → pC m ok a' b' c' h := by
  intro i
  induction i with
  | zero =>
    intro fuel a b c h64 hf h
    obtain ⟨fuel, rfl⟩ : ∃ m, fuel = m + 1 := ⟨fuel - 1, by omega⟩
    exact ⟨a, b, c, by rw [f_Pl_countNames_l62, if_pos (show nI 0 < 1 by decide)], h⟩
  | succ i ih =>
    intro fuel a b c h64 hf h
    obtain ⟨fuel, rfl⟩ : ∃ m, fuel = m + 1 := ⟨fuel - 1, by omega⟩
    obtain ⟨j, hj⟩ : ∃ j, j = i + 1 := ⟨_, rfl⟩
    rw [← hj] at h64 h ⊢
    have ej : nI j + (-1 : Int32) = nI i := by rw [nI_dec, hj, nI_prd]
    have zj : zin (nI j) 128 = true := zin_t (by omega) (by decide)
    have z0 : zin (nI (2 * j)) 128 = true := zin_t (by omega) (by decide)
    have z1 : zin (nI (2 * j + 1)) 128 = true := zin_t (by omega) (by decide)
    obtain ⟨p1, p2, p3⟩ := h (2 * j) (by omega) (by omega)
    obtain ⟨q1, q2, q3⟩ := h (2 * j + 1) (by omega) (by omega)
    have cin := cT_in m (show 0 < j by omega) h64
    have tin := tT_in ok (show 0 < j by omega) h64
    have c64 := cT_64 m (show 1 ≤ j by omega) (show j < 128 by omega)
    obtain ⟨T, hT⟩ : ∃ T : Int32, T = (if tT ok j = true then 1 else 0) := ⟨_, rfl⟩
    have main : ∀ O : Int32, (cT m j = 1 → O = oT m j) → ∃ a' b' c', f_Pl_countNames_b126 N (f_Pl_countNames_l62 N fuel) (nI j) (nI (2 * j)) (nI (2 * j + 1)) (nI j) O (w3 M 13 (upd a j (nI (cT m j))) b c) = some (0, w3 M 13 a' b' c') ∧ ∀ h, 0 < h → h < 128 → pC m ok a' b' c' h := by
      intro O hO
      obtain ⟨a', b', c', g1, g2⟩ := ih fuel (upd a j (nI (cT m j))) (upd b j O) (upd c j T) (by omega) (by omega) (fun h' hl hh => by
        by_cases e : h' = j
        · subst e; unfold pC; rw [upd_eq, upd_eq, upd_eq]; exact ⟨rfl, hO, hT⟩
        · unfold pC; rw [upd_ne _ _ e, upd_ne _ _ e, upd_ne _ _ e]; exact h h' (by omega) hh)
      refine ⟨a', b', c', ?_, g2⟩
      have last : ∀ v, v = T → f_Pl_countNames_b156 N (f_Pl_countNames_l62 N fuel) (nI j) (nI j) v (w3 M 13 (upd a j (nI (cT m j))) (upd b j O) c) = some (0, w3 M 13 a' b' c') := by
        rintro v rfl
        rw [f_Pl_countNames_b156, if_pos zj, nI_clamp (show j < 2 ^ 31 by omega), if_pos (show zbool v = true by rw [hT]; by_cases t : tT ok j = true; rw [if_pos t]; rfl; rw [if_neg t]; rfl), zlt_eq, zu_w3_2, zlt_eq, ej]
        exact g1
      rw [f_Pl_countNames_b126, if_pos zj, nI_clamp (show j < 2 ^ 31 by omega), nI_clamp (show 2 * j < 2 ^ 31 by omega), nI_clamp (show 2 * j + 1 < 2 ^ 31 by omega), zlt_eq, zu_w3_1, if_pos z0, w3_2, p3, q3, if_pos z1]
      by_cases t0 : tT ok (2 * j) = true
      · rw [if_pos t0, if_neg (show ¬ (1 : Int32) = 0 by decide), f_Pl_countNames_b151]
        exact last 1 (by rw [hT, tin, t0, Bool.true_or, if_pos rfl])
      · rw [if_neg t0, if_pos rfl]
        by_cases t1 : tT ok (2 * j + 1) = true
        · rw [if_pos t1, if_neg (show ¬ (1 : Int32) = 0 by decide), f_Pl_countNames_b151]
          exact last 1 (by rw [hT, tin, t1, Bool.or_true, if_pos rfl])
        · rw [if_neg t1, if_pos rfl]
          exact last 0 (by rw [hT, tin, if_neg (by rw [Bool.or_eq_true]; exact fun q => q.elim t0 t1)])
    rw [f_Pl_countNames_l62, if_neg (show ¬ nI j < 1 by rw [lN1, nI_ltI (by omega) (by decide)]; omega), show (2 : Int32) * nI j = nI (2 * j) by rw [lN2, nI_mulN], zlt_eq, nI_1, zlt_eq, if_pos z0, if_pos z1, if_pos zj, nI_clamp (show j < 2 ^ 31 by omega), nI_clamp (show 2 * j < 2 ^ 31 by omega), nI_clamp (show 2 * j + 1 < 2 ^ 31 by omega), w3_0, p1, q1, nI_add, ← cin, zlt_eq, zu_w3_0, if_pos z0, w3_0, upd_ne _ _ (show 2 * j ≠ j by omega), p1, if_pos z1, if_pos z0, w3_1]
    have cz := cT_64 m (h := 2 * j) (by omega) (by omega)
    by_cases c0 : cT m (2 * j) = 0
    · rw [if_pos (show nI (cT m (2 * j)) ≤ 0 by rw [c0]; decide)]
      refine main _ (fun c1 => ?_)
      have cr : cT m (2 * j + 1) = 1 := by omega
      rw [q2 cr, oT_in1 m (by omega) h64 c1, (cT_zero 0 m (128 - 2 * j) (2 * j) (by omega) (by omega) (by omega) c0).2]
      rw [Int32.add_comm (-1) (oT m (2 * j + 1)), Int32.add_assoc, show (-1 : Int32) + 1 = 0 by decide, Int32.add_zero]
    · rw [if_neg (show ¬ nI (cT m (2 * j)) ≤ 0 by rw [lN0, nI_leI (by omega) (by decide)]; omega)]
      refine main _ (fun c1 => ?_)
      have cl : cT m (2 * j) = 1 := by omega
      rw [p2 cl, oT_in1 m (by omega) h64 c1, (cT_zero 0 m (128 - (2 * j + 1)) (2 * j + 1) (by omega) (by omega) (by omega) (by omega)).2]
      rw [Int32.add_assoc, show (-1 : Int32) + 1 = 0 by decide, Int32.add_zero]
theorem f_countNames {N : Nat} (hN : 129 ≤ N) (M : zMem) (m : Nat → Int32) (hm : ∀ n, n < 64 → m n = if M 4 n = 0 then M 3 n else M 4 n) : ∃ a b c, f_Pl_countNames N M = some (0, w3 M 13 a b c) ∧ ∀ h, 0 < h → h < 128 → pC m (M 4) a b c h := by
  obtain ⟨a, b, c, g1, g2⟩ := cn_l2 (N := N) M m hm 64 0 N (M 13) (M 14) (M 15) (by omega) (by omega) (fun j hj => absurd hj (Nat.not_lt_zero _))
  rw [w3_self] at g1
  obtain ⟨a2, b2, c2, l1, l2⟩ := cn_l62 (N := N) M m (M 4) 63 N a b c (by omega) (by omega) (fun h hl hh => by
    obtain ⟨i1, i2⟩ := idx_ixn (h - 64) (by omega)
    obtain ⟨q1, q2, q3⟩ := g2 (ixn (h - 64)) i2
    rw [i1, show 64 + (h - 64) = h by omega] at q1 q2 q3
    unfold pC
    rw [cT_lf m (by omega), tT_lf _ (by omega), oT_lf m (by omega), q1, q2, q3]
    refine ⟨?_, fun q => ?_, ?_⟩
    · by_cases z : m (ixn (h - 64)) = 0
      · rw [if_pos z, if_pos z]; rfl
      · rw [if_neg z, if_neg z]; rfl
    · rw [if_neg (fun z => by rw [if_pos z] at q; omega)]
    · by_cases z : M 4 (ixn (h - 64)) = 0
      · rw [if_pos z, decide_eq_true z]; rfl
      · rw [if_neg z, decide_eq_false z]; rfl)
  refine ⟨a2, b2, c2, ?_, l2⟩
  rw [f_Pl_countNames, lN0, g1]
  exact l1
