/-! close(): the reference goes through the nodes -/
theorem g_isNode {N h : Nat} {m : Nat → Int32} {X : zMem} (h1 : 1 ≤ h) (h2 : h < 128) (ha : ∀ x, 0 < x → x < 128 → X 50 x = nI (cT m x)) : f_Mo_isNode N (nI h) X = some (if nd m h = true then 1 else 0, X) := by
  have c64 := cT_64 m h1 h2
  have z : zin (nI h) 128 = true := zin_t h2 (by decide)
  rw [f_Mo_isNode, if_pos z, nI_clamp (show h < 2 ^ 31 by omega), ha h (by omega) h2]
  by_cases c2 : 2 ≤ cT m h
  · rw [if_pos (show (1 : Int32) < nI (cT m h) by rw [lN1, nI_ltI (by decide) (by omega)]; omega), if_pos (nd_iff.mpr ⟨by omega, by
      by_cases q : h = 1
      · exact Or.inl q
      · have := cT_up m (h := h) (by omega) h2
        right; omega⟩)]
  · rw [if_neg (show ¬ (1 : Int32) < nI (cT m h) by rw [lN1, nI_ltI (by decide) (by omega)]; omega), if_pos z]
    by_cases c0 : cT m h = 0
    · rw [if_neg (show ¬ nI (cT m h) = 1 by rw [lN1, nI_eq (by omega) (by decide)]; omega), if_neg (fun q => by have := (nd_iff.mp q).1; omega)]
    · rw [if_pos (show nI (cT m h) = 1 by rw [lN1, nI_eq (by omega) (by decide)]; omega)]
      by_cases c1 : h = 1
      · rw [if_pos (show nI h = 1 by rw [c1]; rfl), if_pos (nd_iff.mpr ⟨by omega, Or.inl c1⟩)]
      · have d64 := cT_64 m (h := h / 2) (by omega) (by omega)
        rw [if_neg (show ¬ nI h = 1 by rw [lN1, nI_eq (by omega) (by decide)]; exact c1), div2 h (by omega), if_pos (zin_t (show h / 2 < 128 by omega) (by decide)), nI_clamp (show h / 2 < 2 ^ 31 by omega), ha (h / 2) (by omega) (by omega)]
        by_cases c3 : 2 ≤ cT m (h / 2)
        · rw [if_neg (show ¬ nI (cT m (h / 2)) ≤ 1 by rw [lN1, nI_leI (by omega) (by decide)]; omega), if_pos (nd_iff.mpr ⟨by omega, Or.inr c3⟩)]
        · rw [if_pos (show nI (cT m (h / 2)) ≤ 1 by rw [lN1, nI_leI (by omega) (by decide)]; omega), if_neg (fun q => (nd_iff.mp q).2.elim c1 c3)]
theorem shr128 : ∀ x, x < 128 → ∀ d, d < 7 → zshr (nI x) ((6 : Int32) - nI d) = nI (x / 2 ^ (6 - d)) := by decide +kernel
theorem shl_nz : ∀ d, d < 7 → znz (zshl (1 : Int32) ((6 : Int32) - nI d)) = true := by decide +kernel
theorem rem_sh : ∀ e, e < 64 → ∀ d, d < 7 → zrem (nI e + 1) (zshl (1 : Int32) ((6 : Int32) - nI d)) = nI ((e + 1) % 2 ^ (6 - d)) := by decide +kernel
theorem lvl : ∀ e, e < 64 → ∀ d, d < 7 → 2 ^ d ≤ (64 + e) / 2 ^ (6 - d) ∧ (64 + e) / 2 ^ (6 - d) < 2 ^ (d + 1) := by decide +kernel
theorem lvl_rng : ∀ d, d < 7 → 1 ≤ 2 ^ d ∧ 2 ^ (d + 1) ≤ 128 := by decide
/-- some name below i was put and has the prefix h -/
def tB (pt : Nat → Int32) (h j : Nat) : Nat → Bool
  | 0 => false
  | i + 1 => tB pt h j i || (!decide (pt i = 0) && decide ((64 + idx i) / 2 ^ j = h))
theorem tB_iff (pt : Nat → Int32) (h j : Nat) : ∀ i, tB pt h j i = true ↔ ∃ n, n < i ∧ pt n ≠ 0 ∧ (64 + idx n) / 2 ^ j = h
  | 0 => ⟨fun q => absurd q (by rw [tB]; decide), fun ⟨n, q, _⟩ => absurd q (Nat.not_lt_zero _)⟩
  | i + 1 => by
    rw [tB, Bool.or_eq_true, Bool.and_eq_true, decide_eq_true_iff, Bool.not_eq_true', decide_eq_false_iff_not, tB_iff pt h j i]
    constructor
    · rintro (⟨n, a, b⟩ | ⟨a, b⟩)
      · exact ⟨n, by omega, b⟩
      · exact ⟨i, by omega, a, b⟩
    · rintro ⟨n, a, b, c⟩
      by_cases q : n = i
      · subst q; exact Or.inr ⟨b, c⟩
      · exact Or.inl ⟨n, by omega, b, c⟩
theorem g_touched_l5 {N h l : Nat} (hl : l < 7) (hh : h < 128) (X : zMem) : ∀ d i fuel, i + d = 64 → d < fuel → f_Mo_touched_l5 N fuel (nI h) (nI l) (if tB (X 48) h (6 - l) i = true then 1 else 0) (nI i) X = some (if tB (X 48) h (6 - l) 64 = true then 1 else 0, X) := by
  intro d
  induction d with
  | zero =>
    intro i fuel hi hf
    obtain ⟨fuel, rfl⟩ : ∃ m, fuel = m + 1 := ⟨fuel - 1, by omega⟩
    have : i = 64 := by omega
    subst this
    rw [f_Mo_touched_l5, if_pos (show (64 : Int32) ≤ nI 64 by decide)]
    by_cases c : tB (X 48) h (6 - l) 64 = true
    · rw [if_pos c, if_pos (show zbool 1 = true from rfl)]
    · rw [if_neg c, if_pos (show zbool 0 = true from rfl)]
  | succ d ih =>
    intro i fuel hi hf
    obtain ⟨fuel, rfl⟩ : ∃ m, fuel = m + 1 := ⟨fuel - 1, by omega⟩
    have hix := idx_lt i
    have nx := ih (i + 1) fuel (by omega) (by omega)
    have hx : (64 + idx i) / 2 ^ (6 - l) < 128 := by have := Nat.div_le_self (64 + idx i) (2 ^ (6 - l)); omega
    rw [f_Mo_touched_l5, if_neg (show ¬ (64 : Int32) ≤ nI i by rw [lN64, nI_leI (by decide) (by omega)]; omega)]
    by_cases c : tB (X 48) h (6 - l) i = true
    · rw [if_pos c, if_neg (show ¬ (1 : Int32) = 0 by decide), f_Mo_touched_b43, f_Mo_touched_b48, zlt_eq, nI_1]
      rw [if_pos (show tB (X 48) h (6 - l) (i + 1) = true by rw [tB, c]; rfl)] at nx
      exact nx
    · have cf : tB (X 48) h (6 - l) i = false := by rw [Bool.not_eq_true] at c; exact c
      rw [if_neg c, if_pos rfl, if_pos (zin_t (show i < 64 by omega) (by decide)), nI_clamp (show i < 2 ^ 31 by omega)]
      by_cases p : X 48 i = 0
      · rw [if_neg (show ¬ tB (X 48) h (6 - l) (i + 1) = true by rw [tB, cf, decide_eq_true p]; simp)] at nx
        rw [if_pos p, f_Mo_touched_b47, f_Mo_touched_b48, zlt_eq, nI_1]
        exact nx
      · rw [if_neg p, (f_indexOf (show i < 64 by omega) _).2, Option.bind_some]
        dsimp only
        rw [lN64, nI_add, shr128 _ (by omega) l hl]
        by_cases q : (64 + idx i) / 2 ^ (6 - l) = h
        · rw [if_pos (show tB (X 48) h (6 - l) (i + 1) = true by rw [tB, cf, decide_eq_false p, decide_eq_true q]; rfl)] at nx
          rw [if_pos (by rw [q]), f_Mo_touched_b43, f_Mo_touched_b48, zlt_eq, nI_1]
          exact nx
        · rw [if_neg (show ¬ tB (X 48) h (6 - l) (i + 1) = true by rw [tB, cf, decide_eq_false p, decide_eq_false q]; decide)] at nx
          rw [if_neg (by rw [nI_eq (by omega) (by omega)]; exact q), f_Mo_touched_b47, f_Mo_touched_b48, zlt_eq, nI_1]
          exact nx
theorem g_touched {N h l : Nat} (hN : 65 ≤ N) (hl : l < 7) (h1 : 2 ^ l ≤ h) (h2 : h < 2 ^ (l + 1)) {ok : Nat → Int32} {X : zMem} (hp : ∀ n, n < 64 → (X 48 n = 0 ↔ ok n = 0)) : f_Mo_touched N (nI h) (nI l) X = some (if tT ok h = true then 1 else 0, X) := by
  obtain ⟨l1, l2⟩ := lvl_rng l hl
  have a := g_touched_l5 (N := N) (h := h) hl (by omega) X 64 0 N (by omega) (by omega)
  rw [if_neg (show ¬ tB (X 48) h (6 - l) 0 = true by rw [tB]; decide)] at a
  rw [f_Mo_touched]
  have e : tB (X 48) h (6 - l) 64 = true ↔ tT ok h = true := by
    rw [← tT_congr hp (128 - h) h (by omega) (by omega) (by omega), tB_iff]
    constructor
    · rintro ⟨n, n1, n2, n3⟩
      have := tT_of (X 48) n1 n2 (6 - l) (by omega)
      rw [n3] at this
      exact this
    · intro t
      exact tT_to (X 48) (6 - l) (by omega) h (by rw [show 6 - (6 - l) = l by omega]; exact h1) (by rw [show 7 - (6 - l) = l + 1 by omega]; exact h2) t
  by_cases t : tT ok h = true
  · rw [if_pos (e.mpr t)] at a
    rw [if_pos t]
    exact a
  · rw [if_neg (fun q => t (e.mp q))] at a
    rw [if_neg t]
    exact a
/-- a walk over the prefixes in the reference -/
theorem nodes_l14 {N e : Nat} (he : e < 64) (x1 : Int32) (Q : List Nat → Nat → zMem → Prop) (step : ∀ h l R c M, l < 7 → 2 ^ l ≤ h → h < 2 ^ (l + 1) → Q (h :: R) c M → ∃ c' M', Q R c' M' ∧ ∀ k4 k14 x3, f_Mo_nodes_b50 N k4 k14 x1 (nI c) x3 (nI l) (nI h) 1 M = f_Mo_nodes_b97 N k4 k14 x1 (nI c') x3 (nI l) M') (k4 : Int32 → Int32 → Int32 → zMem → Option (Int32 × zMem)) : ∀ d fuel R c M, d ≤ 7 → d < fuel → Q (rl e d ++ R) c M → ∃ c' M', Q R c' M' ∧ f_Mo_nodes_l14 N k4 fuel x1 (nI c) (nI e) (nI d - 1) M = k4 x1 (nI c') (nI (e + 1)) M' := by
  intro d
  induction d with
  | zero =>
    intro fuel R c M hd hf hQ
    obtain ⟨fuel, rfl⟩ : ∃ m, fuel = m + 1 := ⟨fuel - 1, by omega⟩
    exact ⟨c, M, hQ, by rw [f_Mo_nodes_l14, if_pos nI_0m, zlt_eq, nI_1]⟩
  | succ l ih =>
    intro fuel R c M hd hf hQ
    obtain ⟨fuel, rfl⟩ : ∃ m, fuel = m + 1 := ⟨fuel - 1, by omega⟩
    obtain ⟨v1, v2⟩ := lvl e he l (by omega)
    rw [f_Mo_nodes_l14, nI_prd, if_neg (nI_lt0 (show l < 2 ^ 31 by omega)), lN64, nI_add, shr128 _ (by omega) l (by omega), zlt_eq, if_pos (shl_nz l (by omega)), rem_sh e he l (by omega)]
    rw [rl] at hQ
    have hm : (e + 1) % 2 ^ (6 - l) ≤ e + 1 := Nat.mod_le _ _
    by_cases c0 : (e + 1) % 2 ^ (6 - l) = 0
    · rw [if_pos c0, List.cons_append] at hQ
      obtain ⟨c', M', s1, s2⟩ := step _ l _ c M (by omega) v1 v2 hQ
      obtain ⟨c2, M2, t1, t2⟩ := ih fuel R c' M' (by omega) (by omega) s1
      refine ⟨c2, M2, t1, ?_⟩
      rw [if_pos (by rw [c0]; rfl), s2, f_Mo_nodes_b97, zlt_eq, nI_dec]
      exact t2
    · rw [if_neg c0] at hQ
      obtain ⟨c2, M2, t1, t2⟩ := ih fuel R c M (by omega) (by omega) hQ
      refine ⟨c2, M2, t1, ?_⟩
      rw [if_neg (by rw [lN0, nI_eq (by omega) (by decide)]; exact c0), f_Mo_nodes_b50, if_pos rfl, f_Mo_nodes_b97, zlt_eq, nI_dec]
      exact t2
theorem nodes_l4 {N : Nat} (hN : 8 ≤ N) (x1 : Int32) (Q : List Nat → Nat → zMem → Prop) (step : ∀ h l R c M, l < 7 → 2 ^ l ≤ h → h < 2 ^ (l + 1) → Q (h :: R) c M → ∃ c' M', Q R c' M' ∧ ∀ k4 k14 x3, f_Mo_nodes_b50 N k4 k14 x1 (nI c) x3 (nI l) (nI h) 1 M = f_Mo_nodes_b97 N k4 k14 x1 (nI c') x3 (nI l) M') : ∀ d e fuel c M, e + d = 64 → d < fuel → Q (oF d e) c M → ∃ c' M', Q [] c' M' ∧ f_Mo_nodes_l4 N fuel x1 (nI c) (nI e) M = some (nI c', M') := by
  intro d
  induction d with
  | zero =>
    intro e fuel c M he hf hQ
    obtain ⟨fuel, rfl⟩ : ∃ m, fuel = m + 1 := ⟨fuel - 1, by omega⟩
    have : e = 64 := by omega
    subst this
    exact ⟨c, M, hQ, by rw [f_Mo_nodes_l4, if_pos (show (64 : Int32) ≤ nI 64 by decide)]⟩
  | succ d ih =>
    intro e fuel c M he hf hQ
    obtain ⟨fuel, rfl⟩ : ∃ m, fuel = m + 1 := ⟨fuel - 1, by omega⟩
    rw [oF, ← rl_oE e (by omega)] at hQ
    obtain ⟨c1, M1, s1, s2⟩ := nodes_l14 (show e < 64 by omega) x1 Q step (f_Mo_nodes_l4 N fuel) 7 N (oF d (e + 1)) c M (by omega) (by omega) hQ
    obtain ⟨c2, M2, t1, t2⟩ := ih (e + 1) fuel c1 M1 (by omega) (by omega) s1
    refine ⟨c2, M2, t1, ?_⟩
    rw [f_Mo_nodes_l4, if_neg (show ¬ (64 : Int32) ≤ nI e by rw [lN64, nI_leI (by decide) (by omega)]; omega), show (6 : Int32) = nI 7 - 1 by decide]
    exact s2.trans t2
/-- how many there are to write -/
theorem g_count {N : Nat} (hN : 129 ≤ N) {m ok : Nat → Int32} {M : zMem} (ha : ∀ x, 0 < x → x < 128 → M 50 x = nI (cT m x)) (hp : ∀ n, n < 64 → (M 48 n = 0 ↔ ok n = 0)) (h0 : M 45 18 = 0) : f_Mo_nodes N 0 M = some (nI (Wl (fun x => nd m x && tT ok x)).length, M) := by
  obtain ⟨c, M', ⟨e1, P, e2, e3⟩, r⟩ := nodes_l4 (N := N) (by omega) 0 (fun R c X => X = M ∧ ∃ P, oAll = P ++ R ∧ c = (P.filter (fun x => nd m x && tT ok x)).length) (fun h l R c X hl l1 l2 hQ => by
    obtain ⟨e1, P, e2, e3⟩ := hQ
    subst e1
    obtain ⟨v1, v2⟩ := lvl_rng l hl
    have e4 : oAll = (P ++ [h]) ++ R := by rw [e2, List.append_assoc]; rfl
    have b50 : ∀ k4 k14 x3, f_Mo_nodes_b50 N k4 k14 0 (nI c) x3 (nI l) (nI h) 1 X = f_Mo_nodes_b97 N k4 k14 0 (nI (if (nd m h && tT ok h) = true then c + 1 else c)) x3 (nI l) X := by
      intro k4 k14 x3
      rw [f_Mo_nodes_b50, if_neg (show ¬ (1 : Int32) = 0 by decide), g_isNode (by omega) (by omega) ha, Option.bind_some]
      dsimp only
      by_cases cn : nd m h = true
      · rw [if_pos cn, if_neg (show ¬ (1 : Int32) = 0 by decide), g_touched (by omega) hl l1 l2 hp, Option.bind_some]
        dsimp only
        by_cases ct : tT ok h = true
        · rw [if_pos ct, if_neg (show ¬ (1 : Int32) = 0 by decide), if_pos h0, zlt_eq, if_pos rfl, nI_1, if_pos (by rw [cn, ct]; rfl)]
        · rw [if_neg ct, if_pos rfl, if_neg (by rw [Bool.and_eq_true]; exact fun q => ct q.2)]
      · rw [if_neg cn, if_pos rfl, if_neg (by rw [Bool.and_eq_true]; exact fun q => cn q.1)]
    refine ⟨_, X, ⟨rfl, P ++ [h], e4, ?_⟩, b50⟩
    rw [List.filter_append, List.filter_cons, List.filter_nil, e3]
    by_cases cw : (nd m h && tT ok h) = true
    · rw [if_pos cw, if_pos cw, List.length_append]; rfl
    · rw [if_neg cw, if_neg cw, List.append_nil]) 64 0 N 0 M (by omega) (by omega) ⟨rfl, [], rfl, rfl⟩
  subst e1
  rw [List.append_nil] at e2
  subst e2
  rw [f_Mo_nodes]
  rw [e3] at r
  exact r
