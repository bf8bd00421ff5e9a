/-! the reference's way -/
def v4 (M : zMem) (o a b c : Nat → Int32) : zMem := fun k => if k = 45 then o else if k = 64 then a else if k = 65 then b else if k = 66 then c else M k
theorem v4_45 (M : zMem) (o a b c : Nat → Int32) : v4 M o a b c 45 = o := rfl
theorem v4_64 (M : zMem) (o a b c : Nat → Int32) : v4 M o a b c 64 = a := rfl
theorem v4_65 (M : zMem) (o a b c : Nat → Int32) : v4 M o a b c 65 = b := rfl
theorem v4_66 (M : zMem) (o a b c : Nat → Int32) : v4 M o a b c 66 = c := rfl
theorem v4_ne (M : zMem) (o a b c : Nat → Int32) {k : Nat} (h0 : k ≠ 45) (h1 : k ≠ 64) (h2 : k ≠ 65) (h3 : k ≠ 66) : v4 M o a b c k = M k := by unfold v4; rw [if_neg h0, if_neg h1, if_neg h2, if_neg h3]
theorem v4_self (M : zMem) : v4 M (M 45) (M 64) (M 65) (M 66) = M := by
  funext k
  unfold v4
  by_cases h0 : k = 45
  · rw [if_pos h0, h0]
  · rw [if_neg h0]
    by_cases h1 : k = 64
    · rw [if_pos h1, h1]
    · rw [if_neg h1]
      by_cases h2 : k = 65
      · rw [if_pos h2, h2]
      · rw [if_neg h2]
        by_cases h3 : k = 66
        · rw [if_pos h3, h3]
        · rw [if_neg h3]
theorem zu_v4_45 (M : zMem) (o a b c : Nat → Int32) (j : Nat) (v : Int32) : zu (v4 M o a b c) 45 j v = v4 M (upd o j v) a b c := by
  funext k; unfold zu
  by_cases h0 : k = 45
  · rw [if_pos h0, h0]; rfl
  · rw [if_neg h0]; unfold v4; rw [if_neg h0, if_neg h0]
theorem zu_v4_64 (M : zMem) (o a b c : Nat → Int32) (j : Nat) (v : Int32) : zu (v4 M o a b c) 64 j v = v4 M o (upd a j v) b c := by
  funext k; unfold zu
  by_cases h0 : k = 64
  · rw [if_pos h0, h0]; rfl
  · rw [if_neg h0]; unfold v4; rw [if_neg h0, if_neg h0]
theorem zu_v4_65 (M : zMem) (o a b c : Nat → Int32) (j : Nat) (v : Int32) : zu (v4 M o a b c) 65 j v = v4 M o a (upd b j v) c := by
  funext k; unfold zu
  by_cases h0 : k = 65
  · rw [if_pos h0, h0]; rfl
  · rw [if_neg h0]; unfold v4; rw [if_neg h0, if_neg h0]
theorem zu_v4_66 (M : zMem) (o a b c : Nat → Int32) (j : Nat) (v : Int32) : zu (v4 M o a b c) 66 j v = v4 M o a b (upd c j v) := by
  funext k; unfold zu
  by_cases h0 : k = 66
  · rw [if_pos h0, h0]; rfl
  · rw [if_neg h0]; unfold v4; rw [if_neg h0, if_neg h0]
theorem mw_l37 {N : Nat} (k13 : Int32 → Int32 → Int32 → Int32 → zMem → Option (Int32 × zMem)) (M : zMem) (e s n : Nat) (x3 : Int32) (h2 : 2 ≤ n) (h64 : s + n ≤ 64) (he : e < 64) : ∀ d b fuel, b + d = 6 → d < fuel → 2 ^ b < n → f_Mo_way_l37 N k13 fuel (nI e) x3 (nI s) (nI n) (nI (2 ^ b)) M = if e < s + gpb n then f_Mo_way_b69 N k13 (nI e) x3 (nI s) (nI n) (nI (gpb n)) 0 M else f_Mo_way_b69 N k13 (nI e) x3 (nI s) (nI n) (nI (gpb n)) 1 M := by
  intro d
  induction d with
  | zero =>
    intro b fuel hb hf hn
    have : b = 6 := by omega
    subst this
    have e6 : (2 : Nat) ^ 6 = 64 := rfl
    omega
  | succ d ih =>
    intro b fuel hb hf hn
    obtain ⟨fuel, rfl⟩ : ∃ m, fuel = m + 1 := ⟨fuel - 1, by omega⟩
    have hp : (2 : Nat) ^ (b + 1) = 2 ^ b * 2 := Nat.pow_succ ..
    have e1 : (2 : Int32) * nI (2 ^ b) = nI (2 ^ (b + 1)) := by rw [lN2, nI_mulN, hp, Nat.mul_comm]
    rw [f_Mo_way_l37, e1]
    by_cases c : n ≤ 2 ^ (b + 1)
    · rw [if_pos (by rw [nI_leI (by omega) (by omega)]; exact c), nI_add, gpb_eq b n hn c]
      by_cases c2 : e < s + 2 ^ b
      · rw [if_pos (by rw [nI_ltI (by omega) (by omega)]; exact c2), if_pos c2]
      · rw [if_neg (by rw [nI_ltI (by omega) (by omega)]; exact c2), if_neg c2]
    · rw [if_neg (by rw [nI_leI (by omega) (by omega)]; exact c)]
      simp only [zlt]
      exact ih (b + 1) fuel (by omega) (by omega) (by omega)
theorem mw_step {N : Nat} (hN : 7 ≤ N) (k13 : Int32 → Int32 → Int32 → Int32 → zMem → Option (Int32 × zMem)) (M : zMem) (e s n st : Nat) (x3 : Int32) (o a b c : Nat → Int32) (h2 : 2 ≤ n) (h64 : s + n ≤ 64) (he : e < 64) (hst : st < 8) (h0 : o 25 = nI st) :
    f_Mo_way_b34 N k13 (nI e) x3 (nI s) (nI n) (v4 M o a b c) = if e < s + gpb n then k13 (nI e) x3 (nI s) (nI (gpb n)) (v4 M (upd o 25 (nI (st + 1))) (upd a st 0) (upd b st (nI (s + gpb n))) (upd c st (nI (n - gpb n)))) else k13 (nI e) x3 (nI (s + gpb n)) (nI (n - gpb n)) (v4 M (upd o 25 (nI (st + 1))) (upd a st 1) (upd b st (nI s)) (upd c st (nI (gpb n)))) := by
  have hk := gpb_lt n h2
  have z8 : zin (nI st) 8 = true := zin_t hst (by decide)
  have cl : (nI st).toNatClampNeg = st := nI_clamp (by omega)
  have hsub : nI n - nI (gpb n) = nI (n - gpb n) := nI_subN (by omega)
  rw [f_Mo_way_b34, show f_Mo_way_l37 N k13 N (nI e) x3 (nI s) (nI n) 1 (v4 M o a b c) = _ from mw_l37 k13 (v4 M o a b c) e s n x3 h2 h64 he 6 0 N (by omega) (by omega) (by show 1 < n; omega)]
  by_cases c2 : e < s + gpb n
  · rw [if_pos c2, if_pos c2]
    simp only [f_Mo_way_b69, f_Mo_way_b105, f_Mo_way_b129, f_Mo_way_b155, f_Mo_way_b172, zlt, v4_45, h0, if_pos z8, cl, show zbool 0 = true from rfl, if_true, zu_v4_64, zu_v4_65, zu_v4_66, zu_v4_45, hsub, nI_add, nI_1]
  · rw [if_neg c2, if_neg c2]
    simp only [f_Mo_way_b69, f_Mo_way_b105, f_Mo_way_b129, f_Mo_way_b155, f_Mo_way_b172, zlt, v4_45, h0, if_pos z8, cl, show zbool 1 = true from rfl, if_true, if_neg (show ¬ (1 : Int32) = 0 by decide), zu_v4_64, zu_v4_65, zu_v4_66, zu_v4_45, hsub, nI_add, nI_1]
theorem mw_loop {N : Nat} (hN : 7 ≤ N) (M : zMem) (e : Nat) (wh : Bool) (he : e < 64) : ∀ f s n st fuel o a b c, n ≤ 2 ^ f → 1 ≤ n → st + f ≤ 7 → f < fuel → s + n ≤ 64 → o 25 = nI st →
    ∃ o' a' b' c', f_Mo_way_l13 N fuel (nI e) (if wh = true then 1 else 0) (nI s) (nI n) (v4 M o a b c) = some (0, v4 M o' a' b' c') ∧ o' 25 = nI (st + (wy e wh f s n).1.length) ∧ o' 29 = nI (wy e wh f s n).2.1 ∧ o' 30 = nI (wy e wh f s n).2.2 ∧ (∀ i, i ≠ 25 → i ≠ 29 → i ≠ 30 → o' i = o i) ∧
      (∀ i, i < st → a' i = a i ∧ b' i = b i ∧ c' i = c i) ∧ ∀ i q, (wy e wh f s n).1[i]? = some q → a' (st + i) = (if q.1 = true then 1 else 0) ∧ b' (st + i) = nI q.2.1 ∧ c' (st + i) = nI q.2.2 := by
  intro f
  induction f with
  | zero =>
    intro s n st fuel o a b c hn hn1 hst hf h64 h0
    obtain ⟨fuel, rfl⟩ : ∃ m, fuel = m + 1 := ⟨fuel - 1, by omega⟩
    have e0 : (2 : Nat) ^ 0 = 1 := rfl
    refine ⟨upd (upd o 29 (nI s)) 30 (nI n), a, b, c, ?_, ?_, ?_, ?_, fun i h1 h2 h3 => ?_, fun i hi => ⟨rfl, rfl, rfl⟩, fun i q hq => by rw [wy] at hq; cases hq⟩
    · rw [f_Mo_way_l13, if_pos (show nI n ≤ (1 : Int32) by rw [lN1, nI_leI (by omega) (by decide)]; omega)]
      simp only [zlt, zu_v4_45]
    · rw [upd_ne _ _ (by decide), upd_ne _ _ (by decide), h0]; rfl
    · rw [upd_ne _ _ (by decide), upd_eq]; rfl
    · rw [upd_eq]; rfl
    · rw [upd_ne _ _ h3, upd_ne _ _ h2]
  | succ f ih =>
    intro s n st fuel o a b c hn hn1 hst hf h64 h0
    obtain ⟨fuel, rfl⟩ : ∃ m, fuel = m + 1 := ⟨fuel - 1, by omega⟩
    have hm1 : nI s + nI n - (1 : Int32) = nI (s + n - 1) := by rw [nI_add, lN1, nI_subN (by omega)]
    rw [f_Mo_way_l13, hm1]
    have stop : (n ≤ 1 ∨ (wh = true ∧ s + n ≤ e + 1)) → ∃ o' a' b' c', (zlt (zu (v4 M o a b c) 45 29 (nI s)) fun M180 => zlt (zu M180 45 30 (nI n)) fun M186 => some ((0 : Int32), M186)) = some (0, v4 M o' a' b' c') ∧ o' 25 = nI (st + (wy e wh (f + 1) s n).1.length) ∧ o' 29 = nI (wy e wh (f + 1) s n).2.1 ∧ o' 30 = nI (wy e wh (f + 1) s n).2.2 ∧ (∀ i, i ≠ 25 → i ≠ 29 → i ≠ 30 → o' i = o i) ∧
      (∀ i, i < st → a' i = a i ∧ b' i = b i ∧ c' i = c i) ∧ ∀ i q, (wy e wh (f + 1) s n).1[i]? = some q → a' (st + i) = (if q.1 = true then 1 else 0) ∧ b' (st + i) = nI q.2.1 ∧ c' (st + i) = nI q.2.2 := by
      intro hc
      rw [wy, if_pos hc]
      refine ⟨upd (upd o 29 (nI s)) 30 (nI n), a, b, c, by simp only [zlt, zu_v4_45], ?_, ?_, ?_, fun i h1 h2 h3 => ?_, fun i hi => ⟨rfl, rfl, rfl⟩, fun i q hq => by cases hq⟩
      · rw [upd_ne _ _ (by decide), upd_ne _ _ (by decide), h0]; rfl
      · rw [upd_ne _ _ (by decide), upd_eq]
      · rw [upd_eq]
      · rw [upd_ne _ _ h3, upd_ne _ _ h2]
    have move : ¬ (n ≤ 1 ∨ (wh = true ∧ s + n ≤ e + 1)) → ∃ o' a' b' c', f_Mo_way_b34 N (f_Mo_way_l13 N fuel) (nI e) (if wh = true then 1 else 0) (nI s) (nI n) (v4 M o a b c) = some (0, v4 M o' a' b' c') ∧ o' 25 = nI (st + (wy e wh (f + 1) s n).1.length) ∧ o' 29 = nI (wy e wh (f + 1) s n).2.1 ∧ o' 30 = nI (wy e wh (f + 1) s n).2.2 ∧ (∀ i, i ≠ 25 → i ≠ 29 → i ≠ 30 → o' i = o i) ∧
      (∀ i, i < st → a' i = a i ∧ b' i = b i ∧ c' i = c i) ∧ ∀ i q, (wy e wh (f + 1) s n).1[i]? = some q → a' (st + i) = (if q.1 = true then 1 else 0) ∧ b' (st + i) = nI q.2.1 ∧ c' (st + i) = nI q.2.2 := by
      intro hc
      have hn2 : 2 ≤ n := by
        rcases Nat.lt_or_ge n 2 with g | g
        · exact absurd (Or.inl (by omega)) hc
        · exact g
      have hk := gpb_lt n hn2
      have hk1 := gpb_pos n
      have hh := gpb_half hn2 hn
      have hp : (2 : Nat) ^ (f + 1) = 2 ^ f * 2 := Nat.pow_succ ..
      rw [mw_step hN _ M e s n st _ o a b c hn2 h64 he (by omega) h0, wy, if_neg hc]
      by_cases c2 : e < s + gpb n
      · rw [if_pos c2, if_pos c2]
        obtain ⟨o', a', b', c', q1, q2, q3, q4, q5, q6, q7⟩ := ih s (gpb n) (st + 1) fuel (upd o 25 (nI (st + 1))) (upd a st 0) (upd b st (nI (s + gpb n))) (upd c st (nI (n - gpb n))) hh hk1 (by omega) (by omega) (by omega) (upd_eq _ _ _)
        refine ⟨o', a', b', c', q1, ?_, q3, q4, fun i h1 h2 h3 => by rw [q5 i h1 h2 h3, upd_ne _ _ h1], fun i hi => ?_, fun i q hq => ?_⟩
        · rw [q2, List.length_cons]; congr 1; omega
        · obtain ⟨g1, g2, g3⟩ := q6 i (by omega)
          rw [g1, g2, g3, upd_ne _ _ (by omega), upd_ne _ _ (by omega), upd_ne _ _ (by omega)]; exact ⟨rfl, rfl, rfl⟩
        · cases i with
          | zero =>
            simp only [List.getElem?_cons_zero, Option.some.injEq] at hq
            subst hq
            obtain ⟨g1, g2, g3⟩ := q6 st (by omega)
            rw [Nat.add_zero, g1, g2, g3, upd_eq, upd_eq, upd_eq]
            exact ⟨rfl, rfl, rfl⟩
          | succ i =>
            rw [List.getElem?_cons_succ] at hq
            rw [show st + (i + 1) = st + 1 + i by omega]
            exact q7 i q hq
      · rw [if_neg c2, if_neg c2]
        obtain ⟨o', a', b', c', q1, q2, q3, q4, q5, q6, q7⟩ := ih (s + gpb n) (n - gpb n) (st + 1) fuel (upd o 25 (nI (st + 1))) (upd a st 1) (upd b st (nI s)) (upd c st (nI (gpb n))) (by omega) (by omega) (by omega) (by omega) (by omega) (upd_eq _ _ _)
        refine ⟨o', a', b', c', q1, ?_, q3, q4, fun i h1 h2 h3 => by rw [q5 i h1 h2 h3, upd_ne _ _ h1], fun i hi => ?_, fun i q hq => ?_⟩
        · rw [q2, List.length_cons]; congr 1; omega
        · obtain ⟨g1, g2, g3⟩ := q6 i (by omega)
          rw [g1, g2, g3, upd_ne _ _ (by omega), upd_ne _ _ (by omega), upd_ne _ _ (by omega)]; exact ⟨rfl, rfl, rfl⟩
        · cases i with
          | zero =>
            simp only [List.getElem?_cons_zero, Option.some.injEq] at hq
            subst hq
            obtain ⟨g1, g2, g3⟩ := q6 st (by omega)
            rw [Nat.add_zero, g1, g2, g3, upd_eq, upd_eq, upd_eq]
            exact ⟨rfl, rfl, rfl⟩
          | succ i =>
            rw [List.getElem?_cons_succ] at hq
            rw [show st + (i + 1) = st + 1 + i by omega]
            exact q7 i q hq
    by_cases c1 : n ≤ 1
    · rw [if_pos (show nI n ≤ (1 : Int32) by rw [lN1, nI_leI (by omega) (by decide)]; exact c1)]
      exact stop (Or.inl c1)
    · rw [if_neg (show ¬ nI n ≤ (1 : Int32) by rw [lN1, nI_leI (by omega) (by decide)]; exact c1)]
      cases wh with
      | false =>
        rw [if_pos (by decide)]
        exact move (by rintro (h | ⟨h, -⟩) <;> first | omega | cases h)
      | true =>
        rw [if_neg (by decide)]
        by_cases c2 : s + n - 1 ≤ e
        · rw [if_pos (by rw [nI_leI (by omega) (by omega)]; exact c2)]
          exact stop (Or.inr ⟨rfl, by omega⟩)
        · rw [if_neg (by rw [nI_leI (by omega) (by omega)]; exact c2)]
          exact move (by rintro (h | ⟨-, h⟩) <;> omega)
theorem f_way {N : Nat} (hN : 7 ≤ N) (M : zMem) (e n : Nat) (wh : Bool) (he : e ≤ n) (hn : n < 40) : ∃ o a b c, f_Mo_way N (nI e) (nI n) (if wh = true then 1 else 0) M = some (0, v4 M o a b c) ∧ o 25 = nI (wy e wh 6 0 (n + 1)).1.length ∧ o 29 = nI (wy e wh 6 0 (n + 1)).2.1 ∧ o 30 = nI (wy e wh 6 0 (n + 1)).2.2 ∧ (∀ i, i ≠ 25 → i ≠ 29 → i ≠ 30 → o i = M 45 i) ∧ ∀ i q, (wy e wh 6 0 (n + 1)).1[i]? = some q → a i = (if q.1 = true then 1 else 0) ∧ b i = nI q.2.1 ∧ c i = nI q.2.2 := by
  have e6 : (2 : Nat) ^ 6 = 64 := rfl
  obtain ⟨o, a, b, c, q1, q2, q3, q4, q5, q6, q7⟩ := mw_loop hN M e wh (by omega) 6 0 (n + 1) 0 N (upd (M 45) 25 0) (M 64) (M 65) (M 66) (by omega) (by omega) (by omega) (by omega) (by omega) (upd_eq _ _ _)
  refine ⟨o, a, b, c, ?_, by rw [q2, Nat.zero_add], q3, q4, fun i h1 h2 h3 => by rw [q5 i h1 h2 h3, upd_ne _ _ h1], fun i q hq => by have := q7 i q hq; rwa [Nat.zero_add] at this⟩
  rw [f_Mo_way]
  simp only [zlt, nI_1]
  rw [show zu M 45 25 0 = v4 M (upd (M 45) 25 0) (M 64) (M 65) (M 66) by rw [← zu_v4_45, v4_self]]
  exact q1
