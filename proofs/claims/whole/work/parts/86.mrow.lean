/-! the reference's row digest: a stack of rows of 2^a leaves -/
theorem gpb_eq : ∀ a n : Nat, 2 ^ a < n → n ≤ 2 ^ (a + 1) → gpb n = 2 ^ a := by
  intro a
  induction a with
  | zero =>
    intro n h1 h2
    have : n = 2 := by
      have e : (2 : Nat) ^ 0 = 1 := rfl
      have e2 : (2 : Nat) ^ (0 + 1) = 2 := rfl
      omega
    subst this
    exact gpb_small (Nat.le_refl _)
  | succ a ih =>
    intro n h1 h2
    have e1 : (2 : Nat) ^ (a + 1) = 2 ^ a * 2 := Nat.pow_succ ..
    have e2 : (2 : Nat) ^ (a + 1 + 1) = 2 ^ (a + 1) * 2 := Nat.pow_succ ..
    have hp : 0 < (2 : Nat) ^ a := Nat.pow_pos (by decide)
    rw [gpb_big (by omega), ih ((n + 1) / 2) (by omega) (by omega)]
    omega
def s2 (M : zMem) (pd sz : Nat → Int32) : zMem := sr (sr M 62 pd) 63 sz
theorem s2_62 (M : zMem) (pd sz : Nat → Int32) : s2 M pd sz 62 = pd := rfl
theorem s2_63 (M : zMem) (pd sz : Nat → Int32) : s2 M pd sz 63 = sz := rfl
theorem s2_ne (M : zMem) (pd sz : Nat → Int32) {k : Nat} (h1 : k ≠ 62) (h2 : k ≠ 63) : s2 M pd sz k = M k := by
  unfold s2; rw [sr_ne _ _ h2, sr_ne _ _ h1]
theorem zu_s2a (M : zMem) (pd sz : Nat → Int32) (j : Nat) (v : Int32) : zu (s2 M pd sz) 62 j v = s2 M (upd pd j v) sz := by
  funext k
  unfold zu
  by_cases h : k = 62
  · rw [if_pos h, h]; rfl
  · rw [if_neg h]
    unfold s2
    by_cases h3 : k = 63
    · rw [h3, sr_at, sr_at]
    · rw [sr_ne _ _ h3, sr_ne _ _ h3, sr_ne _ _ h, sr_ne _ _ h]
theorem zu_s2b (M : zMem) (pd sz : Nat → Int32) (j : Nat) (v : Int32) : zu (s2 M pd sz) 63 j v = s2 M pd (upd sz j v) := by
  unfold s2; exact zu_sr _ _ _ _ _
theorem s2_self (M : zMem) : s2 M (M 62) (M 63) = M := by
  unfold s2
  rw [sr_self]
  exact sr_self M 63
/-- a stack of p parts over the leaves fr .. fr + j - 1, sizes falling (the last two may be alike) -/
def Stk (J : Int32 → Int32 → Int32) (f : Nat → Int32) (fr p j : Nat) (pd sz : Nat → Int32) (a o : Nat → Nat) : Prop :=
  o 0 = 0 ∧ o p = j ∧ (∀ i, i < p → o (i + 1) = o i + 2 ^ (a i) ∧ sz i = nI (2 ^ (a i)) ∧ pd i = rd J f (fr + o i) (2 ^ (a i)))
def Fal (p : Nat) (a : Nat → Nat) : Prop := ∀ i, i + 1 < p → a (i + 1) < a i
def Fal' (p : Nat) (a : Nat → Nat) : Prop := (∀ i, i + 2 < p → a (i + 1) < a i) ∧ (2 ≤ p → a (p - 1) ≤ a (p - 2))
theorem stk_mono {J : Int32 → Int32 → Int32} {f : Nat → Int32} {fr p j : Nat} {pd sz : Nat → Int32} {a o : Nat → Nat} (h : Stk J f fr p j pd sz a o) : ∀ d i, i + d = p → o i ≤ j := by
  intro d
  induction d with
  | zero => intro i hi; rw [show i = p by omega, h.2.1]; exact Nat.le_refl _
  | succ d ih =>
    intro i hi
    have := ih (i + 1) (by omega)
    have := (h.2.2 i (by omega)).1
    have hp : 0 < (2 : Nat) ^ a i := Nat.pow_pos (by decide)
    omega
theorem stk_small {J : Int32 → Int32 → Int32} {f : Nat → Int32} {fr p j : Nat} {pd sz : Nat → Int32} {a o : Nat → Nat} (h : Stk J f fr p j pd sz a o) (hj : j ≤ 40) {i : Nat} (hi : i < p) : a i ≤ 5 := by
  have h1 := (h.2.2 i hi).1
  have h2 := stk_mono h (p - (i + 1)) (i + 1) (by omega)
  rcases Nat.lt_or_ge (a i) 6 with h3 | h3
  · omega
  · have := Nat.pow_le_pow_right (show 0 < 2 by decide) h3
    have e : (2 : Nat) ^ 6 = 64 := rfl
    omega
theorem stk_p {J : Int32 → Int32 → Int32} {f : Nat → Int32} {fr p j : Nat} {pd sz : Nat → Int32} {a o : Nat → Nat} (h : Stk J f fr p j pd sz a o) (hf : Fal p a) (hj : j ≤ 40) : p ≤ 6 := by
  have key : ∀ i, i < p → a i + i ≤ 5 := by
    intro i
    induction i with
    | zero => intro hi; exact stk_small h hj hi
    | succ i ih =>
      intro hi
      have := ih (by omega)
      have := hf i hi
      omega
  rcases Nat.lt_or_ge p 7 with h1 | h1
  · omega
  · have := key 6 (by omega)
    omega
theorem pw31 {a : Nat} (h : a ≤ 7) : (2 : Nat) ^ a < 2 ^ 31 := Nat.pow_lt_pow_right (by decide) (by omega)
/-- merging: like sizes at the end become one -/
theorem mo_l35 {N : Nat} (k5 : Int32 → Int32 → Int32 → Int32 → zMem → Option (Int32 × zMem)) (M : zMem) (x1 x2 x4 : Int32) (f : Nat → Int32) (fr j : Nat) (hj : j ≤ 40) : ∀ p, 1 ≤ p → p ≤ 7 → ∀ fuel pd sz a o, p ≤ fuel → Stk (zH (32 - M 45 0) 4) f fr p j pd sz a o → Fal' p a →
    ∃ p' pd' sz' a' o', 1 ≤ p' ∧ p' ≤ 7 ∧ Stk (zH (32 - M 45 0) 4) f fr p' j pd' sz' a' o' ∧ Fal p' a' ∧ f_Mo_row_l35 N k5 fuel x1 x2 (nI p) x4 (s2 M pd sz) = f_Mo_row_b104 N k5 x1 x2 (nI p') x4 (s2 M pd' sz') := by
  intro p
  induction p with
  | zero => intro h; omega
  | succ q ih =>
    intro h1 h7 fuel pd sz a o hf hS hF
    obtain ⟨fuel, rfl⟩ : ∃ m, fuel = m + 1 := ⟨fuel - 1, by omega⟩
    by_cases hq : q = 0
    · subst hq
      refine ⟨1, pd, sz, a, o, Nat.le_refl _, by decide, hS, fun i hi => by omega, ?_⟩
      rw [f_Mo_row_l35, if_pos (show nI (0 + 1) ≤ (1 : Int32) by decide)]
    · obtain ⟨q, rfl⟩ : ∃ m, q = m + 1 := ⟨q - 1, by omega⟩
      have e1 : nI (q + 1 + 1) - (1 : Int32) = nI (q + 1) := nI_pred (q + 1)
      have e2 : nI (q + 1 + 1) - (2 : Int32) = nI q := by rw [lN2, nI_subN (by omega)]; rfl
      have e3 : nI (q + 1 + 1) + (-1 : Int32) = nI (q + 1) := by rw [← Int32.sub_eq_add_neg]; exact e1
      have e4 : nI (q + 1) - (1 : Int32) = nI q := nI_pred q
      have t1 := hS.2.2 (q + 1) (by omega)
      have t0 := hS.2.2 q (by omega)
      have a1 := stk_small hS hj (show q + 1 < q + 1 + 1 by omega)
      have a0 := stk_small hS hj (show q < q + 1 + 1 by omega)
      rw [f_Mo_row_l35, if_neg (show ¬ nI (q + 1 + 1) ≤ (1 : Int32) by rw [lN1, nI_leI (by omega) (by decide)]; omega), e1, e2, e3, if_pos (zin_t (show q + 1 < 8 by omega) (by decide)), if_pos (zin_t (show q < 8 by omega) (by decide)), nI_clamp (show q + 1 < 2 ^ 31 by omega), nI_clamp (show q < 2 ^ 31 by omega), s2_63, t1.2.1, t0.2.1]
      by_cases hae : a (q + 1) = a q
      · rw [hae, if_pos rfl]
        simp only [zlt, f_hash, Option.bind_some, e4, nI_clamp (show q < 2 ^ 31 by omega), nI_clamp (show q + 1 < 2 ^ 31 by omega), if_pos (zin_t (show q < 8 by omega) (show 8 < 2 ^ 31 by decide)), if_pos (zin_t (show q + 1 < 8 by omega) (show 8 < 2 ^ 31 by decide)), s2_62, zu_s2a, s2_63, zu_s2b, t0.2.1]
        rw [s2_ne _ _ _ (show 45 ≠ 62 by decide) (show 45 ≠ 63 by decide)]
        have hmul : nI (2 ^ a q) * (2 : Int32) = nI (2 ^ (a q + 1)) := by rw [lN2, nI_mulN, Nat.pow_succ]
        rw [hmul]
        refine ih (by omega) (by omega) fuel (upd pd q (zH (32 - M 45 0) 4 (pd q) (pd (q + 1)))) (upd sz q (nI (2 ^ (a q + 1)))) (fun i => if i = q then a q + 1 else a i) (fun i => if i = q + 1 then o (q + 1 + 1) else o i) (by omega) ⟨?_, ?_, fun i hi => ?_⟩ ⟨fun i hi => ?_, fun h2 => ?_⟩
        · show (if 0 = q + 1 then _ else o 0) = 0
          rw [if_neg (by omega)]; exact hS.1
        · show (if q + 1 = q + 1 then o (q + 1 + 1) else _) = j
          rw [if_pos rfl]; exact hS.2.1
        · show (if i + 1 = q + 1 then o (q + 1 + 1) else o (i + 1)) = (if i = q + 1 then o (q + 1 + 1) else o i) + 2 ^ (if i = q then a q + 1 else a i) ∧ upd sz q (nI (2 ^ (a q + 1))) i = nI (2 ^ (if i = q then a q + 1 else a i)) ∧ upd pd q (zH (32 - M 45 0) 4 (pd q) (pd (q + 1))) i = rd (zH (32 - M 45 0) 4) f (fr + (if i = q + 1 then o (q + 1 + 1) else o i)) (2 ^ (if i = q then a q + 1 else a i))
          have hps : (2 : Nat) ^ (a q + 1) = 2 ^ a q * 2 := Nat.pow_succ ..
          have hpp : 0 < (2 : Nat) ^ a q := Nat.pow_pos (by decide)
          rw [if_neg (show ¬ i = q + 1 by omega)]
          by_cases hiq : i = q
          · subst hiq
            rw [if_pos rfl, if_pos rfl, upd_eq, upd_eq]
            refine ⟨?_, rfl, ?_⟩
            · have h3 := t1.1
              have h4 := t0.1
              rw [hae] at h3
              omega
            · rw [rd_big _ _ _ (by omega), gpb_eq (a i) _ (by omega) (Nat.le_refl _), t0.2.2, t1.2.2, hae, show 2 ^ (a i + 1) - 2 ^ a i = 2 ^ a i by omega, show fr + o (i + 1) = fr + o i + 2 ^ a i by rw [t0.1]; omega]
          · rw [if_neg (show ¬ i + 1 = q + 1 by omega), if_neg hiq, upd_ne _ _ hiq, upd_ne _ _ hiq]
            exact hS.2.2 i (by omega)
        · show (if i + 1 = q then a q + 1 else a (i + 1)) < (if i = q then a q + 1 else a i)
          rw [if_neg (by omega), if_neg (by omega)]
          exact hF.1 i (by omega)
        · show (if q + 1 - 1 = q then a q + 1 else a (q + 1 - 1)) ≤ (if q + 1 - 2 = q then a q + 1 else a (q + 1 - 2))
          rw [if_pos (by omega), if_neg (by omega)]
          have := hF.1 (q + 1 - 2) (by omega)
          rw [show q + 1 - 2 + 1 = q by omega] at this
          omega
      · have hne : ¬ nI (2 ^ a (q + 1)) = nI (2 ^ a q) := by
          rw [nI_eq (pw31 (by omega)) (pw31 (by omega))]
          intro h
          rcases Nat.lt_trichotomy (a (q + 1)) (a q) with g | g | g
          · have := Nat.pow_lt_pow_right (show 1 < 2 by decide) g
            omega
          · exact hae g
          · have := Nat.pow_lt_pow_right (show 1 < 2 by decide) g
            omega
        rw [if_neg hne]
        refine ⟨q + 1 + 1, pd, sz, a, o, by omega, h7, hS, fun i hi => ?_, rfl⟩
        by_cases hiq : i = q
        · subst hiq
          have := hF.2 (by omega)
          rw [show i + 1 + 1 - 1 = i + 1 by omega, show i + 1 + 1 - 2 = i by omega] at this
          omega
        · exact hF.1 i (by omega)
/-- the end: from the last part to the first -/
theorem mo_l110 {N : Nat} (M : zMem) (f : Nat → Int32) (fr j : Nat) (sz : Nat → Int32) (a o : Nat → Nat) (p0 : Nat) (h7 : p0 ≤ 7) (ho : ∀ i, i < p0 → o (i + 1) = o i + 2 ^ a i) (h0 : o 0 = 0) (hF : Fal p0 a) : ∀ p, 1 ≤ p → p ≤ p0 → ∀ fuel pd, p ≤ fuel → o (p - 1) < j → j - o (p - 1) < 2 ^ (a (p - 1) + 1) → pd (p - 1) = rd (zH (32 - M 45 0) 4) f (fr + o (p - 1)) (j - o (p - 1)) → (∀ i, i + 1 < p → pd i = rd (zH (32 - M 45 0) 4) f (fr + o i) (2 ^ a i)) →
    ∃ pd', f_Mo_row_l110 N fuel (nI p) (s2 M pd sz) = some (rd (zH (32 - M 45 0) 4) f fr j, s2 M pd' sz) := by
  intro p
  induction p with
  | zero => intro h; omega
  | succ q ih =>
    intro h1 hp fuel pd hf hj1 hj2 hlast hrest
    obtain ⟨fuel, rfl⟩ : ∃ m, fuel = m + 1 := ⟨fuel - 1, by omega⟩
    by_cases hq : q = 0
    · subst hq
      refine ⟨pd, ?_⟩
      rw [f_Mo_row_l110, if_pos (show nI (0 + 1) ≤ (1 : Int32) by decide), s2_62]
      rw [show pd 0 = rd (zH (32 - M 45 0) 4) f (fr + o 0) (j - o 0) from hlast, h0, Nat.add_zero, Nat.sub_zero]
    · obtain ⟨q, rfl⟩ : ∃ m, q = m + 1 := ⟨q - 1, by omega⟩
      have e1 : nI (q + 1 + 1) - (1 : Int32) = nI (q + 1) := nI_pred (q + 1)
      have e3 : nI (q + 1 + 1) + (-1 : Int32) = nI (q + 1) := by rw [← Int32.sub_eq_add_neg]; exact e1
      have e4 : nI (q + 1) - (1 : Int32) = nI q := nI_pred q
      have hoq := ho q (by omega)
      have hFq := hF q (by omega)
      have hpw : (2 : Nat) ^ (a (q + 1) + 1) ≤ 2 ^ a q := Nat.pow_le_pow_right (by decide) hFq
      have hps : (2 : Nat) ^ (a q + 1) = 2 ^ a q * 2 := Nat.pow_succ ..
      rw [show q + 1 + 1 - 1 = q + 1 by omega] at hj1 hj2 hlast
      rw [f_Mo_row_l110, if_neg (show ¬ nI (q + 1 + 1) ≤ (1 : Int32) by rw [lN1, nI_leI (by omega) (by decide)]; omega), e3]
      simp only [zlt, e4, nI_clamp (show q < 2 ^ 31 by omega), nI_clamp (show q + 1 < 2 ^ 31 by omega), if_pos (zin_t (show q < 8 by omega) (show 8 < 2 ^ 31 by decide)), if_pos (zin_t (show q + 1 < 8 by omega) (show 8 < 2 ^ 31 by decide)), f_hash, Option.bind_some, s2_62, zu_s2a]
      rw [s2_ne _ _ _ (show 45 ≠ 62 by decide) (show 45 ≠ 63 by decide)]
      refine ih (by omega) (by omega) fuel _ (by omega) (by rw [show q + 1 - 1 = q by omega]; omega) (by rw [show q + 1 - 1 = q by omega]; omega) ?_ (fun i hi => ?_)
      · rw [show q + 1 - 1 = q by omega, upd_eq, hlast, hrest q (by omega), rd_big _ _ (fr + o q) (n := j - o q) (by omega), gpb_eq (a q) (j - o q) (by omega) (by omega), hoq, show j - o q - 2 ^ a q = j - (o q + 2 ^ a q) by omega, Nat.add_assoc]
      · rw [upd_ne _ _ (by omega)]
        exact hrest i (by omega)
/-- the leaves of history, as the reference makes them -/
def lfM (M : zMem) (e : Nat) : Int32 := zH (32 - M 45 0) 3 (M 49 e) (nI e)
theorem mo_l5 {N : Nat} (hN : 41 ≤ N) (M : zMem) (fr n : Nat) (h1 : 1 ≤ n) (h40 : fr + n ≤ 40) : ∀ d j fuel p pd sz a o, j + d = n → d < fuel → (j = 0 ∧ p = 0 ∨ 1 ≤ j) → Stk (zH (32 - M 45 0) 4) (lfM M) fr p j pd sz a o → Fal p a →
    ∃ pd' sz', f_Mo_row_l5 N fuel (nI fr) (nI n) (nI p) (nI (fr + j)) (s2 M pd sz) = some (rd (zH (32 - M 45 0) 4) (lfM M) fr n, s2 M pd' sz') := by
  intro d
  induction d with
  | zero =>
    intro j fuel p pd sz a o hj hf hp0 hS hF
    obtain ⟨fuel, rfl⟩ : ∃ m, fuel = m + 1 := ⟨fuel - 1, by omega⟩
    have hjn : j = n := by omega
    subst hjn
    have hp6 := stk_p hS hF (by omega)
    have hpp : 1 ≤ p := by
      rcases Nat.eq_zero_or_pos p with h | h
      · subst h
        have h2 := hS.1
        have h3 := hS.2.1
        omega
      · exact h
    have hlast := hS.2.2 (p - 1) (by omega)
    rw [show p - 1 + 1 = p by omega, hS.2.1] at hlast
    have hpw : 0 < (2 : Nat) ^ a (p - 1) := Nat.pow_pos (by decide)
    have hps : (2 : Nat) ^ (a (p - 1) + 1) = 2 ^ a (p - 1) * 2 := Nat.pow_succ ..
    obtain ⟨pd', q⟩ := mo_l110 (N := N) M (lfM M) fr j sz a o p (by omega) (fun i hi => (hS.2.2 i hi).1) hS.1 hF p hpp (Nat.le_refl _) N pd (by omega) (by omega) (by omega) (by rw [hlast.2.2]; congr 1; omega) (fun i hi => (hS.2.2 i (by omega)).2.2)
    refine ⟨pd', sz, ?_⟩
    rw [f_Mo_row_l5, nI_add, if_pos (nI_le (Nat.le_refl _) (by omega)), q]
  | succ d ih =>
    intro j fuel p pd sz a o hj hf hp0 hS hF
    obtain ⟨fuel, rfl⟩ : ∃ m, fuel = m + 1 := ⟨fuel - 1, by omega⟩
    have hp6 := stk_p hS hF (by omega)
    -- the pushed stack
    have hS2 : Stk (zH (32 - M 45 0) 4) (lfM M) fr (p + 1) (j + 1) (upd pd p (lfM M (fr + j))) (upd sz p 1) (fun i => if i = p then 0 else a i) (fun i => if i = p + 1 then j + 1 else o i) := by
      refine ⟨?_, ?_, fun i hi => ?_⟩
      · show (if 0 = p + 1 then j + 1 else o 0) = 0
        rw [if_neg (by omega)]; exact hS.1
      · show (if p + 1 = p + 1 then j + 1 else _) = j + 1
        rw [if_pos rfl]
      · show (if i + 1 = p + 1 then j + 1 else o (i + 1)) = (if i = p + 1 then j + 1 else o i) + 2 ^ (if i = p then 0 else a i) ∧ upd sz p 1 i = nI (2 ^ (if i = p then 0 else a i)) ∧ upd pd p (lfM M (fr + j)) i = rd (zH (32 - M 45 0) 4) (lfM M) (fr + (if i = p + 1 then j + 1 else o i)) (2 ^ (if i = p then 0 else a i))
        rw [if_neg (show ¬ i = p + 1 by omega)]
        by_cases hip : i = p
        · subst hip
          rw [if_pos rfl, if_pos rfl, upd_eq, upd_eq, hS.2.1]
          refine ⟨rfl, rfl, ?_⟩
          rw [rd_one _ _ _ (show 2 ^ 0 ≤ 1 from Nat.le_refl _)]
        · rw [if_neg (show ¬ i + 1 = p + 1 by omega), if_neg hip, upd_ne _ _ hip, upd_ne _ _ hip]
          exact hS.2.2 i (by omega)
    have hF2 : Fal' (p + 1) (fun i => if i = p then 0 else a i) := by
      refine ⟨fun i hi => ?_, fun h2 => ?_⟩
      · show (if i + 1 = p then 0 else a (i + 1)) < (if i = p then 0 else a i)
        rw [if_neg (by omega), if_neg (by omega)]
        exact hF i (by omega)
      · show (if p + 1 - 1 = p then 0 else _) ≤ _
        rw [if_pos (by omega)]
        exact Nat.zero_le _
    obtain ⟨p', pd', sz', a', o', q1, q2, q3, q4, q5⟩ := mo_l35 (N := N) (f_Mo_row_l5 N fuel) M (nI fr) (nI n) (nI (fr + j)) (lfM M) fr (j + 1) (by omega) (p + 1) (by omega) (by omega) N _ _ _ _ (by omega) hS2 hF2
    obtain ⟨pd'', sz'', q6⟩ := ih (j + 1) fuel p' pd' sz' a' o' (by omega) (by omega) (Or.inr (by omega)) q3 q4
    refine ⟨pd'', sz'', ?_⟩
    rw [f_Mo_row_l5, nI_add, if_neg (by rw [nI_leI (by omega) (by omega)]; omega), f_Mo_leafOf, if_pos (zin_t (show fr + j < 40 by omega) (by decide)), nI_clamp (show fr + j < 2 ^ 31 by omega), f_hash]
    simp only [Option.bind_some, zlt, if_pos (zin_t (show p < 8 by omega) (show 8 < 2 ^ 31 by decide)), nI_clamp (show p < 2 ^ 31 by omega), zu_s2a, zu_s2b, nI_1]
    rw [s2_ne _ _ _ (show 45 ≠ 62 by decide) (show 45 ≠ 63 by decide), s2_ne _ _ _ (show 49 ≠ 62 by decide) (show 49 ≠ 63 by decide)]
    rw [show f_Mo_row_l35 N (f_Mo_row_l5 N fuel) N (nI fr) (nI n) (nI (p + 1)) (nI (fr + j)) (s2 M (upd pd p (zH (32 - M 45 0) 3 (M 49 (fr + j)) (nI (fr + j)))) (upd sz p 1)) = _ from q5, f_Mo_row_b104]
    simp only [zlt, nI_1]
    exact q6
theorem f_row {N : Nat} (hN : 41 ≤ N) (M : zMem) (fr n : Nat) (h1 : 1 ≤ n) (h40 : fr + n ≤ 40) : ∃ pd sz, f_Mo_row N (nI fr) (nI n) M = some (rd (zH (32 - M 45 0) 4) (lfM M) fr n, s2 M pd sz) := by
  obtain ⟨pd, sz, q⟩ := mo_l5 hN M fr n h1 h40 n 0 N 0 (M 62) (M 63) (fun _ => 0) (fun _ => 0) (by omega) (by omega) (Or.inl ⟨rfl, rfl⟩) ⟨rfl, rfl, fun i hi => by omega⟩ (fun i hi => by omega)
  refine ⟨pd, sz, ?_⟩
  rw [s2_self, Nat.add_zero] at q
  exact q
