/-! head; the way through a row of leaves, as class and reference go it -/
theorem Inv_s2 {M : zMem} (h : Inv M) (pd sz : Nat → Int32) : Inv (s2 M pd sz) := ⟨h.1, h.2.1, h.2.2.1, h.2.2.2.1, h.2.2.2.2.1, h.2.2.2.2.2.1, h.2.2.2.2.2.2⟩
theorem lfM_eq {M : zMem} {E : Nat} (hs : M 1 0 = 32 - M 45 0) (h : iHist (M 1 0) E (M 20) (M 21) (M 22) (M 49)) {e : Nat} (he : e < E) : lfM M e = M 21 e := by
  obtain ⟨h1, h2, -⟩ := h e he
  rw [h2, lfM, h1, hs]
theorem ok_head {N : Nat} (hN : 41 ≤ N) (x : Int32) : Ok2 (f_ED_head N x) (f_Mo_head N x) := by
  intro M hI
  obtain ⟨E, Nb, C, e1, e2, e3, e4, e5, e6, e7, e8, e9, e10⟩ := hI.2.2.2.2.2.2
  unfold f_ED_head f_Hi_isClosed f_Mo_head
  by_cases c0 : x < 0
  · exact ⟨-1, M, M, by rw [if_pos c0]; rfl, by rw [if_pos c0], hI⟩
  · obtain ⟨j, hj, rfl⟩ := nI_of c0
    by_cases c1 : j < E
    · obtain ⟨pd, sz, q⟩ := f_row hN M 0 (j + 1) (by omega) (by omega)
      refine ⟨M 22 j, M, s2 M pd sz, ?_, ?_, Inv_s2 hI _ _⟩
      · rw [if_neg c0, e2, if_neg (by rw [nI_leI (by omega) hj]; omega)]
        simp only [Option.bind_some, if_neg (show ¬ (1 : Int32) = 0 by decide), if_pos (zin_t (show j < 40 by omega) (show 40 < 2 ^ 31 by decide)), nI_clamp hj]
      · rw [if_neg c0, e3, if_pos (by rw [nI_ltI hj (by omega)]; exact c1), nI_1, show f_Mo_row N 0 (nI (j + 1)) M = _ from q]
        simp only [Option.bind_some]
        rw [(e9 j c1).2.2, ← hI.1, rd_congr _ (f := lfM M) (g := M 21) (j + 1) 0 (fun i hi => by rw [Nat.zero_add]; exact lfM_eq hI.1 e9 (by omega)) (by omega)]
    · refine ⟨-1, M, M, ?_, ?_, hI⟩
      · rw [if_neg c0, e2, if_pos (by rw [nI_leI (by omega) hj]; omega)]; rfl
      · rw [if_neg c0, e3, if_neg (by rw [nI_ltI hj (by omega)]; exact c1)]
/-- the way: for each step whether it goes to the second part, and the other part; then the row at its end -/
def wy (e : Nat) (wh : Bool) : Nat → Nat → Nat → List (Bool × Nat × Nat) × Nat × Nat
  | 0, s, n => ([], s, n)
  | f + 1, s, n => if n ≤ 1 ∨ (wh = true ∧ s + n ≤ e + 1) then ([], s, n) else if e < s + gpb n then ((false, s + gpb n, n - gpb n) :: (wy e wh f s (gpb n)).1, (wy e wh f s (gpb n)).2) else ((true, s, gpb n) :: (wy e wh f (s + gpb n) (n - gpb n)).1, (wy e wh f (s + gpb n) (n - gpb n)).2)
theorem gpb_half {n a : Nat} (h2 : 2 ≤ n) (h : n ≤ 2 ^ (a + 1)) : gpb n ≤ 2 ^ a := by
  have := gpb_lt n h2
  rcases Nat.lt_or_ge (2 ^ a) (gpb n) with h1 | h1
  · -- gpb n is a power of two
    have key : ∀ a n, 2 ≤ n → n ≤ 2 ^ (a + 1) → gpb n ≤ 2 ^ a := by
      intro a
      induction a with
      | zero =>
        intro n h2 h
        have e : (2 : Nat) ^ (0 + 1) = 2 := rfl
        rw [gpb_small (by omega)]
        exact Nat.le_refl _
      | succ a ih =>
        intro n h2 h
        have e1 : (2 : Nat) ^ (a + 1) = 2 ^ a * 2 := Nat.pow_succ ..
        have e2 : (2 : Nat) ^ (a + 1 + 1) = 2 ^ (a + 1) * 2 := Nat.pow_succ ..
        have hp : 0 < (2 : Nat) ^ a := Nat.pow_pos (by decide)
        by_cases h3 : n ≤ 2
        · rw [gpb_small h3]; omega
        · rw [gpb_big h3]
          have := ih ((n + 1) / 2) (by omega) (by omega)
          omega
    exact key a n h2 h
  · exact h1
theorem wy_len (e : Nat) (wh : Bool) : ∀ f s n, n ≤ 2 ^ f → 1 ≤ n → (wy e wh f s n).1.length ≤ f := by
  intro f
  induction f with
  | zero => intro s n h h1; rw [wy]; exact Nat.le_refl _
  | succ f ih =>
    intro s n h h1
    rw [wy]
    by_cases c : n ≤ 1 ∨ (wh = true ∧ s + n ≤ e + 1)
    · rw [if_pos c]; exact Nat.zero_le _
    · rw [if_neg c]
      have h2 : 2 ≤ n := by
        rcases Nat.lt_or_ge n 2 with g | g
        · exact absurd (Or.inl (by omega)) c
        · exact g
      have hk := gpb_lt n h2
      have hk1 := gpb_pos n
      have hh := gpb_half h2 h
      by_cases c2 : e < s + gpb n
      · rw [if_pos c2]
        have := ih s (gpb n) hh hk1
        simp only [List.length_cons]
        omega
      · rw [if_neg c2]
        have := ih (s + gpb n) (n - gpb n) (by omega) (by omega)
        simp only [List.length_cons]
        omega
/-- the end's row holds e; parts gone past begin before it, the others behind e -/
theorem wy_end (e : Nat) (wh : Bool) : ∀ f s n, s ≤ e → e < s + n → s ≤ (wy e wh f s n).2.1 ∧ (wy e wh f s n).2.1 ≤ e ∧ e < (wy e wh f s n).2.1 + (wy e wh f s n).2.2 ∧ (wy e wh f s n).2.1 + (wy e wh f s n).2.2 ≤ s + n ∧ ∀ q ∈ (wy e wh f s n).1, (q.1 = true ↔ q.2.1 < (wy e wh f s n).2.1) ∧ 1 ≤ q.2.2 ∧ s ≤ q.2.1 ∧ q.2.1 + q.2.2 ≤ s + n := by
  intro f
  induction f with
  | zero =>
    intro s n h1 h2
    rw [wy]
    exact ⟨Nat.le_refl _, h1, h2, Nat.le_refl _, fun q hq => by cases hq⟩
  | succ f ih =>
    intro s n h1 h2
    rw [wy]
    by_cases c : n ≤ 1 ∨ (wh = true ∧ s + n ≤ e + 1)
    · rw [if_pos c]
      exact ⟨Nat.le_refl _, h1, h2, Nat.le_refl _, fun q hq => by cases hq⟩
    · rw [if_neg c]
      have hn2 : 2 ≤ n := by
        rcases Nat.lt_or_ge n 2 with g | g
        · exact absurd (Or.inl (by omega)) c
        · exact g
      have hk := gpb_lt n hn2
      have hk1 := gpb_pos n
      by_cases c2 : e < s + gpb n
      · rw [if_pos c2]
        dsimp only
        obtain ⟨i1, i2, i3, i4, i5⟩ := ih s (gpb n) h1 c2
        refine ⟨i1, i2, i3, by omega, fun q hq => ?_⟩
        rcases List.mem_cons.mp hq with rfl | hq
        · refine ⟨⟨(fun h => Bool.noConfusion h), fun h => ?_⟩, by show 1 ≤ n - gpb n; omega, by show s ≤ s + gpb n; omega, by show s + gpb n + (n - gpb n) ≤ s + n; omega⟩
          exfalso
          have h' : s + gpb n < (wy e wh f s (gpb n)).2.1 := h
          omega
        · obtain ⟨j1, j2, j3, j4⟩ := i5 q hq
          exact ⟨j1, j2, j3, by omega⟩
      · rw [if_neg c2]
        dsimp only
        obtain ⟨i1, i2, i3, i4, i5⟩ := ih (s + gpb n) (n - gpb n) (by omega) (by omega)
        refine ⟨by omega, i2, i3, by omega, fun q hq => ?_⟩
        rcases List.mem_cons.mp hq with rfl | hq
        · refine ⟨⟨fun _ => ?_, fun _ => rfl⟩, hk1, Nat.le_refl _, by show s + gpb n ≤ s + n; omega⟩
          show s < (wy e wh f (s + gpb n) (n - gpb n)).2.1
          omega
        · obtain ⟨j1, j2, j3, j4⟩ := i5 q hq
          exact ⟨j1, j2, by omega, by omega⟩
theorem f_gpb {N : Nat} (M : zMem) (n : Nat) (h2 : 2 ≤ n) : ∀ a fuel, a ≤ 5 → a < fuel → n ≤ 2 ^ (a + 1) → f_Wy_greatestPowerBelow_l3 N fuel (nI n) (nI (2 ^ a)) M = some (nI (gpb n), M) := by
  intro a
  induction a with
  | zero =>
    intro fuel ha hf hn
    obtain ⟨fuel, rfl⟩ : ∃ m, fuel = m + 1 := ⟨fuel - 1, by omega⟩
    have e : (2 : Nat) ^ (0 + 1) = 2 := rfl
    rw [f_Wy_greatestPowerBelow_l3, if_pos (show nI (2 ^ 0) ≤ (1 : Int32) by decide), gpb_small (by omega)]
    rfl
  | succ a ih =>
    intro fuel ha hf hn
    obtain ⟨fuel, rfl⟩ : ∃ m, fuel = m + 1 := ⟨fuel - 1, by omega⟩
    have e1 : (2 : Nat) ^ (a + 1) = 2 ^ a * 2 := Nat.pow_succ ..
    have hp : 0 < (2 : Nat) ^ a := Nat.pow_pos (by decide)
    have hb : (2 : Nat) ^ (a + 1) ≤ 2 ^ 5 := Nat.pow_le_pow_right (by decide) (by omega)
    have e5 : (2 : Nat) ^ 5 = 32 := rfl
    have hb2 : (2 : Nat) ^ (a + 1 + 1) ≤ 2 ^ 6 := Nat.pow_le_pow_right (by decide) (by omega)
    have e6 : (2 : Nat) ^ 6 = 64 := rfl
    rw [f_Wy_greatestPowerBelow_l3, if_neg (show ¬ nI (2 ^ (a + 1)) ≤ (1 : Int32) by rw [lN1, nI_leI (by omega) (by decide)]; omega)]
    by_cases c : n ≤ 2 ^ (a + 1)
    · rw [if_pos (by rw [nI_leI (by omega) (by omega)]; exact c), div2 _ (by omega)]
      simp only [zlt]
      rw [show 2 ^ (a + 1) / 2 = 2 ^ a by omega]
      exact ih fuel (by omega) (by omega) c
    · rw [if_neg (by rw [nI_leI (by omega) (by omega)]; exact c), gpb_eq (a + 1) n (by omega) hn]
theorem f_gpbB {N : Nat} (hN : 6 ≤ N) (M : zMem) (n : Nat) (h2 : 2 ≤ n) (h64 : n ≤ 64) : f_Wy_greatestPowerBelow N (nI n) M = some (nI (gpb n), M) := f_gpb M n h2 5 N (Nat.le_refl _) (by omega) h64
