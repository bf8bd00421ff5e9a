/-! lookups checked: the form, the digests up to the root, the inputs kept -/
def bt (n i : Nat) : Nat := idx n / 2 ^ (5 - i) % 2
theorem idx_lt (n : Nat) : idx n < 64 := Nat.mod_lt _ (by decide)
theorem ix_eq : ∀ n, n < 64 → zrem (((37 : Int32) * nI n) + 11) 64 = nI (idx n) := by decide +kernel
theorem bit_eq : ∀ x, x < 64 → ∀ i, i < 6 → (zshr (nI x) ((5 : Int32) - nI i)) &&& (1 : Int32) = nI (x / 2 ^ (5 - i) % 2) := by decide +kernel
theorem shr_eq : ∀ x, x < 64 → ∀ d, d < 7 → zshr (nI x) ((6 : Int32) - nI d) = nI (x / 2 ^ (6 - d)) := by decide +kernel
theorem f_indexOf {N n : Nat} (h : n < 64) (M : zMem) : f_ED_indexOf N (nI n) M = some (nI (idx n), M) ∧ f_Mo_indexOf N (nI n) M = some (nI (idx n), M) := by
  unfold f_ED_indexOf f_Mo_indexOf
  rw [ix_eq n h]
  exact ⟨rfl, rfl⟩
theorem f_bit {N n i : Nat} (h : n < 64) (hi : i < 6) (M : zMem) : f_ED_bitOf N (nI (idx n)) (nI i) M = some (nI (bt n i), M) ∧ f_Mo_bit N (nI n) (nI i) M = some (nI (bt n i), M) := by
  unfold f_ED_bitOf f_Mo_bit
  rw [(f_indexOf h M).2]
  simp only [Option.bind_some]
  rw [bit_eq (idx n) (idx_lt n) i hi]
  exact ⟨rfl, rfl⟩
theorem pfx_succ (x y d : Nat) (hd : d < 6) : x / 2 ^ (6 - (d + 1)) = y / 2 ^ (6 - (d + 1)) ↔ x / 2 ^ (6 - d) = y / 2 ^ (6 - d) ∧ x / 2 ^ (5 - d) % 2 = y / 2 ^ (5 - d) % 2 := by
  have e1 : 6 - (d + 1) = 5 - d := by omega
  have e2 : (2 : Nat) ^ (6 - d) = 2 ^ (5 - d) * 2 := by rw [← Nat.pow_succ]; congr 1; omega
  rw [e1, e2, ← Nat.div_div_eq_div_mul, ← Nat.div_div_eq_div_mul]
  generalize x / 2 ^ (5 - d) = a
  generalize y / 2 ^ (5 - d) = b
  omega
theorem f_share {N m n d : Nat} (hd : d ≤ 6) (M : zMem) : (idx m / 2 ^ (6 - d) = idx n / 2 ^ (6 - d) → f_LC_sharePrefix N (nI (idx m)) (nI (idx n)) (nI d) M = some (1, M)) ∧ (¬ idx m / 2 ^ (6 - d) = idx n / 2 ^ (6 - d) → f_LC_sharePrefix N (nI (idx m)) (nI (idx n)) (nI d) M = some (0, M)) := by
  have hlt : ∀ k : Nat, idx k / 2 ^ (6 - d) < 2 ^ 31 := fun k => by
    have := Nat.div_le_self (idx k) (2 ^ (6 - d))
    have := idx_lt k
    omega
  rw [f_LC_sharePrefix, shr_eq _ (idx_lt m) _ (by omega), shr_eq _ (idx_lt n) _ (by omega)]
  exact ⟨fun h => by rw [h, if_pos rfl], fun h => by rw [if_neg (by rw [nI_eq (hlt m) (hlt n)]; exact h)]⟩
/-- the form of a lookup for name n -/
def fmOk (c : Nat) (w : Nat → Int32) (n : Nat) : Prop := 3 ≤ c ∧ c ≤ 9 ∧ w 0 = nI (c - 3) ∧ ((w 1 = -1 ∧ w 2 = 0) ∨ (w 1 ≠ -1 ∧ ∃ m, m < 64 ∧ w 1 = nI m ∧ isK (w 2) = true ∧ idx m / 2 ^ (6 - (c - 3)) = idx n / 2 ^ (6 - (c - 3))))
theorem f_isKey_y {N : Nat} {x : Int32} (h : isK x = true) (M : zMem) : f_ED_isKey N x M = some (1, M) ∧ f_Mo_isKey N x M = some (1, M) := by
  rw [(f_isKey N x M).1, (f_isKey N x M).2, if_pos h]
  exact ⟨rfl, rfl⟩
theorem f_isKey_n {N : Nat} {x : Int32} (h : ¬ isK x = true) (M : zMem) : f_ED_isKey N x M = some (0, M) ∧ f_Mo_isKey N x M = some (0, M) := by
  rw [(f_isKey N x M).1, (f_isKey N x M).2, if_neg h]
  exact ⟨rfl, rfl⟩
theorem fm_C {N b c n : Nat} (hb : b < 4) (hn : n < 64) (hc : c ≤ 30) {M : zMem} (h1 : M (28 + 2 * b) 1 = nI c) : (fmOk c (M (28 + 2 * b + 1)) n → f_LC_hasForm N (28 + 2 * b) (nI n) M = some (1, M)) ∧ (¬ fmOk c (M (28 + 2 * b + 1)) n → f_LC_hasForm N (28 + 2 * b) (nI n) M = some (0, M)) := by
  rw [f_LC_hasForm, if_pos (zis_Bu_of hb), h1]
  obtain ⟨w, hwM⟩ : ∃ w, w = M (28 + 2 * b + 1) := ⟨_, rfl⟩
  rw [← hwM]
  unfold fmOk
  by_cases c3 : 3 ≤ c
  · rw [if_neg (show ¬ nI c < (3 : Int32) by rw [lN3, nI_ltI (by omega) (by decide)]; omega)]
    by_cases c9 : c ≤ 9
    · rw [if_neg (show ¬ (9 : Int32) < nI c by rw [show (9 : Int32) = nI 9 from rfl, nI_ltI (by decide) (by omega)]; omega), show nI c - (3 : Int32) = nI (c - 3) by rw [lN3, nI_subN c3]]
      by_cases c0 : w 0 = nI (c - 3)
      · rw [if_pos c0]
        simp only [zlt]
        by_cases c1 : w 1 = -1
        · rw [if_pos c1]
          by_cases c2 : w 2 = 0
          · rw [if_pos c2]
            exact ⟨fun _ => by first | rfl | trivial, fun h => absurd ⟨c3, c9, c0, Or.inl ⟨c1, c2⟩⟩ h⟩
          · rw [if_neg c2]
            exact ⟨fun h => (h.2.2.2.elim (fun q => absurd q.2 c2) (fun q => absurd c1 q.1)), fun _ => by first | rfl | trivial⟩
        · rw [if_neg c1]
          rcases name_cases (w 1) with hx | ⟨m, hm, hx⟩
          · rw [(f_isName_no hx).1]
            simp only [Option.bind_some, if_true]
            refine ⟨fun h => ?_, fun _ => by first | rfl | trivial⟩
            obtain ⟨-, -, -, h | ⟨-, m, hm, hw, -⟩⟩ := h
            · exact absurd h.1 c1
            · exfalso
              rw [hw] at hx
              rcases hx with hx | hx
              · exact nI_pos (show m < 2 ^ 31 by omega) hx
              · rw [lN64, nI_leI (by decide) (by omega)] at hx; omega
          · rw [hx, (f_isName_at hm).1]
            rw [Option.bind_some, if_neg (show ¬ (1 : Int32) = 0 by decide)]
            by_cases ck : isK (w 2) = true
            · rw [(f_isKey_y ck M).1, Option.bind_some, if_neg (show ¬ (1 : Int32) = 0 by decide), (f_indexOf hm M).1, Option.bind_some, (f_indexOf hn M).1, Option.bind_some]
              have e0 : ∀ q : Int32 × zMem, q.2 = M → q.2 (28 + 2 * b + 1) 0 = nI (c - 3) := fun q hq => by rw [hq, ← hwM, c0]
              rw [e0 (nI (idx n), M) rfl]
              by_cases cp : idx m / 2 ^ (6 - (c - 3)) = idx n / 2 ^ (6 - (c - 3))
              · rw [(f_share (N := N) (show c - 3 ≤ 6 by omega) M).1 cp, Option.bind_some, if_neg (show ¬ (1 : Int32) = 0 by decide)]
                exact ⟨fun _ => rfl, fun h => absurd ⟨c3, c9, c0, Or.inr ⟨by rw [← hx]; exact c1, m, hm, rfl, ck, cp⟩⟩ h⟩
              · rw [(f_share (N := N) (show c - 3 ≤ 6 by omega) M).2 cp, Option.bind_some, if_pos rfl]
                refine ⟨fun h => ?_, fun _ => rfl⟩
                obtain ⟨-, -, -, h | ⟨-, m', hm', hw, -, hp⟩⟩ := h
                · rw [← hx] at h; exact absurd h.1 c1
                · exfalso
                  have : m = m' := (nI_eq (by omega) (by omega)).mp hw
                  subst this
                  exact cp hp
            · rw [(f_isKey_n ck M).1, Option.bind_some, if_pos rfl]
              refine ⟨fun h => ?_, fun _ => by first | rfl | trivial⟩
              obtain ⟨-, -, -, h | ⟨-, m', hm', hw, hk, hp⟩⟩ := h
              · rw [← hx] at h; exact absurd h.1 c1
              · exact absurd hk ck
      · rw [if_neg c0]
        exact ⟨fun h => absurd h.2.2.1 c0, fun _ => by first | rfl | trivial⟩
    · rw [if_pos (show (9 : Int32) < nI c by rw [show (9 : Int32) = nI 9 from rfl, nI_ltI (by decide) (by omega)]; omega)]
      exact ⟨fun h => absurd h.2.1 c9, fun _ => by first | rfl | trivial⟩
  · rw [if_pos (show nI c < (3 : Int32) by rw [lN3, nI_ltI (by omega) (by decide)]; omega)]
    exact ⟨fun h => absurd h.1 c3, fun _ => by first | rfl | trivial⟩
theorem fm_loop {N : Nat} (M : zMem) {n m d : Nat} (hn : n < 64) (hm : m < 64) (hd : d ≤ 6) : ∀ r i fuel, i + r = d → r < fuel → (idx m / 2 ^ (6 - i) = idx n / 2 ^ (6 - i) → (idx m / 2 ^ (6 - d) = idx n / 2 ^ (6 - d) → f_Mo_formed_l131 N fuel (nI n) (nI d) (nI m) 1 (nI i) M = some (1, M)) ∧ (¬ idx m / 2 ^ (6 - d) = idx n / 2 ^ (6 - d) → f_Mo_formed_l131 N fuel (nI n) (nI d) (nI m) 1 (nI i) M = some (0, M))) ∧ (1 ≤ i → ¬ idx m / 2 ^ (6 - i) = idx n / 2 ^ (6 - i) → f_Mo_formed_l131 N fuel (nI n) (nI d) (nI m) 0 (nI i) M = some (0, M) ∧ ¬ idx m / 2 ^ (6 - d) = idx n / 2 ^ (6 - d)) := by
  intro r
  induction r with
  | zero =>
    intro i fuel hi hf
    obtain ⟨fuel, rfl⟩ : ∃ k, fuel = k + 1 := ⟨fuel - 1, by omega⟩
    have : i = d := by omega
    subst this
    rw [f_Mo_formed_l131, if_pos (nI_le (Nat.le_refl _) (by omega)), if_pos (show zbool 1 = true from rfl), f_Mo_formed_l131, if_pos (nI_le (Nat.le_refl _) (by omega)), if_pos (show zbool 0 = true from rfl)]
    exact ⟨fun h => ⟨fun _ => by first | rfl | trivial, fun h2 => absurd h h2⟩, fun _ h => ⟨rfl, h⟩⟩
  | succ r ih =>
    intro i fuel hi hf
    obtain ⟨fuel, rfl⟩ : ∃ k, fuel = k + 1 := ⟨fuel - 1, by omega⟩
    have hs := pfx_succ (idx m) (idx n) i (by omega)
    obtain ⟨g1, g2⟩ := ih (i + 1) fuel (by omega) (by omega)
    have hne : ¬ nI d ≤ nI i := by rw [nI_leI (by omega) (by omega)]; omega
    have down : ¬ idx m / 2 ^ (6 - i) = idx n / 2 ^ (6 - i) → ¬ idx m / 2 ^ (6 - d) = idx n / 2 ^ (6 - d) := fun h => (g2 (by omega) (fun q => h (hs.mp q).1)).2
    refine ⟨fun h => ?_, fun _ h => ⟨?_, down h⟩⟩
    · have hb : ∀ k : Nat, bt k i < 2 ^ 31 := fun k => by unfold bt; omega
      rw [f_Mo_formed_l131, if_neg hne, if_neg (show ¬ (1 : Int32) = 0 by decide), (f_bit hm (by omega) M).2]
      simp only [Option.bind_some, (f_bit hn (show i < 6 by omega) M).2]
      by_cases c : bt m i = bt n i
      · rw [if_pos (by rw [c])]
        simp only [f_Mo_formed_b163, zlt, nI_1]
        exact g1 (hs.mpr ⟨h, c⟩)
      · rw [if_neg (by rw [nI_eq (hb m) (hb n)]; exact c)]
        simp only [f_Mo_formed_b163, zlt, nI_1]
        have := g2 (by omega) (fun q => c (hs.mp q).2)
        exact ⟨fun q => absurd q this.2, fun _ => this.1⟩
    · rw [f_Mo_formed_l131, if_neg hne, if_pos rfl, if_pos (show zbool 0 = true from rfl)]
theorem fm_zero {N : Nat} (hN : 1 ≤ N) (M : zMem) (x y z : Int32) : f_Mo_formed_b125 N x y z M = some (0, M) := by
  obtain ⟨N, rfl⟩ : ∃ k, N = k + 1 := ⟨N - 1, by omega⟩
  rw [f_Mo_formed_b125, f_Mo_formed_b126, f_Mo_formed_l131, if_pos (show (0 : Int32) = 0 from rfl), if_pos (show zbool 0 = true from rfl)]
  split <;> rfl
theorem fm_M {N b c n : Nat} (hN : 8 ≤ N) (hb : b < 4) (hn : n < 64) (hc : c ≤ 30) {M : zMem} (h1 : M 61 b = nI c) : (fmOk c (fun i => M 60 (30 * b + i)) n → f_Mo_formed N (nI b) (nI n) M = some (1, M)) ∧ (¬ fmOk c (fun i => M 60 (30 * b + i)) n → f_Mo_formed N (nI b) (nI n) M = some (0, M)) := by
  have z4 : zin (nI b) 4 = true := zin_t hb (by decide)
  have e0 : (30 : Int32) * nI b = nI (30 * b) := by rw [lN30, nI_mulN]
  have e1 : nI (30 * b) + (1 : Int32) = nI (30 * b + 1) := nI_1 _
  have e2 : nI (30 * b) + (2 : Int32) = nI (30 * b + 2) := by rw [lN2, nI_add]
  rw [f_Mo_formed, if_neg (nI_pos (show b < 2 ^ 31 by omega)), if_neg (show ¬ (3 : Int32) < nI b by rw [lN3, nI_ltI (by decide) (by omega)]; omega), (f_isName_at hn).2]
  simp only [Option.bind_some, if_neg (show ¬ (1 : Int32) = 0 by decide), if_pos z4, nI_clamp (show b < 2 ^ 31 by omega), h1, e0, e1, e2, if_pos (zin_t (show 30 * b < 120 by omega) (show 120 < 2 ^ 31 by decide)), if_pos (zin_t (show 30 * b + 1 < 120 by omega) (show 120 < 2 ^ 31 by decide)), if_pos (zin_t (show 30 * b + 2 < 120 by omega) (show 120 < 2 ^ 31 by decide)), nI_clamp (show 30 * b < 2 ^ 31 by omega), nI_clamp (show 30 * b + 1 < 2 ^ 31 by omega), nI_clamp (show 30 * b + 2 < 2 ^ 31 by omega), zlt]
  obtain ⟨w, hw⟩ : ∃ w : Nat → Int32, w = fun i => M 60 (30 * b + i) := ⟨_, rfl⟩
  rw [← hw, show M 60 (30 * b) = w 0 by rw [hw]; rfl, show M 60 (30 * b + 1) = w 1 by rw [hw], show M 60 (30 * b + 2) = w 2 by rw [hw]]
  unfold fmOk
  by_cases c3 : 3 ≤ c
  · rw [if_pos (show (3 : Int32) ≤ nI c by rw [lN3, nI_leI (by decide) (by omega)]; omega)]
    by_cases w0 : w 0 < 0
    · rw [if_pos w0]
      exact ⟨fun h => by rw [h.2.2.1] at w0; exact absurd w0 (nI_pos (by omega)), fun _ => by first | rfl | trivial⟩
    · rw [if_neg w0]
      obtain ⟨d, hd, hwd⟩ := nI_of w0
      rw [hwd]
      by_cases d6 : 6 < d
      · rw [if_pos (show (6 : Int32) < nI d by rw [lN6, nI_ltI (by decide) hd]; exact d6)]
        refine ⟨fun h => ?_, fun _ => by first | rfl | trivial⟩
        have := (nI_eq hd (by omega)).mp h.2.2.1
        omega
      · rw [if_neg (show ¬ (6 : Int32) < nI d by rw [lN6, nI_ltI (by decide) hd]; exact d6), lN3, nI_add]
        by_cases cd : c = 3 + d
        · rw [if_pos (by rw [cd])]
          have hcd : c - 3 = d := by omega
          rw [hcd]
          by_cases c1 : w 1 = -1
          · rw [if_pos c1]
            by_cases c2 : w 2 = 0
            · rw [if_pos c2]
              exact ⟨fun _ => by first | rfl | trivial, fun h => absurd ⟨c3, by omega, rfl, Or.inl ⟨c1, c2⟩⟩ h⟩
            · rw [if_neg c2]
              exact ⟨fun h => (h.2.2.2.elim (fun q => absurd q.2 c2) (fun q => absurd c1 q.1)), fun _ => by first | rfl | trivial⟩
          · rw [if_neg c1]
            rcases name_cases (w 1) with hx | ⟨m, hm, hx⟩
            · rw [(f_isName_no hx).2]
              simp only [Option.bind_some, if_true, fm_zero (show 1 ≤ N by omega)]
              refine ⟨fun h => ?_, fun _ => by first | rfl | trivial⟩
              obtain ⟨-, -, -, h | ⟨-, m, hm, hw, -⟩⟩ := h
              · exact absurd h.1 c1
              · exfalso
                rw [hw] at hx
                rcases hx with hx | hx
                · exact nI_pos (show m < 2 ^ 31 by omega) hx
                · rw [lN64, nI_leI (by decide) (by omega)] at hx; omega
            · rw [hx, (f_isName_at hm).2]
              rw [Option.bind_some, if_neg (show ¬ (1 : Int32) = 0 by decide)]
              by_cases ck : isK (w 2) = true
              · rw [(f_isKey_y ck M).2, Option.bind_some, if_neg (show ¬ (1 : Int32) = 0 by decide)]
                have e6 : ∀ k, idx k / 2 ^ (6 - 0) = 0 := fun k => Nat.div_eq_of_lt (idx_lt k)
                have hl := (fm_loop (N := N) M hn hm (show d ≤ 6 by omega) d 0 N (by omega) (by omega)).1 (by rw [e6, e6])
                rw [f_Mo_formed_b126]
                by_cases cp : idx m / 2 ^ (6 - d) = idx n / 2 ^ (6 - d)
                · exact ⟨fun _ => hl.1 cp, fun h => absurd ⟨c3, by omega, rfl, Or.inr ⟨by rw [← hx]; exact c1, m, hm, rfl, ck, cp⟩⟩ h⟩
                · refine ⟨fun h => ?_, fun _ => hl.2 cp⟩
                  obtain ⟨-, -, -, h | ⟨-, m', hm', hw, -, hp⟩⟩ := h
                  · rw [← hx] at h; exact absurd h.1 c1
                  · exfalso
                    have : m = m' := (nI_eq (by omega) (by omega)).mp hw
                    subst this
                    exact cp hp
              · rw [(f_isKey_n ck M).2, Option.bind_some, if_pos rfl, fm_zero (show 1 ≤ N by omega)]
                refine ⟨fun h => ?_, fun _ => by first | rfl | trivial⟩
                obtain ⟨-, -, -, h | ⟨-, m', hm', hw, hk, hp⟩⟩ := h
                · rw [← hx] at h; exact absurd h.1 c1
                · exact absurd hk ck
        · rw [if_neg (by rw [nI_eq (by omega) (by omega)]; exact cd)]
          refine ⟨fun h => ?_, fun _ => by first | rfl | trivial⟩
          have := (nI_eq hd (by omega)).mp h.2.2.1
          omega
  · rw [if_neg (show ¬ (3 : Int32) ≤ nI c by rw [lN3, nI_leI (by decide) (by omega)]; omega)]
    exact ⟨fun h => absurd h.1 c3, fun _ => by first | rfl | trivial⟩
