/-! pure: the digest of a row; the greatest power of two below n -/
def gpb (n : Nat) : Nat := if h : n ≤ 2 then 1 else 2 * gpb ((n + 1) / 2)
termination_by n
decreasing_by omega
theorem gpb_small {n : Nat} (h : n ≤ 2) : gpb n = 1 := by rw [gpb, dif_pos h]
theorem gpb_big {n : Nat} (h : ¬ n ≤ 2) : gpb n = 2 * gpb ((n + 1) / 2) := by rw [gpb, dif_neg h]
theorem gpb_pos : ∀ n : Nat, 1 ≤ gpb n := by
  intro n
  induction n using Nat.strongRecOn with
  | ind n ih =>
    by_cases h : n ≤ 2
    · rw [gpb_small h]; exact Nat.le_refl _
    · rw [gpb_big h]
      have := ih ((n + 1) / 2) (by omega)
      omega
theorem gpb_lt : ∀ n : Nat, 2 ≤ n → gpb n < n ∧ n ≤ 2 * gpb n := by
  intro n
  induction n using Nat.strongRecOn with
  | ind n ih =>
    intro h2
    by_cases h : n ≤ 2
    · rw [gpb_small h]; omega
    · rw [gpb_big h]
      have := ih ((n + 1) / 2) (by omega) (by omega)
      omega
def rd (J : Int32 → Int32 → Int32) (f : Nat → Int32) (s n : Nat) : Int32 :=
  if h : n ≤ 1 then f s else J (rd J f s (gpb n)) (rd J f (s + gpb n) (n - gpb n))
termination_by n
decreasing_by
  · have := gpb_lt n (by omega); omega
  · have := gpb_pos n; omega
theorem rd_one (J : Int32 → Int32 → Int32) (f : Nat → Int32) (s : Nat) {n : Nat} (h : n ≤ 1) : rd J f s n = f s := by rw [rd, dif_pos h]
theorem rd_big (J : Int32 → Int32 → Int32) (f : Nat → Int32) (s : Nat) {n : Nat} (h : ¬ n ≤ 1) : rd J f s n = J (rd J f s (gpb n)) (rd J f (s + gpb n) (n - gpb n)) := by rw [rd, dif_neg h]
/-- one level of neighbours joined -/
theorem rd_half (J : Int32 → Int32 → Int32) (g g' : Nat → Int32) : ∀ (n s : Nat), 1 ≤ n → (∀ i, i < n / 2 → g' (s + i) = J (g (2 * (s + i))) (g (2 * (s + i) + 1))) → (n % 2 = 1 → g' (s + n / 2) = g (2 * s + n - 1)) → rd J g (2 * s) n = rd J g' s ((n + 1) / 2) := by
  intro n
  induction n using Nat.strongRecOn with
  | ind n ih =>
    intro s h1 hp ho
    by_cases hn1 : n = 1
    · subst hn1
      rw [rd_one J g _ (Nat.le_refl _), rd_one J g' _ (by omega)]
      have := ho rfl
      rw [show s + 1 / 2 = s by omega, show 2 * s + 1 - 1 = 2 * s by omega] at this
      exact this.symm
    · by_cases hn2 : n = 2
      · subst hn2
        rw [rd_big J g _ (by omega), gpb_small (Nat.le_refl _), rd_one J g _ (Nat.le_refl _), rd_one J g _ (by omega), rd_one J g' _ (by omega)]
        have := hp 0 (by omega)
        rw [Nat.add_zero] at this
        exact this.symm
      · have hk := gpb_lt ((n + 1) / 2) (by omega)
        have hk1 := gpb_pos ((n + 1) / 2)
        rw [rd_big J g _ (by omega), rd_big J g' _ (by omega), gpb_big (show ¬ n ≤ 2 by omega)]
        generalize gpb ((n + 1) / 2) = k at hk hk1 ⊢
        rw [ih (2 * k) (by omega) s (by omega) (fun i hi => hp i (by omega)) (fun h => by omega)]
        rw [show 2 * s + 2 * k = 2 * (s + k) by omega]
        rw [ih (n - 2 * k) (by omega) (s + k) (by omega) (fun i hi => by rw [Nat.add_assoc]; exact hp (k + i) (by omega)) (fun h => by
          have := ho (by omega)
          rw [show s + k + (n - 2 * k) / 2 = s + n / 2 by omega, this, show 2 * (s + k) + (n - 2 * k) - 1 = 2 * s + n - 1 by omega])]
        rw [show (2 * k + 1) / 2 = k by omega, show (n - 2 * k + 1) / 2 = (n + 1) / 2 - k by omega]
theorem rd_congr (J : Int32 → Int32 → Int32) {f g : Nat → Int32} : ∀ (n s : Nat), (∀ i, i < n → f (s + i) = g (s + i)) → 1 ≤ n → rd J f s n = rd J g s n := by
  intro n
  induction n using Nat.strongRecOn with
  | ind n ih =>
    intro s h h1
    by_cases hn : n ≤ 1
    · rw [rd_one J f s hn, rd_one J g s hn]
      exact h 0 (by omega)
    · have hk := gpb_lt n (by omega)
      have hk1 := gpb_pos n
      rw [rd_big J f s hn, rd_big J g s hn, ih (gpb n) (by omega) s (fun i hi => h i (by omega)) hk1, ih (n - gpb n) (by omega) (s + gpb n) (fun i hi => by rw [Nat.add_assoc]; exact h (gpb n + i) (by omega)) (by omega)]
theorem rd_shift (J : Int32 → Int32 → Int32) (f : Nat → Int32) (t : Nat) : ∀ (n s : Nat), 1 ≤ n → rd J (fun j => f (t + j)) s n = rd J f (t + s) n := by
  intro n
  induction n using Nat.strongRecOn with
  | ind n ih =>
    intro s h1
    by_cases hn : n ≤ 1
    · rw [rd_one J _ s hn, rd_one J f _ hn]
    · have hk := gpb_lt n (by omega)
      have hk1 := gpb_pos n
      rw [rd_big J _ s hn, rd_big J f _ hn, ih (gpb n) (by omega) s hk1, ih (n - gpb n) (by omega) (s + gpb n) (by omega), Nat.add_assoc]
