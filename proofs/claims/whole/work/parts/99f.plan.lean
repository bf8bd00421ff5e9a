/-! close(): touched prefixes, counting names -/
/-- some name under the prefix h was put -/
def tT (ok : Nat → Int32) (h : Nat) : Bool := if hh : 0 < h ∧ h < 64 then (tT ok (2 * h) || tT ok (2 * h + 1)) else !decide (ok (ixn (h - 64)) = 0)
termination_by 128 - h
decreasing_by all_goals omega
theorem tT_in (ok : Nat → Int32) {h : Nat} (h0 : 0 < h) (h1 : h < 64) : tT ok h = (tT ok (2 * h) || tT ok (2 * h + 1)) := by
  rw [tT, dif_pos ⟨h0, h1⟩]
theorem tT_lf (ok : Nat → Int32) {h : Nat} (h1 : 64 ≤ h) : tT ok h = !decide (ok (ixn (h - 64)) = 0) := by
  rw [tT, dif_neg (by omega)]
theorem tT_congr {f g : Nat → Int32} (h : ∀ n, n < 64 → (f n = 0 ↔ g n = 0)) : ∀ k x, x + k = 128 → 1 ≤ x → 1 ≤ k → tT f x = tT g x := by
  intro k
  induction k using Nat.strongRecOn with
  | _ k ih =>
    intro x hx x1 k1
    by_cases c : x < 64
    · rw [tT_in f (by omega) c, tT_in g (by omega) c, ih (128 - 2 * x) (by omega) (2 * x) (by omega) (by omega) (by omega), ih (128 - (2 * x + 1)) (by omega) (2 * x + 1) (by omega) (by omega) (by omega)]
    · rw [tT_lf f (by omega), tT_lf g (by omega)]
      have := h (ixn (x - 64)) (idx_ixn (x - 64) (by omega)).2
      by_cases z : f (ixn (x - 64)) = 0
      · rw [decide_eq_true z, decide_eq_true (this.mp z)]
      · rw [decide_eq_false z, decide_eq_false (fun q => z (this.mpr q))]
/-- where nothing was put the tree is as it was -/
theorem tree_same (s : Int32) {ok m c : Nat → Int32} (h : ∀ n, n < 64 → ok n = 0 → m n = c n) : ∀ k x, x + k = 128 → 1 ≤ x → 1 ≤ k → tT ok x = false → cT m x = cT c x ∧ oT m x = oT c x ∧ dT s m x = dT s c x := by
  intro k
  induction k using Nat.strongRecOn with
  | _ k ih =>
    intro x hx x1 k1 ht
    by_cases c6 : x < 64
    · rw [tT_in ok (by omega) c6, Bool.or_eq_false_iff] at ht
      obtain ⟨a1, a2, a3⟩ := ih (128 - 2 * x) (by omega) (2 * x) (by omega) (by omega) (by omega) ht.1
      obtain ⟨b1, b2, b3⟩ := ih (128 - (2 * x + 1)) (by omega) (2 * x + 1) (by omega) (by omega) (by omega) ht.2
      have e : cT m x = cT c x := by rw [cT_in m (by omega) c6, cT_in c (by omega) c6, a1, b1]
      refine ⟨e, ?_, ?_⟩
      · by_cases q : cT m x = 1
        · rw [oT_in1 m (by omega) c6 q, oT_in1 c (by omega) c6 (by omega), a2, b2]
        · rw [oT_in0 m (by omega) c6 q, oT_in0 c (by omega) c6 (by omega)]
      · by_cases q : 1 < cT m x
        · rw [dT_in2 s m (by omega) c6 q, dT_in2 s c (by omega) c6 (by omega), a3, b3]
        · rw [dT_in1 s m (by omega) c6 q, dT_in1 s c (by omega) c6 (by omega), a3, b3]
    · rw [tT_lf ok (by omega)] at ht
      have z : ok (ixn (x - 64)) = 0 := by
        by_cases z : ok (ixn (x - 64)) = 0
        · exact z
        · rw [decide_eq_false z] at ht; exact absurd ht (by decide)
      have e := h (ixn (x - 64)) (idx_ixn (x - 64) (by omega)).2 z
      rw [cT_lf m (by omega), cT_lf c (by omega), oT_lf m (by omega), oT_lf c (by omega), dT_lf s m (by omega), dT_lf s c (by omega), e]
      exact ⟨rfl, rfl, rfl⟩
/-- a prefix has no fewer names than what is under it -/
theorem cT_up (m : Nat → Int32) {h : Nat} (h1 : 2 ≤ h) (h2 : h < 128) : cT m h ≤ cT m (h / 2) := by
  rw [cT_in m (show 0 < h / 2 by omega) (by omega)]
  by_cases c : h % 2 = 0
  · rw [show 2 * (h / 2) = h by omega]; omega
  · rw [show 2 * (h / 2) + 1 = h by omega]; omega
theorem cT_ups (m : Nat → Int32) {h : Nat} (h2 : h < 128) : ∀ i, 1 ≤ h / 2 ^ i → cT m h ≤ cT m (h / 2 ^ i) := by
  intro i
  induction i with
  | zero => intro _; rw [Nat.pow_zero, Nat.div_one]; exact Nat.le_refl _
  | succ i ih =>
    intro h1
    rw [Nat.pow_succ, ← Nat.div_div_eq_div_mul] at h1 ⊢
    have a := ih (by omega)
    have b := cT_up m (h := h / 2 ^ i) (by omega) (by have := Nat.div_le_self h (2 ^ i); omega)
    omega
theorem cT_self (m : Nat → Int32) {n : Nat} (hn : n < 64) (h : m n ≠ 0) : cT m (64 + idx n) = 1 := by
  have := idx_lt n
  rw [cT_lf m (by omega), show 64 + idx n - 64 = idx n by omega, ixn_idx n hn, if_neg h]
theorem up_pos (n j : Nat) (hj : j ≤ 6) : 1 ≤ (64 + idx n) / 2 ^ j ∧ (64 + idx n) / 2 ^ j < 128 := by
  have h1 := idx_lt n
  have h2 : (2 : Nat) ^ j ≤ 2 ^ 6 := Nat.pow_le_pow_right (by decide) hj
  have e : (2 : Nat) ^ 6 = 64 := rfl
  have h3 : 0 < (2 : Nat) ^ j := Nat.pow_pos (by decide)
  refine ⟨(Nat.le_div_iff_mul_le h3).mpr (by omega), ?_⟩
  have := Nat.div_le_self (64 + idx n) (2 ^ j)
  omega
theorem oT_of (m : Nat → Int32) {n : Nat} (hn : n < 64) (hm : m n ≠ 0) : ∀ j, j ≤ 6 → cT m ((64 + idx n) / 2 ^ j) = 1 → oT m ((64 + idx n) / 2 ^ j) = nI n := by
  have hi := idx_lt n
  intro j
  induction j with
  | zero =>
    intro _ _
    rw [Nat.pow_zero, Nat.div_one, oT_lf m (by omega), show 64 + idx n - 64 = idx n by omega, ixn_idx n hn, if_neg hm]
  | succ j ih =>
    intro hj hc
    obtain ⟨p1, p2⟩ := up_pos n j (by omega)
    obtain ⟨q1, q2⟩ := up_pos n (j + 1) hj
    have hup := cT_ups m (h := 64 + idx n) (by omega) j p1
    rw [cT_self m hn hm] at hup
    have e : (64 + idx n) / 2 ^ (j + 1) = (64 + idx n) / 2 ^ j / 2 := by rw [Nat.pow_succ, ← Nat.div_div_eq_div_mul]
    have ih' := ih (by omega)
    revert hc q1 q2 p1 p2 hup ih'
    rw [e]
    generalize (64 + idx n) / 2 ^ j = x
    intro hc p1 p2 q1 q2 hup ih'
    have hi := cT_in m (show 0 < x / 2 by omega) (show x / 2 < 64 by omega)
    rw [oT_in1 m (show 0 < x / 2 by omega) (by omega) hc]
    by_cases c : x % 2 = 0
    · have e1 : 2 * (x / 2) = x := by omega
      have e2 : 2 * (x / 2) + 1 = x + 1 := by omega
      rw [e1] at hi ⊢
      rw [ih' (by omega), (cT_zero 0 m (128 - (x + 1)) (x + 1) (by omega) (by omega) (by omega) (by omega)).2, Int32.add_assoc, show (-1 : Int32) + 1 = 0 by decide, Int32.add_zero]
    · have e1 : 2 * (x / 2) = x - 1 := by omega
      have e2 : x - 1 + 1 = x := by omega
      rw [e1, e2] at hi ⊢
      rw [ih' (by omega), (cT_zero 0 m (128 - (x - 1)) (x - 1) (by omega) (by omega) (by omega) (by omega)).2, Int32.add_comm (-1) (nI n), Int32.add_assoc, show (-1 : Int32) + 1 = 0 by decide, Int32.add_zero]
/-- a node of the tree; its place -/
def nd (m : Nat → Int32) (h : Nat) : Bool := decide (1 ≤ cT m h) && (decide (h = 1) || decide (2 ≤ cT m (h / 2)))
theorem nd_iff {m : Nat → Int32} {h : Nat} : nd m h = true ↔ 1 ≤ cT m h ∧ (h = 1 ∨ 2 ≤ cT m (h / 2)) := by
  unfold nd
  rw [Bool.and_eq_true, Bool.or_eq_true, decide_eq_true_iff, decide_eq_true_iff, decide_eq_true_iff]
def pl (m : Nat → Int32) (h : Nat) : Nat := if cT m h = 1 then 64 + idx (oT m h).toNatClampNeg else h
theorem pl_one {m : Nat → Int32} {h n : Nat} (hc : cT m h = 1) (ho : oT m h = nI n) (hn : n < 64) : pl m h = 64 + idx n := by
  unfold pl
  rw [if_pos hc, ho, nI_clamp (by omega)]
theorem in_64 {m : Nat → Int32} {h : Nat} (h2 : 2 ≤ cT m h) : h < 64 := by
  by_cases c : h < 64
  · exact c
  · rw [cT_lf m (by omega)] at h2
    split at h2 <;> omega
theorem pl_lt {m : Nat → Int32} {h : Nat} (h1 : 1 ≤ h) (hn : nd m h = true) (h2 : h < 128) : 1 ≤ pl m h ∧ pl m h < 128 := by
  by_cases c : cT m h = 1
  · obtain ⟨n, a, b, -⟩ := cT_one 0 m (128 - h) h (by omega) h1 (by omega) c
    rw [pl_one c b a]
    have := idx_lt n
    omega
  · unfold pl; rw [if_neg c]; omega
theorem pl_inj {m : Nat → Int32} {h h' : Nat} (h1 : 1 ≤ h) (h2 : h < 128) (h1' : 1 ≤ h') (h2' : h' < 128) (hn : nd m h = true) (hn' : nd m h' = true) (e : pl m h = pl m h') : h = h' := by
  rw [nd_iff] at hn hn'
  by_cases c : cT m h = 1
  · obtain ⟨n, a, b, z, -, j, j6, hj⟩ := cT_one 0 m (128 - h) h (by omega) h1 (by omega) c
    rw [pl_one c b a] at e
    by_cases c' : cT m h' = 1
    · obtain ⟨n', a', b', z', -, j', j6', hj'⟩ := cT_one 0 m (128 - h') h' (by omega) h1' (by omega) c'
      rw [pl_one c' b' a'] at e
      have : n = n' := by rw [← ixn_idx n a, ← ixn_idx n' a']; congr 1; omega
      subst this
      have key : ∀ (x y i k : Nat), 1 ≤ y → x < 128 → (64 + idx n) / 2 ^ i = x → (64 + idx n) / 2 ^ k = y → cT m y = 1 → (x = 1 ∨ 2 ≤ cT m (x / 2)) → ¬ i < k := by
        intro x y i k y1 x1 hx hy cy hv hik
        have ey : y = x / 2 / 2 ^ (k - i - 1) := by
          rw [← hy, ← hx, Nat.div_div_eq_div_mul, Nat.div_div_eq_div_mul, ← Nat.pow_succ', ← Nat.pow_add]
          congr 2; omega
        rcases hv with hv | hv
        · rw [hv] at ey
          have : (1 / 2) / 2 ^ (k - i - 1) = 0 := by rw [show 1 / 2 = 0 from rfl, Nat.zero_div]
          omega
        · have := cT_ups m (h := x / 2) (by omega) (k - i - 1) (by rw [← ey]; exact y1)
          rw [← ey, cy] at this
          omega
      have k1 := key h h' j j' h1' h2 hj hj' c' hn.2
      have k2 := key h' h j' j h1 h2' hj' hj c hn'.2
      have : j = j' := by omega
      rw [← hj, ← hj', this]
    · have := in_64 (m := m) (h := h') (by omega)
      unfold pl at e
      rw [if_neg c'] at e
      omega
  · have g := in_64 (m := m) (h := h) (by omega)
    unfold pl at e
    rw [if_neg c] at e
    by_cases c' : cT m h' = 1
    · rw [if_pos c'] at e; omega
    · rw [if_neg c'] at e; exact e
theorem blT_eq (m la : Nat → Int32) (h : Nat) : blT m la h = if cT m h = 0 then -1 else la (pl m h) := by
  unfold blT pl
  by_cases c : cT m h = 0
  · rw [if_pos c, if_pos c]
  · rw [if_neg c, if_neg c]
    by_cases c1 : cT m h = 1
    · rw [if_pos c1, if_pos c1]
    · rw [if_neg c1, if_neg c1]
theorem pth_eq (n : Nat) : ∀ i, i ≤ 6 → pth n i = (64 + idx n) / 2 ^ (6 - i)
  | 0, _ => by
    have := idx_lt n
    have e : (2 : Nat) ^ (6 - 0) = 64 := rfl
    rw [pth, e]; omega
  | i + 1, hi => by
    have e2 : (2 : Nat) ^ (6 - i) = 2 ^ (5 - i) * 2 := by rw [← Nat.pow_succ]; congr 1; omega
    have ih := pth_eq n i (by omega)
    have e64 : 64 % (2 ^ (5 - i) * 2) = 0 := by
      rw [← e2]
      exact Nat.mod_eq_zero_of_dvd (show 2 ^ (6 - i) ∣ 2 ^ 6 from Nat.pow_dvd_pow 2 (by omega))
    rw [pth, ih, bt, show 6 - (i + 1) = 5 - i by omega, e2, ← Nat.div_div_eq_div_mul]
    have e3 : (64 + idx n) / 2 ^ (5 - i) % 2 = idx n / 2 ^ (5 - i) % 2 := by
      have d : 2 ^ (5 - i) * 2 ∣ 64 := Nat.dvd_of_mod_eq_zero e64
      obtain ⟨q, hq⟩ := d
      rw [hq, Nat.mul_assoc, Nat.mul_add_div (Nat.pow_pos (by decide)), Nat.mul_add_mod]
    rw [← e3]
    omega
/-- every name of a tree has its leaf's block -/
theorem leaf_of {s : Int32} {C : Nat} {k f g dg m la : Nat → Int32} (ht : trOk s C k f g dg m (blT m la)) {n : Nat} (hn : n < 64) (hm : m n ≠ 0) : ∃ i, i < C ∧ la (64 + idx n) = nI i ∧ k i = 1 ∧ f i = nI n ∧ g i = m n ∧ dg i = zH s 1 (nI n) (m n) := by
  obtain ⟨d, d1, d2, d3⟩ := dep_ex m n
  obtain ⟨p1, p2⟩ := pth_128 n d1
  have e := pth_eq n d d1
  have hup := cT_ups m (h := 64 + idx n) (by have := idx_lt n; omega) (6 - d) (by rw [← e]; exact p1)
  rw [cT_self m hn hm, ← e] at hup
  have c1 : cT m (pth n d) = 1 := by omega
  have ho : oT m (pth n d) = nI n := by rw [e]; exact oT_of m hn hm (6 - d) (by omega) (by rw [← e]; exact c1)
  have hp : pth n d = 1 ∨ 2 ≤ cT m (pth n d / 2) := by
    rcases d with _ | d
    · exact Or.inl rfl
    · right
      rw [show pth n (d + 1) / 2 = pth n d by rw [pth]; have := bt_le n d; omega]
      exact d3 d (by omega)
  obtain ⟨i, i1, i2, i3, i4, i5, i6⟩ := (ht (pth n d) p1 p2 hp).2.1 c1
  obtain ⟨n', a, b, z, dd, -⟩ := cT_one s m (128 - pth n d) (pth n d) (by omega) p1 (by omega) c1
  have : n = n' := (nI_eq (by omega) (by omega)).mp (ho.symm.trans b)
  subst this
  rw [blT_eq, if_neg (by omega), pl_one c1 ho hn] at i2
  exact ⟨i, i1, i2, i3, by rw [i4, ho], by rw [i5, ho, nI_clamp (by omega)], by rw [i6, dd]⟩
