/-! close(): the new tree and its blocks -/
theorem tT_of (ok : Nat → Int32) {n : Nat} (hn : n < 64) (hm : ok n ≠ 0) : ∀ j, j ≤ 6 → tT ok ((64 + idx n) / 2 ^ j) = true := by
  have hi := idx_lt n
  intro j
  induction j with
  | zero =>
    intro _
    rw [Nat.pow_zero, Nat.div_one, tT_lf ok (by omega), show 64 + idx n - 64 = idx n by omega, ixn_idx n hn, decide_eq_false hm]
    rfl
  | succ j ih =>
    intro hj
    obtain ⟨p1, p2⟩ := up_pos n j (by omega)
    obtain ⟨q1, q2⟩ := up_pos n (j + 1) hj
    have e : (64 + idx n) / 2 ^ (j + 1) = (64 + idx n) / 2 ^ j / 2 := by rw [Nat.pow_succ, ← Nat.div_div_eq_div_mul]
    have ih' := ih (by omega)
    revert q1 q2 p1 p2 ih'
    rw [e]
    generalize (64 + idx n) / 2 ^ j = x
    intro p1 p2 q1 q2 ih'
    rw [tT_in ok (show 0 < x / 2 by omega) (by omega), Bool.or_eq_true]
    by_cases c : x % 2 = 0
    · rw [show 2 * (x / 2) = x by omega]; exact Or.inl ih'
    · rw [show 2 * (x / 2) + 1 = x by omega]; exact Or.inr ih'
theorem tT_to (ok : Nat → Int32) : ∀ j, j ≤ 6 → ∀ h, 2 ^ (6 - j) ≤ h → h < 2 ^ (7 - j) → tT ok h = true → ∃ n, n < 64 ∧ ok n ≠ 0 ∧ (64 + idx n) / 2 ^ j = h := by
  intro j
  induction j with
  | zero =>
    intro _ h h1 h2 ht
    have e6 : (2 : Nat) ^ (6 - 0) = 64 := rfl
    have e7 : (2 : Nat) ^ (7 - 0) = 128 := rfl
    obtain ⟨i1, i2⟩ := idx_ixn (h - 64) (by omega)
    rw [tT_lf ok (by omega)] at ht
    refine ⟨ixn (h - 64), i2, fun z => ?_, ?_⟩
    · rw [decide_eq_true z] at ht; exact absurd ht (by decide)
    · rw [i1, Nat.pow_zero, Nat.div_one]; omega
  | succ j ih =>
    intro hj h h1 h2 ht
    have e1 : (2 : Nat) ^ (6 - j) = 2 ^ (6 - (j + 1)) * 2 := by rw [← Nat.pow_succ]; congr 1; omega
    have e2 : (2 : Nat) ^ (7 - j) = 2 ^ (7 - (j + 1)) * 2 := by rw [← Nat.pow_succ]; congr 1; omega
    have e3 : (2 : Nat) ^ (7 - (j + 1)) ≤ 2 ^ 6 := Nat.pow_le_pow_right (by decide) (by omega)
    have e4 : (2 : Nat) ^ 6 = 64 := rfl
    have e5 : 0 < (2 : Nat) ^ (6 - (j + 1)) := Nat.pow_pos (by decide)
    rw [tT_in ok (show 0 < h by omega) (by omega), Bool.or_eq_true] at ht
    rcases ht with ht | ht
    · obtain ⟨n, n1, n2, n3⟩ := ih (by omega) (2 * h) (by omega) (by omega) ht
      exact ⟨n, n1, n2, by rw [Nat.pow_succ, ← Nat.div_div_eq_div_mul, n3]; omega⟩
    · obtain ⟨n, n1, n2, n3⟩ := ih (by omega) (2 * h + 1) (by omega) (by omega) ht
      exact ⟨n, n1, n2, by rw [Nat.pow_succ, ← Nat.div_div_eq_div_mul, n3]; omega⟩
theorem tT_zero {ok : Nat → Int32} (hz : ∀ n, n < 64 → ok n = 0) : ∀ k x, x + k = 128 → 1 ≤ x → 1 ≤ k → tT ok x = false := by
  intro k
  induction k using Nat.strongRecOn with
  | _ k ih =>
    intro x hx x1 k1
    by_cases c : x < 64
    · rw [tT_in ok (by omega) c, ih (128 - 2 * x) (by omega) (2 * x) (by omega) (by omega) (by omega), ih (128 - (2 * x + 1)) (by omega) (2 * x + 1) (by omega) (by omega) (by omega)]
      rfl
    · rw [tT_lf ok (by omega), decide_eq_true (hz _ (idx_ixn (x - 64) (by omega)).2)]
      rfl
theorem tree_map (s : Int32) {m c : Nat → Int32} (h : ∀ n, n < 64 → m n = c n) {x : Nat} (x1 : 1 ≤ x) (x2 : x < 128) : cT m x = cT c x ∧ oT m x = oT c x ∧ dT s m x = dT s c x :=
  tree_same s (ok := fun _ => 0) (fun n hn _ => h n hn) (128 - x) x (by omega) x1 (by omega) (tT_zero (fun _ _ => rfl) (128 - x) x (by omega) x1 (by omega))
theorem pl_same {m c : Nat → Int32} {h : Nat} (h1 : cT m h = cT c h) (h2 : oT m h = oT c h) : pl m h = pl c h := by
  unfold pl
  rw [h1, h2]
theorem trOk_bl {s : Int32} {C : Nat} {k f g dg m bl bl' : Nat → Int32} (h : ∀ h, 1 ≤ h → h < 128 → (h = 1 ∨ 2 ≤ cT m (h / 2)) → bl h = bl' h) (ht : trOk s C k f g dg m bl) : trOk s C k f g dg m bl' := by
  intro x x1 x2 xr
  obtain ⟨a, b, c⟩ := ht x x1 x2 xr
  unfold lcl
  rw [← h x x1 x2 xr]
  refine ⟨a, b, fun q => ?_⟩
  have := in_64 q
  rw [← h (2 * x) (by omega) (by omega) (Or.inr (by rw [show 2 * x / 2 = x by omega]; exact q)), ← h (2 * x + 1) (by omega) (by omega) (Or.inr (by rw [show (2 * x + 1) / 2 = x by omega]; exact q))]
  exact c q
theorem trOk_map {s : Int32} {C : Nat} {k f g dg m m' bl : Nat → Int32} (h : ∀ n, n < 64 → m n = m' n) (ht : trOk s C k f g dg m bl) : trOk s C k f g dg m' bl := by
  intro x x1 x2 xr
  obtain ⟨e1, e2, e3⟩ := tree_map s h x1 x2
  have xr' : x = 1 ∨ 2 ≤ cT m (x / 2) := by
    by_cases c : x = 1
    · exact Or.inl c
    · rw [(tree_map s h (x := x / 2) (by omega) (by omega)).1]; exact xr
  obtain ⟨a, b, c⟩ := ht x x1 x2 xr'
  unfold lcl
  rw [← e1, ← e2, ← e3]
  refine ⟨a, fun q => ?_, c⟩
  obtain ⟨n, n1, n2, -⟩ := cT_one s m (128 - x) x (by omega) x1 (by omega) q
  obtain ⟨i, i1, i2, i3, i4, i5, i6⟩ := b q
  refine ⟨i, i1, i2, i3, i4, ?_, i6⟩
  rw [i5, n2, nI_clamp (by omega), h n n1]
theorem trOk_mem {s : Int32} {C C' : Nat} {k f g dg k' f' g' dg' m bl : Nat → Int32} (hC : C ≤ C') (h : ∀ i, i < C → k' i = k i ∧ f' i = f i ∧ g' i = g i ∧ dg' i = dg i) (ht : trOk s C k f g dg m bl) : trOk s C' k' f' g' dg' m bl := by
  intro x x1 x2 xr
  obtain ⟨a, b, c⟩ := ht x x1 x2 xr
  refine ⟨a, fun q => ?_, fun q => ?_⟩
  · obtain ⟨i, i1, i2, i3, i4, i5, i6⟩ := b q
    obtain ⟨h1, h2, h3, h4⟩ := h i i1
    exact ⟨i, by omega, i2, by rw [h1, i3], by rw [h2, i4], by rw [h3, i5], by rw [h4, i6]⟩
  · obtain ⟨i, i1, i2, i3, i4, i5, i6⟩ := c q
    obtain ⟨h1, h2, h3, h4⟩ := h i i1
    exact ⟨i, by omega, i2, by rw [h1, i3], by rw [h2, i4], by rw [h3, i5], by rw [h4, i6]⟩
/-- where nothing was put the old block stands -/
theorem old_blk {s : Int32} {C : Nat} {k f g dg ck la m ok : Nat → Int32} (ht : trOk s C k f g dg ck (blT ck la)) (hs : ∀ n, n < 64 → ok n = 0 → m n = ck n) {h : Nat} (h1 : 1 ≤ h) (h2 : h < 128) (hn : nd m h = true) (ho : tT ok h = false) : ∃ i, i < C ∧ la (pl m h) = nI i ∧ dg i = dT s m h ∧ (cT m h = 1 → k i = 1 ∧ f i = oT m h ∧ g i = m (oT m h).toNatClampNeg) ∧ (2 ≤ cT m h → k i = 2 ∧ f i = blT ck la (2 * h) ∧ g i = blT ck la (2 * h + 1)) := by
  obtain ⟨e1, e2, e3⟩ := tree_same s hs (128 - h) h (by omega) h1 (by omega) ho
  have hc := nd_iff.mp hn
  by_cases c1 : cT m h = 1
  · obtain ⟨n, n1, n2, n3, n4, j, j1, j2⟩ := cT_one s m (128 - h) h (by omega) h1 (by omega) c1
    have on : ok n = 0 := by
      by_cases z : ok n = 0
      · exact z
      · have := tT_of ok n1 z j j1
        rw [j2, ho] at this
        exact absurd this (by decide)
    have em := hs n n1 on
    obtain ⟨i, i1, i2, i3, i4, i5, i6⟩ := leaf_of ht n1 (by rw [← em]; exact n3)
    refine ⟨i, i1, by rw [pl_one c1 n2 n1]; exact i2, by rw [i6, n4, em], fun _ => ⟨i3, by rw [i4, n2], by rw [i5, n2, nI_clamp (by omega), em]⟩, fun q => by omega⟩
  · have c2 : 2 ≤ cT m h := by omega
    have r : h = 1 ∨ 2 ≤ cT ck (h / 2) := by
      by_cases q : h = 1
      · exact Or.inl q
      · have := cT_up ck (h := h) (by omega) h2
        right; omega
    obtain ⟨i, i1, i2, i3, i4, i5, i6⟩ := (ht h h1 h2 r).2.2 (by omega)
    rw [blT_eq, if_neg (by omega)] at i2
    exact ⟨i, i1, by rw [pl_same e1 e2]; exact i2, by rw [i6, e3], fun q => absurd q c1, fun _ => ⟨i3, i4, i5⟩⟩
theorem Bv_no {m ok la : Nat → Int32} {Nb h : Nat} (hc : cT m h = 0) : Bv m ok la Nb h = -1 := by
  unfold Bv
  rw [if_neg (fun q => by have := (nd_iff.mp q).1; omega)]
theorem Bv_new {m ok la : Nat → Int32} {Nb h : Nat} (hn : nd m h = true) (ht : tT ok h = true) : Bv m ok la Nb h = nI (Nb + rk (fun x => nd m x && tT ok x) h) := by
  unfold Bv
  rw [if_pos hn, if_pos ht]
theorem Bv_old {m ok la : Nat → Int32} {Nb h : Nat} (hn : nd m h = true) (ht : tT ok h = false) : Bv m ok la Nb h = la (pl m h) := by
  unfold Bv
  rw [if_pos hn, if_neg (by rw [ht]; decide)]
theorem Bv_blT {ck la m ok : Nat → Int32} {Nb : Nat} (hs : ∀ n, n < 64 → ok n = 0 → m n = ck n) {c : Nat} (c1 : 2 ≤ c) (c2 : c < 128) (hp : 2 ≤ cT m (c / 2)) (ho : tT ok c = false) : blT ck la c = Bv m ok la Nb c := by
  obtain ⟨e1, e2, -⟩ := tree_same 0 hs (128 - c) c (by omega) (by omega) (by omega) ho
  rw [blT_eq]
  by_cases z : cT m c = 0
  · rw [if_pos (by omega), Bv_no z]
  · rw [if_neg (by omega), Bv_old (nd_iff.mpr ⟨by omega, Or.inr hp⟩) ho, pl_same e1 e2]
/-- a new block's kind and parts -/
def bkd (m : Nat → Int32) (h : Nat) : Int32 := if cT m h = 1 then 1 else 2
def bfs (m B : Nat → Int32) (h : Nat) : Int32 := if cT m h = 1 then oT m h else B (2 * h)
def bsc (m B : Nat → Int32) (h : Nat) : Int32 := if cT m h = 1 then m (oT m h).toNatClampNeg else B (2 * h + 1)
/-- the first j new blocks are written -/
def wrt (Nb j : Nat) (m B : Nat → Int32) (W : Nat → Nat) (k f g : Nat → Int32) : Prop := ∀ i, i < j → k (Nb + i) = bkd m (W i) ∧ f (Nb + i) = bfs m B (W i) ∧ g (Nb + i) = bsc m B (W i)
theorem tree_new {s : Int32} {C C' Nb : Nat} {k f g dg k' f' g' dg' ck la m ok : Nat → Int32} (ht : trOk s C k f g dg ck (blT ck la)) (hs : ∀ n, n < 64 → ok n = 0 → m n = ck n) (hC : C ≤ Nb) (hC' : Nb + (Wl (fun x => nd m x && tT ok x)).length ≤ C') (hold : ∀ i, i < C → k' i = k i ∧ f' i = f i ∧ g' i = g i ∧ dg' i = dg i) (hnew : wrt Nb (Wl (fun x => nd m x && tT ok x)).length m (Bv m ok la Nb) (Wn (fun x => nd m x && tT ok x)) k' f' g') (hdg : ∀ i, i < (Wl (fun x => nd m x && tT ok x)).length → dg' (Nb + i) = dT s m (Wn (fun x => nd m x && tT ok x) i)) : trOk s C' k' f' g' dg' m (Bv m ok la Nb) := by
  intro h h1 h2 hr
  have key : 1 ≤ cT m h → ∃ i, i < C' ∧ Bv m ok la Nb h = nI i ∧ k' i = bkd m h ∧ f' i = bfs m (Bv m ok la Nb) h ∧ g' i = bsc m (Bv m ok la Nb) h ∧ dg' i = dT s m h := by
    intro hc
    have hn : nd m h = true := nd_iff.mpr ⟨hc, hr⟩
    by_cases t : tT ok h = true
    · obtain ⟨w1, w2⟩ := rk_W (wr := fun x => nd m x && tT ok x) h1 h2 (by rw [hn, t]; rfl)
      obtain ⟨a, b, c⟩ := hnew _ w2
      have d := hdg _ w2
      rw [w1] at a b c d
      exact ⟨_, by omega, Bv_new hn t, a, b, c, d⟩
    · have t' : tT ok h = false := by rw [Bool.not_eq_true] at t; exact t
      obtain ⟨i, i1, i2, i3, i4, i5⟩ := old_blk ht hs h1 h2 hn t'
      obtain ⟨q1, q2, q3, q4⟩ := hold i i1
      refine ⟨i, by omega, by rw [Bv_old hn t']; exact i2, ?_⟩
      rw [q1, q2, q3, q4]
      unfold bkd bfs bsc
      by_cases c1 : cT m h = 1
      · rw [if_pos c1, if_pos c1, if_pos c1]
        obtain ⟨r1, r2, r3⟩ := i4 c1
        exact ⟨r1, r2, r3, i3⟩
      · have c2 : 2 ≤ cT m h := by omega
        have := in_64 c2
        rw [if_neg c1, if_neg c1, if_neg c1]
        obtain ⟨r1, r2, r3⟩ := i5 c2
        rw [tT_in ok (by omega) this, Bool.or_eq_false_iff] at t'
        exact ⟨r1, by rw [r2]; exact Bv_blT hs (by omega) (by omega) (by rw [show 2 * h / 2 = h by omega]; exact c2) t'.1, by rw [r3]; exact Bv_blT hs (by omega) (by omega) (by rw [show (2 * h + 1) / 2 = h by omega]; exact c2) t'.2, i3⟩
  refine ⟨Bv_no, fun c1 => ?_, fun c2 => ?_⟩
  · obtain ⟨i, i1, i2, i3, i4, i5, i6⟩ := key (by omega)
    unfold bkd at i3
    unfold bfs at i4
    unfold bsc at i5
    rw [if_pos c1] at i3 i4 i5
    exact ⟨i, i1, i2, i3, i4, i5, i6⟩
  · obtain ⟨i, i1, i2, i3, i4, i5, i6⟩ := key (by omega)
    unfold bkd at i3
    unfold bfs at i4
    unfold bsc at i5
    rw [if_neg (by omega)] at i3 i4 i5
    exact ⟨i, i1, i2, i3, i4, i5, i6⟩
/-- the digest of a child, at the time when its parent is written -/
theorem f_dig_y {N i t : Nat} {X : zMem} (h : X 5 7 = nI t) (hi : i < t) (ht : t ≤ 300) : f_St_digestOf N (nI i) X = some (X 9 i, X) := by
  rw [f_St_digestOf, f_isBlock_y h hi ht, Option.bind_some, if_neg (show ¬ (1 : Int32) = 0 by decide), if_pos (zin_t (show i < 300 by omega) (by decide)), nI_clamp (show i < 2 ^ 31 by omega)]
theorem f_dig_m {N : Nat} (X : zMem) : f_St_digestOf N (-1) X = some (0, X) := by
  rw [f_St_digestOf, f_isBlock_m, Option.bind_some, if_pos rfl]
theorem dig_child {N j C Nb t : Nat} {s : Int32} {k f g dg ck la m ok : Nat → Int32} {X : zMem} (ht : trOk s C k f g dg ck (blT ck la)) (hs : ∀ n, n < 64 → ok n = 0 → m n = ck n) (hC : C ≤ Nb) (h5 : X 5 7 = nI t) (hNj : Nb + j ≤ t) (hb : t ≤ 300) (hold : ∀ i, i < C → X 9 i = dg i) (hnew : ∀ i, i < j → X 9 (Nb + i) = dT s m (Wn (fun x => nd m x && tT ok x) i)) {c : Nat} (c1 : 1 ≤ c) (c2 : c < 128) (hr : c = 1 ∨ 2 ≤ cT m (c / 2)) (hrk : nd m c = true → tT ok c = true → rk (fun x => nd m x && tT ok x) c < j) : f_St_digestOf N (Bv m ok la Nb c) X = some (dT s m c, X) := by
  by_cases z : cT m c = 0
  · rw [Bv_no z, f_dig_m, (cT_zero s m (128 - c) c (by omega) c1 (by omega) z).1]
  · have hn : nd m c = true := nd_iff.mpr ⟨by omega, hr⟩
    by_cases t : tT ok c = true
    · have r := hrk hn t
      have w := (rk_W (wr := fun x => nd m x && tT ok x) c1 c2 (by rw [hn, t]; rfl)).1
      rw [Bv_new hn t, f_dig_y h5 (by omega) hb, hnew _ r, w]
    · have t' : tT ok c = false := by rw [Bool.not_eq_true] at t; exact t
      obtain ⟨i, i1, i2, i3, -, -⟩ := old_blk ht hs c1 c2 hn t'
      rw [Bv_old hn t', i2, f_dig_y h5 (by omega) hb, hold i i1, i3]
