/-! close(): the reference writes -/
def mwM (X : zMem) (t : Nat) (a b c : Int32) (g : Nat) : zMem := zu (zu (zu (zu (zu (zu X 53 t a) 54 t b) 55 t c) 45 9 (nI (t + 1))) 45 18 (if g = 1 then 1 else 0)) 45 17 (nI (g - 1))
theorem f_write {N t g : Nat} {X : zMem} (h9 : X 45 9 = nI t) (ht : t < 300) (h17 : X 45 17 = nI g) (hg : g ≤ 100) (a b c : Int32) : ∃ r, f_Mo_write N a b c X = some (r, mwM X t a b c g) := by
  have z : zin (nI t) 300 = true := zin_t ht (by decide)
  have ct : (nI t).toNatClampNeg = t := nI_clamp (show t < 2 ^ 31 by omega)
  have e1 : zu X 53 t a 45 9 = nI t := by rw [zu_ne _ _ _ (by decide)]; exact h9
  have e2 : zu (zu X 53 t a) 54 t b 45 9 = nI t := by rw [zu_ne _ _ _ (by decide)]; exact e1
  have e3 : zu (zu (zu X 53 t a) 54 t b) 55 t c 45 9 = nI t := by rw [zu_ne _ _ _ (by decide)]; exact e2
  obtain ⟨A, hA⟩ : ∃ A, A = zu (zu (zu (zu X 53 t a) 54 t b) 55 t c) 45 9 (nI (t + 1)) := ⟨_, rfl⟩
  have a17 : A 45 17 = nI g := by rw [hA, zu_eq, upd_ne _ _ (by decide), zu_ne _ _ _ (by decide), zu_ne _ _ _ (by decide), zu_ne _ _ _ (by decide)]; exact h17
  have start : f_Mo_write N a b c X = if nI g = 1 then f_Mo_write_b54 N 1 A else f_Mo_write_b54 N 0 A := by
    rw [f_Mo_write, h9, if_pos z, ct, zlt_eq, e1, if_pos z, ct, zlt_eq, e2, if_pos z, ct, zlt_eq, e3, zlt_eq, nI_1, ← hA, a17]
  have b75 : ∀ (v : Int32) (D : zMem), ∃ r, f_Mo_write_b75 N v D = some (r, zu D 45 17 v) := by
    intro v D
    rw [f_Mo_write_b75, zlt_eq]
    by_cases q : zu D 45 17 v 45 18 = 0
    · exact ⟨_, by rw [if_pos q]⟩
    · exact ⟨_, by rw [if_neg q]⟩
  have b54 : ∀ v : Int32, zbool v = true → ∃ r, f_Mo_write_b54 N v A = some (r, zu (zu A 45 18 v) 45 17 (nI (g - 1))) := by
    intro v hv
    have d17 : zu A 45 18 v 45 17 = nI g := by rw [zu_eq, upd_ne _ _ (by decide)]; exact a17
    rw [f_Mo_write_b54, if_pos hv, zlt_eq, d17]
    by_cases q : g = 0
    · rw [if_pos (show nI g ≤ 0 by rw [q]; decide), show g - 1 = 0 by omega]
      exact b75 0 _
    · rw [if_neg (show ¬ nI g ≤ 0 by rw [lN0, nI_leI (by omega) (by decide)]; omega), lN1, nI_subN (show 1 ≤ g by omega)]
      exact b75 _ _
  rw [start]
  unfold mwM
  rw [← hA]
  by_cases q : g = 1
  · rw [if_pos (show nI g = 1 by rw [q]; rfl), if_pos q]
    exact b54 1 rfl
  · rw [if_neg (show ¬ nI g = 1 by rw [lN1, nI_eq (by omega) (by decide)]; exact q), if_neg q]
    exact b54 0 rfl
theorem mw_53 (X : zMem) (t : Nat) (a b c : Int32) (g : Nat) : mwM X t a b c g 53 = upd (X 53) t a := rfl
theorem mw_54 (X : zMem) (t : Nat) (a b c : Int32) (g : Nat) : mwM X t a b c g 54 = upd (X 54) t b := rfl
theorem mw_55 (X : zMem) (t : Nat) (a b c : Int32) (g : Nat) : mwM X t a b c g 55 = upd (X 55) t c := rfl
theorem mw_45 (X : zMem) (t : Nat) (a b c : Int32) (g : Nat) : mwM X t a b c g 45 = upd (upd (upd (X 45) 9 (nI (t + 1))) 18 (if g = 1 then 1 else 0)) 17 (nI (g - 1)) := rfl
theorem mw_ne (X : zMem) (t : Nat) (a b c : Int32) (g : Nat) {k : Nat} (h1 : k ≠ 45) (h2 : ¬ (53 ≤ k ∧ k ≤ 55)) : mwM X t a b c g k = X k := by
  unfold mwM
  rw [zu_ne _ _ _ h1, zu_ne _ _ _ h1, zu_ne _ _ _ h1, zu_ne _ _ _ (by omega), zu_ne _ _ _ (by omega), zu_ne _ _ _ (by omega)]
/-- j blocks written in the reference; the latest ones -/
def rN (m B la : Nat → Int32) (W : Nat → Nat) (Nb j : Nat) (Y X : zMem) : Prop := X 45 9 = nI (Nb + j) ∧ (∀ i, i ≠ 9 → i ≠ 17 → i ≠ 18 → X 45 i = Y 45 i) ∧ (∀ i, i < Nb → X 53 i = Y 53 i ∧ X 54 i = Y 54 i ∧ X 55 i = Y 55 i) ∧ wrt Nb j m B W (X 53) (X 54) (X 55) ∧ (∀ h, 1 ≤ h → h < 64 → X 59 h = LL m la Nb W j h) ∧ (∀ n, n < 64 → X 58 n = LL m la Nb W j (64 + idx n)) ∧ ∀ k, k ≠ 45 → ¬ (53 ≤ k ∧ k ≤ 55) → k ≠ 58 → k ≠ 59 → X k = Y k
theorem rN_step {m B la : Nat → Int32} {W : Nat → Nat} {Nb j g h : Nat} {Y X Z : zMem} (hX : rN m B la W Nb j Y X) (e : W j = h) (h0 : ∀ k, k ≠ 58 → k ≠ 59 → Z k = X k) (h59 : ∀ x, 1 ≤ x → x < 64 → Z 59 x = if x = pl m h then nI (Nb + j) else X 59 x) (h58 : ∀ n, n < 64 → Z 58 n = if 64 + idx n = pl m h then nI (Nb + j) else X 58 n) : rN m B la W Nb (j + 1) Y (mwM Z (Nb + j) (bkd m h) (bfs m B h) (bsc m B h) g) := by
  subst e
  obtain ⟨a1, a2, a3, a4, a5, a6, a7⟩ := hX
  unfold rN
  have z45 := h0 45 (by decide) (by decide)
  have z53 := h0 53 (by decide) (by decide)
  have z54 := h0 54 (by decide) (by decide)
  have z55 := h0 55 (by decide) (by decide)
  rw [mw_45, mw_53, mw_54, mw_55, z45, z53, z54, z55, mw_ne _ _ _ _ _ _ (show 59 ≠ 45 by decide) (by decide), mw_ne _ _ _ _ _ _ (show 58 ≠ 45 by decide) (by decide)]
  refine ⟨?_, fun i i1 i2 i3 => ?_, fun i hi => ?_, fun i hi => ?_, fun x x1 x2 => ?_, fun n hn => ?_, fun k k1 k2 k3 k4 => ?_⟩
  · rw [upd_ne _ _ (by decide), upd_ne _ _ (by decide), upd_eq]; rfl
  · rw [upd_ne _ _ i2, upd_ne _ _ i3, upd_ne _ _ i1]; exact a2 i i1 i2 i3
  · rw [upd_ne _ _ (show i ≠ Nb + j by omega), upd_ne _ _ (show i ≠ Nb + j by omega), upd_ne _ _ (show i ≠ Nb + j by omega)]
    exact a3 i hi
  · by_cases c : i = j
    · subst c
      rw [upd_eq, upd_eq, upd_eq]
      exact ⟨rfl, rfl, rfl⟩
    · rw [upd_ne _ _ (show Nb + i ≠ Nb + j by omega), upd_ne _ _ (show Nb + i ≠ Nb + j by omega), upd_ne _ _ (show Nb + i ≠ Nb + j by omega)]
      exact a4 i (by omega)
  · rw [h59 x x1 x2, LL]
    by_cases q : x = pl m (W j)
    · rw [if_pos q, q, upd_eq]
    · rw [if_neg q, upd_ne _ _ q]; exact a5 x x1 x2
  · rw [h58 n hn, LL]
    by_cases q : 64 + idx n = pl m (W j)
    · rw [if_pos q, q, upd_eq]
    · rw [if_neg q, upd_ne _ _ q]; exact a6 n hn
  · rw [mw_ne _ _ _ _ _ _ k1 k2, h0 k k3 k4]
    exact a7 k k1 k2 k3 k4
theorem g_blockOf {N Nb j : Nat} {s : Int32} {m ok la : Nat → Int32} {Y X : zMem} (hj : j ≤ (Wl (fun x => nd m x && tT ok x)).length) (hX : rN m (Bv m ok la Nb) la (Wn (fun x => nd m x && tT ok x)) Nb j Y X) (ht : ∀ h, 0 < h → h < 128 → tA s m (Y 50) (Y 51) (Y 52) h) {c : Nat} (c1 : 1 ≤ c) (c2 : c < 128) (hr : c = 1 ∨ 2 ≤ cT m (c / 2)) (hrk : nd m c = true → tT ok c = true → rk (fun x => nd m x && tT ok x) c < j) : f_Mo_blockOf N (nI c) X = some (Bv m ok la Nb c, X) := by
  obtain ⟨a1, a2, a3, a4, a5, a6, a7⟩ := hX
  obtain ⟨t1, t2, t3⟩ := ht c (by omega) c2
  have c64 := cT_64 m c1 c2
  have z : zin (nI c) 128 = true := zin_t c2 (by decide)
  rw [f_Mo_blockOf, if_pos z, nI_clamp (show c < 2 ^ 31 by omega), a7 50 (by decide) (by decide) (by decide) (by decide), t1, a7 52 (by decide) (by decide) (by decide) (by decide), t3]
  by_cases q0 : cT m c = 0
  · rw [if_pos (show nI (cT m c) = 0 by rw [q0]; rfl), Bv_no q0]
  · have hn : nd m c = true := nd_iff.mpr ⟨by omega, hr⟩
    have hL := LL_eq (m := m) (ok := ok) (la := la) (Nb := Nb) j c hj c1 c2 hn (hrk hn)
    rw [if_neg (show ¬ nI (cT m c) = 0 by rw [lN0, nI_eq (by omega) (by decide)]; exact q0), if_pos z]
    by_cases q1 : cT m c = 1
    · obtain ⟨n, n1, n2, -⟩ := cT_one s m (128 - c) c (by omega) c1 (by omega) q1
      rw [if_pos (show nI (cT m c) = 1 by rw [q1]; rfl), if_pos z, n2, if_pos (zin_t n1 (by decide)), nI_clamp (show n < 2 ^ 31 by omega), a6 n n1]
      rw [pl_one q1 n2 n1] at hL
      rw [hL]
    · have := in_64 (m := m) (h := c) (by omega)
      rw [if_neg (show ¬ nI (cT m c) = 1 by rw [lN1, nI_eq (by omega) (by decide)]; exact q1), if_pos z, a5 c c1 this]
      unfold pl at hL
      rw [if_neg q1] at hL
      rw [hL]
theorem g_writeNode {N Nb j g : Nat} {s : Int32} {m ok la : Nat → Int32} {Y X : zMem} (hj : j < (Wl (fun x => nd m x && tT ok x)).length) (hN : Nb + j < 300) (hm : Y 47 = m) (hX : rN m (Bv m ok la Nb) la (Wn (fun x => nd m x && tT ok x)) Nb j Y X) (ht : ∀ h, 0 < h → h < 128 → tA s m (Y 50) (Y 51) (Y 52) h) (h17 : X 45 17 = nI g) (hg : g ≤ 100) : ∃ X', f_Mo_writeNode N (nI (Wn (fun x => nd m x && tT ok x) j)) X = some (0, X') ∧ rN m (Bv m ok la Nb) la (Wn (fun x => nd m x && tT ok x)) Nb (j + 1) Y X' ∧ X' 45 17 = nI (g - 1) ∧ X' 45 18 = if g = 1 then 1 else 0 := by
  obtain ⟨P, R, -, -, w1, w2, w3, w4⟩ := W_sp (fun x => nd m x && tT ok x) hj
  obtain ⟨h, hh⟩ : ∃ h, h = Wn (fun x => nd m x && tT ok x) j := ⟨_, rfl⟩
  rw [← hh] at w1 w2 w3 w4 ⊢
  rw [Bool.and_eq_true] at w1
  have hnd := nd_iff.mp w1.1
  obtain ⟨t1, t2, t3⟩ := ht h (by omega) w3
  obtain ⟨a1, a2, a3, a4, a5, a6, a7⟩ := id hX
  have c64 := cT_64 m w2 w3
  have z : zin (nI h) 128 = true := zin_t w3 (by decide)
  have x50 : X 50 h = nI (cT m h) := by rw [a7 50 (by decide) (by decide) (by decide) (by decide)]; exact t1
  have x52 : X 52 h = oT m h := by rw [a7 52 (by decide) (by decide) (by decide) (by decide)]; exact t3
  have fin : ∀ Z : zMem, mwM Z (Nb + j) (bkd m h) (bfs m (Bv m ok la Nb) h) (bsc m (Bv m ok la Nb) h) g 45 17 = nI (g - 1) ∧ mwM Z (Nb + j) (bkd m h) (bfs m (Bv m ok la Nb) h) (bsc m (Bv m ok la Nb) h) g 45 18 = if g = 1 then 1 else 0 := fun Z => by
    rw [mw_45, upd_eq, upd_ne _ _ (show 18 ≠ 17 by decide), upd_eq]
    exact ⟨rfl, rfl⟩
  rw [f_Mo_writeNode, if_pos z, nI_clamp (show h < 2 ^ 31 by omega), x50]
  by_cases c1 : cT m h = 1
  · obtain ⟨n, n1, n2, -⟩ := cT_one s m (128 - h) h (by omega) w2 (by omega) c1
    have hpl := pl_one c1 n2 n1
    have zn : zin (nI n) 64 = true := zin_t n1 (by decide)
    have cn : (nI n).toNatClampNeg = n := nI_clamp (show n < 2 ^ 31 by omega)
    obtain ⟨Z, hZ⟩ : ∃ Z, Z = zu X 58 n (nI (Nb + j)) := ⟨_, rfl⟩
    have z52 : Z 52 h = nI n := by rw [hZ, zu_ne _ _ _ (by decide), x52, n2]
    have z47 : Z 47 n = m n := by rw [hZ, zu_ne _ _ _ (by decide), a7 47 (by decide) (by decide) (by decide) (by decide), hm]
    have z9 : Z 45 9 = nI (Nb + j) := by rw [hZ, zu_ne _ _ _ (by decide)]; exact a1
    have z17 : Z 45 17 = nI g := by rw [hZ, zu_ne _ _ _ (by decide)]; exact h17
    obtain ⟨r, hr⟩ := f_write (N := N) z9 hN z17 hg 1 (nI n) (m n)
    have e1 : bkd m h = 1 := by unfold bkd; rw [if_pos c1]
    have e2 : bfs m (Bv m ok la Nb) h = nI n := by unfold bfs; rw [if_pos c1, n2]
    have e3 : bsc m (Bv m ok la Nb) h = m n := by unfold bsc; rw [if_pos c1, n2, cn]
    refine ⟨mwM Z (Nb + j) (bkd m h) (bfs m (Bv m ok la Nb) h) (bsc m (Bv m ok la Nb) h) g, ?_, rN_step hX hh.symm (fun k k1 k2 => by rw [hZ, zu_ne _ _ _ k1]) (fun x x1 x2 => ?_) (fun n' hn' => ?_), fin Z⟩
    · rw [if_pos (show nI (cT m h) = 1 by rw [c1]; rfl), if_pos z, x52, n2, if_pos zn, cn, a1, zlt_eq, ← hZ, if_pos z, if_pos z, z52, if_pos zn, cn, z47, hr, Option.bind_some, e1, e2, e3]
    · rw [hpl, if_neg (by omega), hZ, zu_ne _ _ _ (by decide)]
    · rw [hpl, hZ, zu_eq]
      by_cases q : n' = n
      · rw [q, if_pos rfl, upd_eq]
      · rw [if_neg (fun w => q (by rw [← ixn_idx n' hn', ← ixn_idx n n1]; congr 1; omega)), upd_ne _ _ q]
  · have c2 : 2 ≤ cT m h := by omega
    have h6 := in_64 c2
    have hpl : pl m h = h := by unfold pl; rw [if_neg c1]
    have em : (2 : Int32) * nI h = nI (2 * h) := by rw [lN2, nI_mulN]
    obtain ⟨r1, r2⟩ := rk_child (wr := fun x => nd m x && tT ok x) w2 h6
    have b1 : f_Mo_blockOf N (nI (2 * h)) X = some (Bv m ok la Nb (2 * h), X) := g_blockOf (N := N) (by omega) hX ht (by omega) (by omega) (Or.inr (by rw [show 2 * h / 2 = h by omega]; exact c2)) (fun q1 q2 => by rw [← w4]; exact r1 (by rw [q1, q2]; rfl))
    have b2 : f_Mo_blockOf N (nI (2 * h + 1)) X = some (Bv m ok la Nb (2 * h + 1), X) := g_blockOf (N := N) (by omega) hX ht (by omega) (by omega) (Or.inr (by rw [show (2 * h + 1) / 2 = h by omega]; exact c2)) (fun q1 q2 => by rw [← w4]; exact r2 (by rw [q1, q2]; rfl))
    obtain ⟨Z, hZ⟩ : ∃ Z, Z = zu X 59 h (nI (Nb + j)) := ⟨_, rfl⟩
    have z9 : Z 45 9 = nI (Nb + j) := by rw [hZ, zu_ne _ _ _ (by decide)]; exact a1
    have z17 : Z 45 17 = nI g := by rw [hZ, zu_ne _ _ _ (by decide)]; exact h17
    obtain ⟨r, hr⟩ := f_write (N := N) z9 hN z17 hg 2 (Bv m ok la Nb (2 * h)) (Bv m ok la Nb (2 * h + 1))
    have e1 : bkd m h = 2 := by unfold bkd; rw [if_neg c1]
    have e2 : bfs m (Bv m ok la Nb) h = Bv m ok la Nb (2 * h) := by unfold bfs; rw [if_neg c1]
    have e3 : bsc m (Bv m ok la Nb) h = Bv m ok la Nb (2 * h + 1) := by unfold bsc; rw [if_neg c1]
    refine ⟨mwM Z (Nb + j) (bkd m h) (bfs m (Bv m ok la Nb) h) (bsc m (Bv m ok la Nb) h) g, ?_, rN_step hX hh.symm (fun k k1 k2 => by rw [hZ, zu_ne _ _ _ k2]) (fun x x1 x2 => ?_) (fun n' hn' => ?_), fin Z⟩
    · rw [if_neg (show ¬ nI (cT m h) = 1 by rw [lN1, nI_eq (by omega) (by decide)]; exact c1), em, nI_1, b1, Option.bind_some]
      dsimp only
      rw [b2, Option.bind_some]
      dsimp only
      rw [if_pos z, a1, zlt_eq, ← hZ, hr, Option.bind_some, e1, e2, e3]
    · rw [hpl, hZ, zu_eq]
      by_cases q : x = h
      · rw [q, if_pos rfl, upd_eq]
      · rw [if_neg q, upd_ne _ _ q]
    · rw [hpl, if_neg (by omega), hZ, zu_ne _ _ _ (by decide)]
/-- the reference while it writes -/
def rQ (m ok la : Nat → Int32) (Nb F : Nat) (Y : zMem) (R : List Nat) (c : Nat) (X : zMem) : Prop := rN m (Bv m ok la Nb) la (Wn (fun x => nd m x && tT ok x)) Nb c Y X ∧ ((∃ P, oAll = P ++ R ∧ c = (P.filter (fun x => nd m x && tT ok x)).length ∧ (F = 0 ∨ c < F) ∧ X 45 17 = nI (F - c) ∧ X 45 18 = 0) ∨ (1 ≤ F ∧ F ≤ (Wl (fun x => nd m x && tT ok x)).length ∧ c = F ∧ X 45 17 = nI 0 ∧ X 45 18 = 1))
theorem g_nodes {N Nb F : Nat} (hN : 129 ≤ N) {s : Int32} {m ok la : Nat → Int32} {Y : zMem} (hNb : Nb + (Wl (fun x => nd m x && tT ok x)).length + 1 ≤ 300) (hF : F ≤ 100) (hm : Y 47 = m) (ht : ∀ h, 0 < h → h < 128 → tA s m (Y 50) (Y 51) (Y 52) h) (hp : ∀ n, n < 64 → (Y 48 n = 0 ↔ ok n = 0)) (h9 : Y 45 9 = nI Nb) (h17 : Y 45 17 = nI F) (h18 : Y 45 18 = 0) (h59 : ∀ h, 1 ≤ h → h < 64 → Y 59 h = la h) (h58 : ∀ n, n < 64 → Y 58 n = la (64 + idx n)) : ∃ c X, f_Mo_nodes N 1 Y = some (nI c, X) ∧ rQ m ok la Nb F Y [] c X := by
  obtain ⟨c, X, q1, q2⟩ := nodes_l4 (N := N) (by omega) 1 (rQ m ok la Nb F Y) (fun h l R c X hl l1 l2 hQ => by
    obtain ⟨hX, hQ⟩ := hQ
    obtain ⟨v1, v2⟩ := lvl_rng l hl
    obtain ⟨a1, a2, a3, a4, a5, a6, a7⟩ := id hX
    have ha : ∀ x, 0 < x → x < 128 → X 50 x = nI (cT m x) := fun x x1 x2 => by rw [a7 50 (by decide) (by decide) (by decide) (by decide)]; exact (ht x x1 x2).1
    have hp' : ∀ n, n < 64 → (X 48 n = 0 ↔ ok n = 0) := by rw [a7 48 (by decide) (by decide) (by decide) (by decide)]; exact hp
    have b50 : ∀ k4 k14 x3, f_Mo_nodes_b50 N k4 k14 1 (nI c) x3 (nI l) (nI h) 1 X = if (nd m h && tT ok h) = true then (if X 45 18 = 0 then (f_Mo_writeNode N (nI h) X).bind fun q94 => f_Mo_nodes_b97 N k4 k14 1 (nI (c + 1)) x3 (nI l) q94.2 else f_Mo_nodes_b97 N k4 k14 1 (nI c) x3 (nI l) X) else f_Mo_nodes_b97 N k4 k14 1 (nI c) x3 (nI l) X := by
      intro k4 k14 x3
      rw [f_Mo_nodes_b50, if_neg (show ¬ (1 : Int32) = 0 by decide), g_isNode (by omega) (by omega) ha, Option.bind_some]
      dsimp only
      by_cases cn : nd m h = true
      · rw [if_pos cn, if_neg (show ¬ (1 : Int32) = 0 by decide), g_touched (by omega) hl l1 l2 hp', Option.bind_some]
        dsimp only
        by_cases ct : tT ok h = true
        · rw [if_pos ct, if_neg (show ¬ (1 : Int32) = 0 by decide), if_pos (show (nd m h && tT ok h) = true by rw [cn, ct]; rfl)]
          by_cases z : X 45 18 = 0
          · rw [if_pos z, if_pos z, zlt_eq, nI_1, if_neg (show ¬ (1 : Int32) = 0 by decide)]
          · rw [if_neg z, if_neg z]
        · rw [if_neg ct, if_pos rfl, if_neg (show ¬ (nd m h && tT ok h) = true by rw [Bool.and_eq_true]; exact fun q => ct q.2)]
      · rw [if_neg cn, if_pos rfl, if_neg (show ¬ (nd m h && tT ok h) = true by rw [Bool.and_eq_true]; exact fun q => cn q.1)]
    rcases hQ with ⟨P, p1, p2, p3, p4, p5⟩ | ⟨p1, p2, p3, p4, p5⟩
    · have e4 : oAll = (P ++ [h]) ++ R := by rw [p1, List.append_assoc]; rfl
      by_cases cw : (nd m h && tT ok h) = true
      · have hk : rk (fun x => nd m x && tT ok x) h = c := by rw [sp_rk p1, p2]
        obtain ⟨u1, u2⟩ := rk_W (wr := fun x => nd m x && tT ok x) (h := h) (by omega) (by omega) cw
        rw [hk] at u1 u2
        obtain ⟨X', x1, x2, x3, x4⟩ := g_writeNode (N := N) u2 (by omega) hm hX ht p4 (by omega)
        rw [u1] at x1
        refine ⟨c + 1, X', ⟨x2, ?_⟩, fun k4 k14 y3 => by rw [b50, if_pos cw, if_pos p5, x1, Option.bind_some]⟩
        by_cases q : F - c = 1
        · refine Or.inr ⟨by omega, by omega, by omega, by rw [x3, q], by rw [x4, if_pos q]⟩
        · refine Or.inl ⟨P ++ [h], e4, ?_, by omega, by rw [x3]; congr 1, by rw [x4, if_neg q]⟩
          rw [List.filter_append, List.filter_cons, if_pos cw, List.filter_nil, List.length_append, ← p2]; rfl
      · refine ⟨c, X, ⟨hX, Or.inl ⟨P ++ [h], e4, ?_, p3, p4, p5⟩⟩, fun k4 k14 y3 => by rw [b50, if_neg cw]⟩
        rw [List.filter_append, List.filter_cons, if_neg cw, List.filter_nil, List.append_nil]; exact p2
    · refine ⟨c, X, ⟨hX, Or.inr ⟨p1, p2, p3, p4, p5⟩⟩, fun k4 k14 y3 => ?_⟩
      rw [b50, if_neg (show ¬ X 45 18 = 0 by rw [p5]; decide)]
      by_cases cw : (nd m h && tT ok h) = true
      · rw [if_pos cw]
      · rw [if_neg cw]) 64 0 N 0 Y (by omega) (by omega) ⟨⟨h9, fun _ _ _ _ => rfl, fun _ _ => ⟨rfl, rfl, rfl⟩, fun i hi => absurd hi (Nat.not_lt_zero _), h59, h58, fun _ _ _ _ _ => rfl⟩, Or.inl ⟨[], rfl, rfl, by omega, h17, h18⟩⟩
  exact ⟨c, X, by rw [f_Mo_nodes]; exact q2, q1⟩
