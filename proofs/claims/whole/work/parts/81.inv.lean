/-! mathematics: numbers, the invariant of class and reference in one memory -/
theorem nI_mulN (a b : Nat) : nI a * nI b = nI (a * b) := (Int32.ofNat_mul a b).symm
theorem nI_subN {a b : Nat} (h : b ≤ a) : nI a - nI b = nI (a - b) := by
  have : nI a = nI (a - b) + nI b := by rw [nI_add, Nat.sub_add_cancel h]
  rw [this, Int32.add_sub_cancel]
theorem zin_nI {k n : Nat} (h : k < 2 ^ 31) : zin (nI k) n = decide (k < n) := by
  unfold zin
  rw [nI_clamp h, decide_eq_true (nI_pos' h), Bool.true_and]
theorem zin_t {k n : Nat} (h : k < n) (hn : n < 2 ^ 31) : zin (nI k) n = true := by
  rw [zin_nI (by omega)]; exact decide_eq_true h
theorem tI0 : (0 : Int32).toInt = 0 := by decide
theorem nI_lt0 {k : Nat} (h : k < 2 ^ 31) : ¬ nI k < 0 := nI_pos h
/-- a literal is its number -/
theorem lN0 : (0 : Int32) = nI 0 := rfl
theorem lN1 : (1 : Int32) = nI 1 := rfl
theorem lN2 : (2 : Int32) = nI 2 := rfl
theorem lN3 : (3 : Int32) = nI 3 := rfl
theorem lN4 : (4 : Int32) = nI 4 := rfl
theorem lN5 : (5 : Int32) = nI 5 := rfl
theorem lN6 : (6 : Int32) = nI 6 := rfl
theorem lN29 : (29 : Int32) = nI 29 := rfl
theorem lN30 : (30 : Int32) = nI 30 := rfl
theorem lN40 : (40 : Int32) = nI 40 := rfl
theorem lN64 : (64 : Int32) = nI 64 := rfl
theorem lN300 : (300 : Int32) = nI 300 := rfl
theorem zu_ne (M : zMem) (j : Nat) (v : Int32) {k k' : Nat} (h : k' ≠ k) : zu M k j v k' = M k' := if_neg h
theorem zu_eq (M : zMem) (k j : Nat) (v : Int32) : zu M k j v k = upd (M k) j v := if_pos rfl
theorem upd_eq (f : Nat → Int32) (k : Nat) (v : Int32) : upd f k v k = v := if_pos rfl
theorem upd_ne (f : Nat → Int32) (v : Int32) {k j : Nat} (h : j ≠ k) : upd f k v j = f j := if_neg h
/-- the digest, by the shift -/
def zH (s t x y : Int32) : Int32 := zlt (t * 73244475 + x) fun a => zlt ((a ^^^ zush a 16) * 73244475 + y) fun b => zlt ((b ^^^ zush b 16) * 73244475) fun c => zlt (c ^^^ zush c 16) fun d => zlt (zush d s) fun v => if v = 0 then 1 else v
theorem zH_last (v : Int32) : (if v = 0 then (1 : Int32) else v) ≠ 0 := by
  by_cases h : v = 0
  · rw [if_pos h]; decide
  · rw [if_neg h]; exact h
/-- over any steps: so nothing of them is looked at -/
theorem dg_ne (e1 : Int32) (F2 F3 F4 F5 : Int32 → Int32) : (zlt e1 fun a => zlt (F2 a) fun b => zlt (F3 b) fun c => zlt (F4 c) fun d => zlt (F5 d) fun v => if v = 0 then (1 : Int32) else v) ≠ 0 := zH_last (F5 (F4 (F3 (F2 e1))))
theorem dg_gen (e1 : Int32) (F2 F3 F4 F5 : Int32 → Int32) (M : zMem) : (zlt e1 fun a => zlt (F2 a) fun b => zlt (F3 b) fun c => zlt (F4 c) fun d => zlt (F5 d) fun v => if v = 0 then some ((1 : Int32), M) else some (v, M)) = some (zlt e1 fun a => zlt (F2 a) fun b => zlt (F3 b) fun c => zlt (F4 c) fun d => zlt (F5 d) fun v => if v = 0 then (1 : Int32) else v, M) := by
  show (if F5 (F4 (F3 (F2 e1))) = 0 then some ((1 : Int32), M) else some (F5 (F4 (F3 (F2 e1))), M)) = some (if F5 (F4 (F3 (F2 e1))) = 0 then (1 : Int32) else F5 (F4 (F3 (F2 e1))), M)
  generalize F5 (F4 (F3 (F2 e1))) = v
  by_cases h : v = 0
  · rw [if_pos h, if_pos h]
  · rw [if_neg h, if_neg h]
theorem zH_ne (s t x y : Int32) : zH s t x y ≠ 0 := dg_ne (t * 73244475 + x) (fun a => (a ^^^ zush a 16) * 73244475 + y) (fun b => (b ^^^ zush b 16) * 73244475) (fun c => c ^^^ zush c 16) (fun d => zush d s)
theorem f_digest (N : Nat) (t x y : Int32) (M : zMem) : f_Dg_digest N t x y M = some (zH (M 1 0) t x y, M) := dg_gen (t * 73244475 + x) (fun a => (a ^^^ zush a 16) * 73244475 + y) (fun b => (b ^^^ zush b 16) * 73244475) (fun c => c ^^^ zush c 16) (fun d => zush d (M 1 0)) M
theorem f_hash (N : Nat) (t x y : Int32) (M : zMem) : f_Mo_hash N t x y M = some (zH (32 - M 45 0) t x y, M) := dg_gen (t * 73244475 + x) (fun a => (a ^^^ zush a 16) * 73244475 + y) (fun b => (b ^^^ zush b 16) * 73244475) (fun c => c ^^^ zush c 16) (fun d => zush d (32 - M 45 0)) M
/-- how many of the first n are not 0 -/
def nz (f : Nat → Int32) : Nat → Nat
  | 0 => 0
  | n + 1 => nz f n + (if f n = 0 then 0 else 1)
theorem nz_le (f : Nat → Int32) : ∀ n, nz f n ≤ n
  | 0 => Nat.le_refl _
  | n + 1 => by
    have := nz_le f n
    unfold nz
    split <;> omega
theorem nz_congr {f g : Nat → Int32} : ∀ n, (∀ i, i < n → (f i = 0 ↔ g i = 0)) → nz f n = nz g n
  | 0, _ => rfl
  | n + 1, h => by
    unfold nz
    rw [nz_congr n (fun i hi => h i (by omega))]
    by_cases hf : f n = 0
    · rw [if_pos hf, if_pos ((h n (by omega)).mp hf)]
    · rw [if_neg hf, if_neg (fun q => hf ((h n (by omega)).mpr q))]
theorem nz_upd {f : Nat → Int32} {k : Nat} {v : Int32} (hv : v ≠ 0) : ∀ n, k < n → nz (upd f k v) n = nz f n + (if f k = 0 then 1 else 0)
  | 0, h => by omega
  | n + 1, h => by
    unfold nz
    by_cases hk : k = n
    · subst hk
      rw [upd_eq, if_neg hv, nz_congr (f := upd f k v) (g := f) k (fun i hi => by rw [upd_ne _ _ (by omega)])]
      by_cases hf : f k = 0
      · rw [if_pos hf, if_pos hf]
      · rw [if_neg hf, if_neg hf]
    · rw [nz_upd hv n (by omega), upd_ne _ _ (by omega)]
      omega
/-! the parts of the invariant -/
def iFlag (st fu st' fu' : Int32) : Prop := st' = st ∧ fu' = fu ∧ (st = 0 ∨ st = 1) ∧ ∃ f : Nat, f ≤ 100 ∧ fu = nI f
def iAud (hs e h e' h' : Int32) : Prop := (hs = 0 ∧ e' = -1) ∨ (hs = 1 ∧ e' = e ∧ h' = h ∧ ∃ k : Nat, k < 40 ∧ e = nI k)
def iBuf (cnt : Int32) (w : Nat → Int32) (cnt' : Int32) (w' : Nat → Int32) (o : Nat) : Prop := cnt' = cnt ∧ ∃ c : Nat, c ≤ 30 ∧ cnt = nI c ∧ ∀ i, i < c → w i = w' (o + i)
def iMap (E : Nat) (ck ok mp pt keys : Nat → Int32) (cc oc : Int32) : Prop :=
  (∀ n, n < 64 → (ok n = 0 → pt n = 0 ∧ mp n = ck n) ∧ (ok n ≠ 0 → pt n = 1 ∧ mp n = ok n)) ∧
  (∀ n, n < 64 → ck n = if E = 0 then 0 else keys (64 * (E - 1) + n)) ∧ cc = nI (nz ck 64) ∧ oc = nI (nz ok 64)
def iBlk (Nb C : Nat) (k f s k' f' s' : Nat → Int32) (st : Int32) : Prop :=
  Nb ≤ 300 ∧ C ≤ Nb ∧ (st = 0 → C = Nb) ∧ (C = 0 ∨ k (C - 1) = 3) ∧ (∀ i, C ≤ i → i < Nb → k i ≠ 3) ∧ ∀ i, i < Nb → k' i = k i ∧ f' i = f i ∧ s' i = s i
/-- the indices of names; the name of an index -/
def idx (n : Nat) : Nat := (37 * n + 11) % 64
def ixn (i : Nat) : Nat := (45 * (i + 53)) % 64
/-- how many names of the map m begin with the prefix h; the digest there; the only name there -/
def cT (m : Nat → Int32) (h : Nat) : Nat := if hh : 0 < h ∧ h < 64 then cT m (2 * h) + cT m (2 * h + 1) else if m (ixn (h - 64)) = 0 then 0 else 1
termination_by 128 - h
decreasing_by all_goals omega
def dT (s : Int32) (m : Nat → Int32) (h : Nat) : Int32 := if hh : 0 < h ∧ h < 64 then (if 1 < cT m h then zH s 2 (dT s m (2 * h)) (dT s m (2 * h + 1)) else dT s m (2 * h) + dT s m (2 * h + 1)) else if m (ixn (h - 64)) = 0 then 0 else zH s 1 (nI (ixn (h - 64))) (m (ixn (h - 64)))
termination_by 128 - h
decreasing_by all_goals omega
def oT (m : Nat → Int32) (h : Nat) : Int32 := if hh : 0 < h ∧ h < 64 then (if cT m h = 1 then oT m (2 * h) + oT m (2 * h + 1) + 1 else -1) else if m (ixn (h - 64)) = 0 then -1 else nI (ixn (h - 64))
termination_by 128 - h
decreasing_by all_goals omega
/-- a block bl h stands for the node at prefix h of the map m -/
def lcl (s : Int32) (C : Nat) (k f g dg m bl : Nat → Int32) (h : Nat) : Prop :=
  (cT m h = 0 → bl h = -1) ∧
  (cT m h = 1 → ∃ i, i < C ∧ bl h = nI i ∧ k i = 1 ∧ f i = oT m h ∧ g i = m (oT m h).toNatClampNeg ∧ dg i = dT s m h) ∧
  (2 ≤ cT m h → ∃ i, i < C ∧ bl h = nI i ∧ k i = 2 ∧ f i = bl (2 * h) ∧ g i = bl (2 * h + 1) ∧ dg i = dT s m h)
def trOk (s : Int32) (C : Nat) (k f g dg m bl : Nat → Int32) : Prop := ∀ h, 1 ≤ h → h < 128 → (h = 1 ∨ 2 ≤ cT m (h / 2)) → lcl s C k f g dg m bl h
/-- the blocks of the last epoch's tree, by the latest ones -/
def blT (m la : Nat → Int32) (h : Nat) : Int32 := if cT m h = 0 then -1 else if cT m h = 1 then la (64 + idx (oT m h).toNatClampNeg) else la h
def keyE (keys : Nat → Int32) (e n : Nat) : Int32 := keys (64 * e + n)
def iTree (s : Int32) (E C : Nat) (k f g dg keys tops roots la inb lfb : Nat → Int32) (ck : Nat → Int32) : Prop :=
  (∀ e, e < E → roots e = dT s (keyE keys e) 1 ∧ ∃ bl, bl 1 = tops e ∧ trOk s C k f g dg (keyE keys e) bl) ∧
  trOk s C k f g dg ck (blT ck la) ∧ (∀ h, 1 ≤ h → h < 64 → la h = inb h) ∧ ∀ n, n < 64 → la (64 + idx n) = lfb n
def iHist (s : Int32) (E : Nat) (roots leaves heads roots' : Nat → Int32) : Prop := ∀ e, e < E → roots' e = roots e ∧ leaves e = zH s 3 (roots e) (nI e) ∧ heads e = rd (zH s 4) leaves 0 (e + 1)
def iBufs (M : zMem) : Prop := iBuf (M 28 1) (M 29) (M 61 0) (M 60) 0 ∧ iBuf (M 30 1) (M 31) (M 61 1) (M 60) 30 ∧ iBuf (M 32 1) (M 33) (M 61 2) (M 60) 60 ∧ iBuf (M 34 1) (M 35) (M 61 3) (M 60) 90
def Inv (M : zMem) : Prop :=
  M 1 0 = 32 - M 45 0 ∧ iFlag (M 0 11) (M 0 12) (M 45 18) (M 45 17) ∧ (M 45 21 = M 0 13 ∧ M 45 22 = M 0 14) ∧ iAud (M 0 15) (M 0 16) (M 0 17) (M 45 31) (M 45 32) ∧
  (∀ i, i < 6 → M 70 i = M 44 i) ∧ iBufs M ∧
  ∃ E Nb C : Nat, E ≤ 40 ∧ M 18 6 = nI E ∧ M 45 4 = nI E ∧ M 5 7 = nI Nb ∧ M 45 9 = nI Nb ∧ M 5 8 = nI C ∧
    iMap E (M 3) (M 4) (M 47) (M 48) (M 46) (M 2 2) (M 2 3) ∧ iBlk Nb C (M 6) (M 7) (M 8) (M 53) (M 54) (M 55) (M 0 11) ∧
    iHist (M 1 0) E (M 20) (M 21) (M 22) (M 49) ∧ iTree (M 1 0) E C (M 6) (M 7) (M 8) (M 9) (M 46) (M 19) (M 20) (M 11) (M 57) (M 56) (M 3)
/-- one call on both -/
def Ok2 (f g : zMem → Option (Int32 × zMem)) : Prop := ∀ M, Inv M → ∃ r M1 M2, f M = some (r, M1) ∧ g M1 = some (r, M2) ∧ Inv M2
theorem ok_hash (N : Nat) (t x y : Int32) : Ok2 (f_ED_hash N t x y) (f_Mo_hash N t x y) := by
  intro M h
  refine ⟨zH (M 1 0) t x y, M, M, ?_, ?_, h⟩
  · rw [f_ED_hash, f_digest]; rfl
  · rw [f_hash, h.1]
theorem ok_clash (N : Nat) (x : Int32) : Ok2 (f_ED_clash N x) (f_Mo_clash N x) := by
  intro M h
  obtain ⟨h1, h2, h3, h4, h5, h6⟩ := h
  have hI : Inv M := ⟨h1, h2, h3, h4, h5, h6⟩
  unfold f_ED_clash f_Mo_clash
  by_cases c0 : x < 0
  · exact ⟨0, M, M, by rw [if_pos c0], by rw [if_pos c0], hI⟩
  · obtain ⟨j, hj, rfl⟩ := nI_of c0
    by_cases c1 : j < 6
    · refine ⟨M 44 j, M, M, ?_, ?_, hI⟩
      · rw [if_neg c0, if_neg (show ¬ (6 : Int32) ≤ nI j by rw [lN6, nI_leI (by decide) hj]; omega), if_pos (zin_t c1 (by decide)), nI_clamp hj]
      · rw [if_neg c0, if_pos (show nI j ≤ (5 : Int32) by rw [lN5, nI_leI hj (by decide)]; omega), if_pos (zin_t c1 (by decide)), nI_clamp hj, h5 j c1]
    · refine ⟨0, M, M, ?_, ?_, hI⟩
      · rw [if_neg c0, if_pos (show (6 : Int32) ≤ nI j by rw [lN6, nI_leI (by decide) hj]; omega)]
      · rw [if_neg c0, if_neg (show ¬ nI j ≤ (5 : Int32) by rw [lN5, nI_leI hj (by decide)]; omega)]
theorem ok_seen (N : Nat) (x : Int32) : Ok2 (f_ED_seen N x) (f_Mo_seen N x) := by
  intro M h
  obtain ⟨h1, h2, h3, h4, h5, h6⟩ := h
  have hI : Inv M := ⟨h1, h2, h3, h4, h5, h6⟩
  unfold f_ED_seen f_Mo_seen
  rcases h4 with ⟨a1, a2⟩ | ⟨a1, a2, a3, k, a4, a5⟩
  · refine ⟨-1, M, M, by rw [if_pos a1], ?_, hI⟩
    rw [a2, if_neg (by decide)]
  · have hk : ¬ M 0 15 = 0 := by rw [a1]; decide
    have hp : (0 : Int32) ≤ M 45 31 := by rw [a2, a5]; exact nI_pos' (by omega)
    rw [if_neg hk]
    by_cases c0 : x = 0
    · exact ⟨_, M, M, by rw [if_pos c0], by rw [if_pos hp, if_pos c0, a2], hI⟩
    · by_cases c1 : x = 1
      · exact ⟨_, M, M, by rw [if_neg c0, if_pos c1], by rw [if_pos hp, if_neg c0, if_pos c1, a3], hI⟩
      · exact ⟨_, M, M, by rw [if_neg c0, if_neg c1], by rw [if_pos hp, if_neg c0, if_neg c1], hI⟩
theorem ok_fuse (N : Nat) (x : Int32) : Ok2 (f_ED_fuse N x) (f_Mo_fuse N x) := by
  intro M h
  obtain ⟨h1, ⟨a1, a2, a3, a4⟩, h3, h4, h5, h6, h7⟩ := h
  have hI : Inv M := ⟨h1, ⟨a1, a2, a3, a4⟩, h3, h4, h5, h6, h7⟩
  unfold f_ED_fuse f_Mo_fuse zlt
  by_cases c0 : M 0 11 = 0
  · by_cases c1 : x < 1
    · exact ⟨0, M, M, by rw [if_pos c0, if_pos c1], by rw [a1, if_pos c0, if_pos c1], hI⟩
    · by_cases c2 : x ≤ 100
      · refine ⟨1, zu M 0 12 x, zu (zu M 0 12 x) 45 17 x, by rw [if_pos c0, if_neg c1, if_pos c2], ?_, ?_⟩
        · have e : zu M 0 12 x 45 18 = M 0 11 := a1
          rw [e, if_pos c0, if_neg c1, if_pos c2]
        · have hx : ∃ f : Nat, f ≤ 100 ∧ x = nI f := by
            have e1 : (1 : Int32).toInt = 1 := by decide
            have e2 : (100 : Int32).toInt = (100 : Nat) := by decide
            exact nI_of2 e2 (fun q => c1 (by rw [Int32.lt_iff_toInt_lt] at q ⊢; rw [tI0] at q; rw [e1]; omega)) c2
          exact ⟨h1, ⟨a1, rfl, a3, hx⟩, h3, h4, h5, h6, h7⟩
      · exact ⟨0, M, M, by rw [if_pos c0, if_neg c1, if_neg c2], by rw [a1, if_pos c0, if_neg c1, if_neg c2], hI⟩
  · exact ⟨0, M, M, by rw [if_neg c0], by rw [a1, if_neg c0], hI⟩
