/-! close(): the order of the prefixes -/
def och : Nat → Nat → List Nat
  | 0, _ => []
  | d + 1, p => if p % 2 = 1 then p / 2 :: och d (p / 2) else []
def oE (e : Nat) : List Nat := (64 + e) :: och 6 (64 + e)
def oF : Nat → Nat → List Nat
  | 0, _ => []
  | d + 1, e => oE e ++ oF d (e + 1)
def oAll : List Nat := oF 64 0
/-- of the first d levels those prefixes that end with the index e, the longest first -/
def rl (e : Nat) : Nat → List Nat
  | 0 => []
  | l + 1 => if (e + 1) % 2 ^ (6 - l) = 0 then (64 + e) / 2 ^ (6 - l) :: rl e l else rl e l
theorem rl_oE : ∀ e, e < 64 → rl e 7 = oE e := by decide +kernel
/-- nothing twice, and what is under a prefix stands before it -/
def gd : List Nat → Bool
  | [] => true
  | h :: R => (!(R.contains h) && (decide (64 ≤ h) || (!(R.contains (2 * h)) && !(R.contains (2 * h + 1))))) && gd R
theorem gd_all : gd oAll = true := by decide +kernel
theorem in_all : ∀ h, h < 128 → 1 ≤ h → oAll.contains h = true := by decide +kernel
theorem rg_all : oAll.all (fun h => decide (1 ≤ h) && decide (h < 128)) = true := by decide +kernel
theorem ln_all : oAll.length = 127 := by decide +kernel
theorem mem_all {h : Nat} (h1 : 1 ≤ h) (h2 : h < 128) : h ∈ oAll := List.contains_iff_mem.mp (in_all h h2 h1)
theorem rng_all {h : Nat} (hm : h ∈ oAll) : 1 ≤ h ∧ h < 128 := by
  have := List.all_eq_true.mp rg_all h hm
  rw [Bool.and_eq_true, decide_eq_true_iff, decide_eq_true_iff] at this
  exact this
theorem gd_app : ∀ (P R : List Nat), gd (P ++ R) = true → gd R = true
  | [], _, h => h
  | p :: P, R, h => by
    rw [List.cons_append, gd, Bool.and_eq_true] at h
    exact gd_app P R h.2
theorem gd_not : ∀ (P R : List Nat) (h : Nat), gd (P ++ R) = true → h ∈ R → h ∉ P
  | [], _, _, _, _ => List.not_mem_nil
  | p :: P, R, h, hg, hr => by
    rw [List.cons_append, gd, Bool.and_eq_true, Bool.and_eq_true, Bool.not_eq_true'] at hg
    intro hm
    rcases List.mem_cons.mp hm with e | e
    · subst e
      have : (P ++ R).contains h = true := List.contains_iff_mem.mpr (List.mem_append_right _ hr)
      rw [this] at hg
      exact absurd hg.1.1 (by decide)
    · exact gd_not P R h hg.2 hr e
theorem sp_not {P R : List Nat} {h : Nat} (e : oAll = P ++ h :: R) : h ∉ P := gd_not P (h :: R) h (by rw [← e]; exact gd_all) List.mem_cons_self
theorem sp_child {P R : List Nat} {h : Nat} (e : oAll = P ++ h :: R) (h6 : h < 64) : 2 * h ∈ P ∧ 2 * h + 1 ∈ P := by
  have hg := gd_app P (h :: R) (by rw [← e]; exact gd_all)
  have h1 := rng_all (h := h) (by rw [e]; exact List.mem_append_right _ List.mem_cons_self)
  rw [gd, Bool.and_eq_true, Bool.and_eq_true, Bool.or_eq_true, Bool.and_eq_true, Bool.not_eq_true', Bool.not_eq_true', decide_eq_true_iff] at hg
  have g := hg.1.2.resolve_left (by omega)
  have key : ∀ c, c ≠ h → 1 ≤ c → c < 128 → R.contains c = false → c ∈ P := by
    intro c c1 c2 c3 c4
    have hm := mem_all c2 c3
    rw [e] at hm
    rcases List.mem_append.mp hm with q | q
    · exact q
    · rcases List.mem_cons.mp q with q | q
      · exact absurd q c1
      · rw [List.contains_iff_mem.mpr q] at c4; exact absurd c4 (by decide)
  rw [Bool.not_eq_true'] at g
  exact ⟨key _ (by omega) (by omega) (by omega) g.1, key _ (by omega) (by omega) (by omega) g.2⟩
/-- those before h that are written -/
def rkL (wr : Nat → Bool) : List Nat → Nat → Nat
  | [], _ => 0
  | x :: L, h => if x = h then 0 else (if wr x = true then 1 else 0) + rkL wr L h
theorem rk_at (wr : Nat → Bool) : ∀ (P R : List Nat) (h : Nat), h ∉ P → rkL wr (P ++ h :: R) h = (P.filter wr).length
  | [], R, h, _ => by rw [List.nil_append, rkL, if_pos rfl]; rfl
  | p :: P, R, h, hn => by
    rw [List.mem_cons, not_or] at hn
    rw [List.cons_append, rkL, if_neg (fun q => hn.1 q.symm), rk_at wr P R h hn.2, List.filter_cons]
    by_cases c : wr p = true
    · rw [if_pos c, if_pos c, List.length_cons]; omega
    · rw [if_neg c, if_neg c]; omega
def rk (wr : Nat → Bool) (h : Nat) : Nat := rkL wr oAll h
def Wl (wr : Nat → Bool) : List Nat := oAll.filter wr
def Wn (wr : Nat → Bool) (j : Nat) : Nat := (Wl wr).getD j 0
theorem Wl_len (wr : Nat → Bool) : (Wl wr).length ≤ 127 := by
  have := List.length_filter_le wr oAll
  rw [ln_all] at this
  exact this
theorem getD_mid : ∀ (A B : List Nat) (x : Nat), (A ++ x :: B).getD A.length 0 = x
  | [], _, _ => rfl
  | _ :: A, B, x => getD_mid A B x
theorem getD_left : ∀ (A B : List Nat) (j : Nat), j < A.length → (A ++ B).getD j 0 = A.getD j 0
  | [], _, _, h => absurd h (Nat.not_lt_zero _)
  | _ :: _, _, 0, _ => rfl
  | _ :: A, B, j + 1, h => getD_left A B j (Nat.lt_of_succ_lt_succ h)
theorem sp_rk {wr : Nat → Bool} {P R : List Nat} {h : Nat} (e : oAll = P ++ h :: R) : rk wr h = (P.filter wr).length := by
  unfold rk
  rw [e]
  exact rk_at wr P R h (sp_not e)
theorem sp_W {wr : Nat → Bool} {P R : List Nat} {h : Nat} (e : oAll = P ++ h :: R) (hw : wr h = true) : Wl wr = P.filter wr ++ h :: R.filter wr := by
  unfold Wl
  rw [e, List.filter_append, List.filter_cons, if_pos hw]
theorem sp_Wn {wr : Nat → Bool} {P R : List Nat} {h : Nat} (e : oAll = P ++ h :: R) (hw : wr h = true) : Wn wr (P.filter wr).length = h := by
  unfold Wn
  rw [sp_W e hw]
  exact getD_mid _ _ _
theorem split_at (wr : Nat → Bool) : ∀ (L : List Nat) (j : Nat), j < (L.filter wr).length → ∃ P h R, L = P ++ h :: R ∧ wr h = true ∧ (P.filter wr).length = j
  | [], j, h => absurd h (Nat.not_lt_zero _)
  | x :: L, j, h => by
    rw [List.filter_cons] at h
    by_cases c : wr x = true
    · rw [if_pos c, List.length_cons] at h
      rcases j with _ | j
      · exact ⟨[], x, L, rfl, c, rfl⟩
      · obtain ⟨P, y, R, a, b, d⟩ := split_at wr L j (by omega)
        exact ⟨x :: P, y, R, by rw [a]; rfl, b, by rw [List.filter_cons, if_pos c, List.length_cons, d]⟩
    · rw [if_neg c] at h
      obtain ⟨P, y, R, a, b, d⟩ := split_at wr L j h
      exact ⟨x :: P, y, R, by rw [a]; rfl, b, by rw [List.filter_cons, if_neg c, d]⟩
theorem W_sp (wr : Nat → Bool) {j : Nat} (hj : j < (Wl wr).length) : ∃ P R, oAll = P ++ Wn wr j :: R ∧ (P.filter wr).length = j ∧ wr (Wn wr j) = true ∧ 1 ≤ Wn wr j ∧ Wn wr j < 128 ∧ rk wr (Wn wr j) = j := by
  obtain ⟨P, h, R, a, b, c⟩ := split_at wr oAll j hj
  have e : Wn wr j = h := by rw [← c]; exact sp_Wn a b
  rw [e]
  have := rng_all (h := h) (by rw [a]; exact List.mem_append_right _ List.mem_cons_self)
  exact ⟨P, R, a, c, b, this.1, this.2, by rw [sp_rk a, c]⟩
theorem rk_W {wr : Nat → Bool} {h : Nat} (h1 : 1 ≤ h) (h2 : h < 128) (hw : wr h = true) : Wn wr (rk wr h) = h ∧ rk wr h < (Wl wr).length := by
  obtain ⟨P, R, e⟩ := List.append_of_mem (mem_all h1 h2)
  rw [sp_rk e]
  refine ⟨sp_Wn e hw, ?_⟩
  rw [sp_W e hw, List.length_append, List.length_cons]
  omega
theorem rk_in {wr : Nat → Bool} {P R : List Nat} {c : Nat} (e : oAll = P ++ R) (hc : c ∈ P) (hw : wr c = true) : rk wr c < (P.filter wr).length := by
  obtain ⟨A, B, q⟩ := List.append_of_mem hc
  rw [q, List.append_assoc, List.cons_append] at e
  rw [sp_rk e, q, List.filter_append, List.filter_cons, if_pos hw, List.length_append, List.length_cons]
  omega
theorem rk_child {wr : Nat → Bool} {h : Nat} (h1 : 1 ≤ h) (h2 : h < 64) : (wr (2 * h) = true → rk wr (2 * h) < rk wr h) ∧ (wr (2 * h + 1) = true → rk wr (2 * h + 1) < rk wr h) := by
  obtain ⟨P, R, e⟩ := List.append_of_mem (mem_all h1 (show h < 128 by omega))
  obtain ⟨a, b⟩ := sp_child e h2
  rw [sp_rk e]
  exact ⟨rk_in e a, rk_in e b⟩
/-- the blocks of the new tree -/
def Bv (m ok la : Nat → Int32) (Nb : Nat) (h : Nat) : Int32 := if nd m h = true then (if tT ok h = true then nI (Nb + rk (fun x => nd m x && tT ok x) h) else la (pl m h)) else -1
/-- the latest blocks after j writings -/
def LL (m la : Nat → Int32) (Nb : Nat) (W : Nat → Nat) : Nat → Nat → Int32
  | 0 => la
  | j + 1 => upd (LL m la Nb W j) (pl m (W j)) (nI (Nb + j))
theorem LL_eq {m ok la : Nat → Int32} {Nb : Nat} : ∀ j h, j ≤ (Wl (fun x => nd m x && tT ok x)).length → 1 ≤ h → h < 128 → nd m h = true → (tT ok h = true → rk (fun x => nd m x && tT ok x) h < j) → LL m la Nb (Wn (fun x => nd m x && tT ok x)) j (pl m h) = Bv m ok la Nb h := by
  intro j
  induction j with
  | zero =>
    intro h _ h1 h2 hn ht
    unfold Bv
    rw [if_pos hn, if_neg (fun q => absurd (ht q) (Nat.not_lt_zero _))]
    rfl
  | succ j ih =>
    intro h hj h1 h2 hn ht
    obtain ⟨P, R, a, b, c, d, e, f⟩ := W_sp (fun x => nd m x && tT ok x) (j := j) (by omega)
    rw [LL]
    by_cases q : h = Wn (fun x => nd m x && tT ok x) j
    · rw [← q] at f c ⊢
      rw [Bool.and_eq_true] at c
      rw [upd_eq]
      unfold Bv
      rw [if_pos hn, if_pos c.2, f]
    · rw [Bool.and_eq_true] at c
      rw [upd_ne _ _ (fun z => q (pl_inj h1 h2 d e hn c.1 z))]
      refine ih h (by omega) h1 h2 hn (fun t => ?_)
      have r := ht t
      have w := (rk_W (wr := fun x => nd m x && tT ok x) h1 h2 (by rw [hn, t]; rfl)).1
      have : rk (fun x => nd m x && tT ok x) h ≠ j := fun z => q (by rw [← z, w])
      omega
