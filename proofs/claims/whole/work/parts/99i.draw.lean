/-! close(): the class draws its plan -/
theorem f_isInner {N h : Nat} {m : Nat → Int32} {X : zMem} (h1 : 1 ≤ h) (h2 : h < 128) (ha : X 13 h = nI (cT m h)) : f_Pl_isInner N (nI h) X = some (if 2 ≤ cT m h then 1 else 0, X) := by
  have c64 := cT_64 m h1 h2
  rw [f_Pl_isInner]
  by_cases c : 64 ≤ h
  · rw [if_pos (show (64 : Int32) ≤ nI h by rw [lN64, nI_leI (by decide) (by omega)]; exact c), if_neg (fun q => by have := in_64 q; omega)]
  · rw [if_neg (show ¬ (64 : Int32) ≤ nI h by rw [lN64, nI_leI (by decide) (by omega)]; exact c), if_pos (zin_t h2 (by decide)), nI_clamp (show h < 2 ^ 31 by omega), ha]
    by_cases c2 : 2 ≤ cT m h
    · rw [if_neg (show ¬ nI (cT m h) ≤ 1 by rw [lN1, nI_leI (by omega) (by decide)]; omega), if_pos c2]
    · rw [if_pos (show nI (cT m h) ≤ 1 by rw [lN1, nI_leI (by omega) (by decide)]; omega), if_neg c2]
theorem f_isNode {N h : Nat} {m : Nat → Int32} {X : zMem} (h1 : 1 ≤ h) (h2 : h < 128) (ha : ∀ x, 0 < x → x < 128 → X 13 x = nI (cT m x)) : f_Pl_isNode N (nI h) X = some (if nd m h = true then 1 else 0, X) := by
  have c64 := cT_64 m h1 h2
  rw [f_Pl_isNode, if_pos (zin_t h2 (by decide)), nI_clamp (show h < 2 ^ 31 by omega), ha h (by omega) h2]
  by_cases c0 : cT m h = 0
  · rw [if_pos (show nI (cT m h) ≤ 0 by rw [c0]; decide), if_neg (fun q => by have := (nd_iff.mp q).1; omega)]
  · rw [if_neg (show ¬ nI (cT m h) ≤ 0 by rw [lN0, nI_leI (by omega) (by decide)]; omega)]
    by_cases c1 : h = 1
    · rw [if_pos (show nI h = 1 by rw [c1]; rfl), if_pos (nd_iff.mpr ⟨by omega, Or.inl c1⟩)]
    · rw [if_neg (show ¬ nI h = 1 by rw [lN1, nI_eq (by omega) (by decide)]; exact c1), div2 h (by omega), f_isInner (by omega) (by omega) (ha (h / 2) (by omega) (by omega)), Option.bind_some]
      by_cases c2 : 2 ≤ cT m (h / 2)
      · rw [if_pos c2, if_neg (show ¬ (1 : Int32) = 0 by decide), if_pos (nd_iff.mpr ⟨by omega, Or.inr c2⟩)]
      · rw [if_neg c2, if_pos rfl, if_neg (fun q => (nd_iff.mp q).2.elim c1 c2)]
/-- what drawing may touch -/
def DP : Nat → Prop := fun k => k = 12 ∨ k = 16 ∨ k = 17
/-- the plan stands as far as the prefixes before R -/
def pD (m ok la : Nat → Int32) (Nb : Nat) (Y : zMem) (R : List Nat) (X : zMem) : Prop := ∃ P, oAll = P ++ R ∧ Ag DP Y X ∧ X 12 5 = nI (P.filter (fun x => nd m x && tT ok x)).length ∧ (∀ j, j < (P.filter (fun x => nd m x && tT ok x)).length → X 17 j = nI ((P.filter (fun x => nd m x && tT ok x)).getD j 0)) ∧ ∀ h, h ∈ P → X 16 h = Bv m ok la Nb h
theorem f_settle {N Nb : Nat} {m ok la : Nat → Int32} {Y : zMem} (hNb : Nb ≤ 300) (h5 : Y 5 7 = nI Nb) (hp : ∀ h, 0 < h → h < 128 → pC m ok (Y 13) (Y 14) (Y 15) h) (hla : Y 11 = la) (h : Nat) (R : List Nat) (X : zMem) (hD : pD m ok la Nb Y (h :: R) X) : ∃ X', f_Pl_settle N (nI h) X = some (0, X') ∧ pD m ok la Nb Y R X' := by
  obtain ⟨P, e, hA, h12, h17, h16⟩ := hD
  obtain ⟨h1, h2⟩ := rng_all (h := h) (by rw [e]; exact List.mem_append_right _ List.mem_cons_self)
  have hnP := sp_not e
  have e' : oAll = (P ++ [h]) ++ R := by rw [e, List.append_assoc]; rfl
  have g13 : X 13 = Y 13 := hA 13 (by unfold DP; omega)
  have g14 : X 14 = Y 14 := hA 14 (by unfold DP; omega)
  have g15 : X 15 = Y 15 := hA 15 (by unfold DP; omega)
  have g11 : X 11 = Y 11 := hA 11 (by unfold DP; omega)
  have g5 : X 5 = Y 5 := hA 5 (by unfold DP; omega)
  obtain ⟨p1, p2, p3⟩ := hp h (by omega) h2
  have ha : ∀ x, 0 < x → x < 128 → X 13 x = nI (cT m x) := fun x x1 x2 => by rw [g13]; exact (hp x x1 x2).1
  have z : zin (nI h) 128 = true := zin_t h2 (by decide)
  have ch : (nI h).toNatClampNeg = h := nI_clamp (show h < 2 ^ 31 by omega)
  have hlen : (P.filter (fun x => nd m x && tT ok x)).length ≤ 126 := by
    have a := List.length_filter_le (fun x => nd m x && tT ok x) P
    have b := ln_all
    rw [e, List.length_append, List.length_cons] at b
    omega
  have put16 : ∀ v, v = Bv m ok la Nb h → ¬ (nd m h && tT ok h) = true → pD m ok la Nb Y R (zu X 16 h v) := by
    rintro v rfl hw
    have ef : (P ++ [h]).filter (fun x => nd m x && tT ok x) = P.filter (fun x => nd m x && tT ok x) := by
      rw [List.filter_append, List.filter_cons, if_neg hw, List.filter_nil, List.append_nil]
    refine ⟨P ++ [h], e', hA.zu (by unfold DP; omega), ?_, ?_, ?_⟩
    · rw [ef, zu_ne _ _ _ (by decide)]; exact h12
    · rw [ef, zu_ne _ _ _ (by decide)]; exact h17
    · intro x hx
      rw [zu_eq]
      rcases List.mem_append.mp hx with q | q
      · rw [upd_ne _ _ (show x ≠ h from fun w => hnP (by rw [← w]; exact q))]; exact h16 x q
      · rw [List.mem_singleton.mp q, upd_eq]
  rw [f_Pl_settle, f_isNode h1 h2 ha, Option.bind_some]
  by_cases cn : nd m h = true
  · simp only [if_pos cn, if_neg (show ¬ (1 : Int32) = 0 by decide), if_pos z, ch, g15, p3]
    by_cases ct : tT ok h = true
    · rw [if_pos ct, if_neg (show ¬ (1 : Int32) = 0 by decide), zlt_eq, g5, h5, h12, nI_add]
      have eB : Bv m ok la Nb h = nI (Nb + (P.filter (fun x => nd m x && tT ok x)).length) := by
        unfold Bv
        rw [if_pos cn, if_pos ct, sp_rk e]
      rw [← eB]
      have e12 : zu X 16 h (Bv m ok la Nb h) 12 5 = nI (P.filter (fun x => nd m x && tT ok x)).length := by rw [zu_ne _ _ _ (by decide)]; exact h12
      rw [e12, if_pos (zin_t (by omega) (by decide)), zlt_eq, nI_clamp (by omega)]
      have e12' : zu (zu X 16 h (Bv m ok la Nb h)) 17 (P.filter (fun x => nd m x && tT ok x)).length (nI h) 12 5 = nI (P.filter (fun x => nd m x && tT ok x)).length := by rw [zu_ne _ _ _ (by decide)]; exact e12
      rw [e12', zlt_eq, nI_1]
      refine ⟨_, rfl, P ++ [h], e', ((hA.zu (by unfold DP; omega)).zu (by unfold DP; omega)).zu (by unfold DP; omega), ?_, ?_, ?_⟩
      · rw [zu_eq, upd_eq, List.filter_append, List.filter_cons, if_pos (by rw [cn, ct]; rfl), List.length_append]
        rfl
      · rw [List.filter_append, List.filter_cons, if_pos (by rw [cn, ct]; rfl), List.filter_nil, List.length_append, List.length_singleton]
        intro j hj
        rw [zu_ne _ _ _ (by decide), zu_eq]
        by_cases q : j = (P.filter (fun x => nd m x && tT ok x)).length
        · rw [q, upd_eq, getD_mid]
        · rw [upd_ne _ _ q, zu_ne _ _ _ (by decide), getD_left _ _ _ (by omega)]
          exact h17 j (by omega)
      · intro x hx
        rw [zu_ne _ _ _ (by decide), zu_ne _ _ _ (by decide), zu_eq]
        rcases List.mem_append.mp hx with q | q
        · rw [upd_ne _ _ (show x ≠ h from fun w => hnP (by rw [← w]; exact q))]; exact h16 x q
        · rw [List.mem_singleton.mp q, upd_eq]
    · rw [if_neg ct, if_pos rfl, f_isInner h1 h2 (ha h (by omega) h2), Option.bind_some]
      have eB : Bv m ok la Nb h = la (pl m h) := by
        unfold Bv
        rw [if_pos cn, if_neg ct]
      have hw : ¬ (nd m h && tT ok h) = true := by rw [Bool.and_eq_true]; exact fun q => ct q.2
      by_cases c2 : 2 ≤ cT m h
      · simp only [if_pos c2, if_neg (show ¬ (1 : Int32) = 0 by decide), zlt_eq]
        refine ⟨_, rfl, put16 _ ?_ hw⟩
        rw [eB, g11, hla]
        unfold pl
        rw [if_neg (by omega)]
      · simp only [if_neg c2, g14]
        rw [if_pos trivial]
        have c1 : cT m h = 1 := by have := (nd_iff.mp cn).1; omega
        obtain ⟨n, n1, n2, -⟩ := cT_one 0 m (128 - h) h (by omega) h1 (by omega) c1
        have hix := idx_lt n
        have hpl : f_St_placeOfLeaf N (nI n) X = some (nI (64 + idx n), X) := by
          rw [f_St_placeOfLeaf, (f_indexOf n1 _).1, Option.bind_some, lN64, nI_add]
        rw [p2 c1, n2, hpl, Option.bind_some]
        dsimp only
        rw [if_pos (zin_t (show 64 + idx n < 128 by omega) (by decide)), zlt_eq, nI_clamp (show 64 + idx n < 2 ^ 31 by omega)]
        refine ⟨_, rfl, put16 _ ?_ hw⟩
        rw [eB, g11, hla, pl_one c1 n2 n1]
  · simp only [if_neg cn, if_pos z, zlt_eq, ch]
    rw [if_pos trivial]
    refine ⟨_, rfl, put16 _ ?_ (by rw [Bool.and_eq_true]; exact fun q => cn q.1)⟩
    unfold Bv
    rw [if_neg cn]
theorem draw_l35 {N : Nat} (Q : List Nat → zMem → Prop) (step : ∀ h R X, Q (h :: R) X → ∃ X', f_Pl_settle N (nI h) X = some (0, X') ∧ Q R X') (k12 : Int32 → zMem → Option (Int32 × zMem)) (x3 : Int32) : ∀ d p fuel R X, p < 128 → d < 7 → d < fuel → Q (och d p ++ R) X → ∃ X', f_Pl_draw_l35 N k12 fuel x3 (nI p) (nI d) X = k12 (x3 + 1) X' ∧ Q R X' := by
  intro d
  induction d with
  | zero =>
    intro p fuel R X hp hd hf hQ
    obtain ⟨fuel, rfl⟩ : ∃ m, fuel = m + 1 := ⟨fuel - 1, by omega⟩
    exact ⟨X, by rw [f_Pl_draw_l35, if_pos (show nI 0 ≤ 0 by decide), f_Pl_draw_b67, zlt_eq], hQ⟩
  | succ d ih =>
    intro p fuel R X hp hd hf hQ
    obtain ⟨fuel, rfl⟩ : ∃ m, fuel = m + 1 := ⟨fuel - 1, by omega⟩
    rw [f_Pl_draw_l35, if_neg (show ¬ nI (d + 1) ≤ 0 by rw [lN0, nI_leI (by omega) (by decide)]; omega), rem2 p (by omega)]
    rw [och] at hQ
    by_cases c : p % 2 = 1
    · rw [if_pos c, List.cons_append] at hQ
      obtain ⟨X1, s1, s2⟩ := step _ _ _ hQ
      obtain ⟨X2, r1, r2⟩ := ih (p / 2) fuel R X1 (by omega) (by omega) (by omega) s2
      refine ⟨X2, ?_, r2⟩
      rw [if_pos (show nI (p % 2) = 1 by rw [c]; rfl), div2 p (by omega), zlt_eq, s1, Option.bind_some, zlt_eq, nI_dec, nI_prd]
      exact r1
    · rw [if_neg c] at hQ
      exact ⟨X, by rw [if_neg (show ¬ nI (p % 2) = 1 by rw [lN1, nI_eq (by omega) (by decide)]; exact c), f_Pl_draw_b67, zlt_eq], hQ⟩
theorem draw_l12 {N : Nat} (hN : 7 ≤ N) (Q : List Nat → zMem → Prop) (step : ∀ h R X, Q (h :: R) X → ∃ X', f_Pl_settle N (nI h) X = some (0, X') ∧ Q R X') : ∀ d e fuel X, e + d = 64 → d < fuel → Q (oF d e) X → ∃ X', f_Pl_draw_l12 N fuel (nI e) X = some (0, X') ∧ Q [] X' := by
  intro d
  induction d with
  | zero =>
    intro e fuel X he hf hQ
    obtain ⟨fuel, rfl⟩ : ∃ m, fuel = m + 1 := ⟨fuel - 1, by omega⟩
    have : e = 64 := by omega
    subst this
    exact ⟨X, by rw [f_Pl_draw_l12, if_pos (show (64 : Int32) ≤ nI 64 by decide)], hQ⟩
  | succ d ih =>
    intro e fuel X he hf hQ
    obtain ⟨fuel, rfl⟩ : ∃ m, fuel = m + 1 := ⟨fuel - 1, by omega⟩
    rw [oF, oE, List.cons_append] at hQ
    obtain ⟨X1, s1, s2⟩ := step _ _ _ hQ
    obtain ⟨X2, t1, t2⟩ := draw_l35 Q step (f_Pl_draw_l12 N fuel) (nI e) 6 (64 + e) N (oF d (e + 1)) X1 (by omega) (by omega) (by omega) s2
    obtain ⟨X3, u1, u2⟩ := ih (e + 1) fuel X2 (by omega) (by omega) t2
    refine ⟨X3, ?_, u2⟩
    rw [f_Pl_draw_l12, if_neg (show ¬ (64 : Int32) ≤ nI e by rw [lN64, nI_leI (by decide) (by omega)]; omega), lN64, nI_add, zlt_eq, s1, Option.bind_some]
    rw [nI_1] at t1
    exact t1.trans u1
/-- the plan, once drawn -/
theorem f_draw {N Nb : Nat} (hN : 129 ≤ N) (M : zMem) (m : Nat → Int32) (hm : ∀ n, n < 64 → m n = if M 4 n = 0 then M 3 n else M 4 n) (hNb : Nb ≤ 300) (h5 : M 5 7 = nI Nb) : ∃ X, f_Pl_draw N M = some (0, X) ∧ Ag (fun k => 12 ≤ k ∧ k ≤ 17) M X ∧ X 12 5 = nI (Wl (fun x => nd m x && tT (M 4) x)).length ∧ (∀ j, j < (Wl (fun x => nd m x && tT (M 4) x)).length → X 17 j = nI (Wn (fun x => nd m x && tT (M 4) x) j)) ∧ (∀ h, 1 ≤ h → h < 128 → X 16 h = Bv m (M 4) (M 11) Nb h) ∧ ∀ h, 0 < h → h < 128 → pC m (M 4) (X 13) (X 14) (X 15) h := by
  obtain ⟨a, b, c, g1, g2⟩ := f_countNames hN M m hm
  obtain ⟨Y, hY⟩ : ∃ Y, Y = zu (w3 M 13 a b c) 12 5 0 := ⟨_, rfl⟩
  have y13 : Y 13 = a := by rw [hY, zu_ne _ _ _ (by decide)]; exact w3_0 _ _ _ _ _
  have y14 : Y 14 = b := by rw [hY, zu_ne _ _ _ (by decide)]; exact w3_1 _ _ _ _ _
  have y15 : Y 15 = c := by rw [hY, zu_ne _ _ _ (by decide)]; exact w3_2 _ _ _ _ _
  have yo : ∀ k, k ≠ 12 → k ≠ 13 → k ≠ 14 → k ≠ 15 → Y k = M k := fun k k0 k1 k2 k3 => by rw [hY, zu_ne _ _ _ k0, w3_ne _ _ _ _ _ k1 k2 k3]
  have hp : ∀ h, 0 < h → h < 128 → pC m (M 4) (Y 13) (Y 14) (Y 15) h := by rw [y13, y14, y15]; exact g2
  obtain ⟨X, r1, P, r2, r3, r4, r5, r6⟩ := draw_l12 (N := N) (by omega) (pD m (M 4) (M 11) Nb Y) (fun h R X hq => f_settle (N := N) hNb (by rw [yo 5 (by decide) (by decide) (by decide) (by decide)]; exact h5) hp (yo 11 (by decide) (by decide) (by decide) (by decide)) h R X hq) 64 0 N Y (by omega) (by omega) ⟨[], rfl, fun _ _ => rfl, by rw [hY, zu_eq, upd_eq]; rfl, fun j hj => absurd hj (Nat.not_lt_zero _), fun h hh => absurd hh List.not_mem_nil⟩
  rw [List.append_nil] at r2
  subst r2
  refine ⟨X, ?_, ?_, r4, r5, fun h h1 h2 => r6 h (mem_all h1 h2), ?_⟩
  · rw [f_Pl_draw, g1, Option.bind_some, zlt_eq, ← hY, lN0]
    exact r1
  · intro k hk
    rw [r3 k (by unfold DP; omega), yo k (by omega) (by omega) (by omega) (by omega)]
  · rw [r3 13 (by unfold DP; omega), r3 14 (by unfold DP; omega), r3 15 (by unfold DP; omega)]
    exact hp
