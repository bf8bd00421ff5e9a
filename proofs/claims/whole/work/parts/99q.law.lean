/-! the law's loop, and the start -/
theorem cT_z {m : Nat → Int32} (hz : ∀ n, n < 64 → m n = 0) : ∀ k x, x + k = 128 → 1 ≤ x → 1 ≤ k → cT m x = 0 := by
  intro k
  induction k using Nat.strongRecOn with
  | _ k ih =>
    intro x hx x1 k1
    by_cases c : x < 64
    · rw [cT_in m (by omega) c, ih (128 - 2 * x) (by omega) (2 * x) (by omega) (by omega) (by omega), ih (128 - (2 * x + 1)) (by omega) (2 * x + 1) (by omega) (by omega) (by omega)]
    · rw [cT_lf m (by omega), if_pos (hz _ (idx_ixn (x - 64) (by omega)).2)]
theorem clamp_eq (w : Int32) : zShift w = 32 - zclampM w := by
  unfold zShift zclampM
  congr 1
  have e4 : (4 : Int32).toInt = 4 := by decide
  have e31 : (31 : Int32).toInt = 31 := by decide
  by_cases a : w < 31
  · rw [if_pos a]
    have a' := a
    rw [Int32.lt_iff_toInt_lt, e31] at a'
    have b : w ≤ 31 := by rw [Int32.le_iff_toInt_le, e31]; omega
    rw [if_pos b]
    by_cases c : 4 < w
    · have c' := c
      rw [Int32.lt_iff_toInt_lt, e4] at c'
      rw [if_pos c, if_pos (show 4 ≤ w by rw [Int32.le_iff_toInt_le, e4]; omega)]
    · have c' := c
      rw [Int32.lt_iff_toInt_lt, e4] at c'
      rw [if_neg c]
      by_cases d : 4 ≤ w
      · rw [if_pos d]
        rw [Int32.le_iff_toInt_le, e4] at d
        exact Int32.toInt_inj.mp (by rw [e4]; omega)
      · rw [if_neg d]
  · rw [if_neg a, if_pos (show (4 : Int32) < 31 by decide)]
    have a' := a
    rw [Int32.lt_iff_toInt_lt, e31] at a'
    rw [if_pos (show 4 ≤ w by rw [Int32.le_iff_toInt_le, e4]; omega)]
    by_cases b : w ≤ 31
    · rw [if_pos b]
      rw [Int32.le_iff_toInt_le, e31] at b
      exact Int32.toInt_inj.mp (by rw [e31]; omega)
    · rw [if_neg b]
theorem Inv_start (w : Int32) : Inv (zM0 (zShift w) (zclampM w)) := by
  have b0 : ∀ (a b : Nat → Int32) (o : Nat), iBuf 0 a 0 b o := fun a b o => ⟨rfl, 0, by omega, rfl, fun i hi => absurd hi (Nat.not_lt_zero _)⟩
  refine ⟨clamp_eq w, ⟨rfl, rfl, Or.inl rfl, 0, by omega, rfl⟩, ⟨rfl, rfl⟩, Or.inl ⟨rfl, rfl⟩, fun _ _ => rfl, ⟨b0 _ _ _, b0 _ _ _, b0 _ _ _, b0 _ _ _⟩, 0, 0, 0, by omega, rfl, rfl, rfl, rfl, rfl, ⟨fun n hn => ⟨fun _ => ⟨rfl, rfl⟩, fun q => absurd rfl q⟩, fun n hn => rfl, ?_, ?_⟩, ⟨by omega, by omega, fun _ => rfl, Or.inl rfl, fun i _ q => absurd q (Nat.not_lt_zero _), fun i q => absurd q (Nat.not_lt_zero _)⟩, fun e he => absurd he (Nat.not_lt_zero _), fun e he => absurd he (Nat.not_lt_zero _), fun h h1 h2 _ => ?_, fun _ _ _ => rfl, fun _ _ => rfl⟩
  · rw [nz_zero (f := zM0 (zShift w) (zclampM w) 3) 64 (fun i _ => rfl)]; rfl
  · rw [nz_zero (f := zM0 (zShift w) (zclampM w) 4) 64 (fun i _ => rfl)]; rfl
  · have z := cT_z (m := zM0 (zShift w) (zclampM w) 3) (fun n _ => rfl) (128 - h) h (by omega) h1 (by omega)
    refine ⟨fun _ => ?_, fun q => by omega, fun q => by omega⟩
    rw [blT_eq, if_pos z]
theorem law_step {f g : zMem → Option (Int32 × zMem)} (h : Ok2 f g) {M : zMem} (hM : Inv M) (K : zMem → Option (Int32 × zMem)) (hK : ∀ X, Inv X → ∃ Z, K X = some (1, Z)) : ∃ Z, ((f M).bind fun q => (g q.2).bind fun q' => if q.1 = q'.1 then K q'.2 else some (0, q'.2)) = some (1, Z) := by
  obtain ⟨r, M1, M2, h1, h2, h3⟩ := h M hM
  obtain ⟨Z, hZ⟩ := hK M2 h3
  refine ⟨Z, ?_⟩
  rw [h1, Option.bind_some, h2, Option.bind_some, if_pos rfl]
  exact hZ
set_option maxRecDepth 100000 in
theorem law_loop {N Ls : Nat} {xs : Nat → Int32} (hN : 301 ≤ N) (hL : Ls ≤ 3073) : ∀ fuel x M, Inv M → 1 ≤ fuel → 1 ≤ x → x ≤ 3073 → 3073 < x + 6 * fuel → ∃ Z, f_La_law_l28 Ls xs N fuel (nI x) M = some (1, Z) := by
  have hN1 : 65 ≤ N := by omega
  have hN2 : 129 ≤ N := by omega
  have hN3 : 301 ≤ N := hN
  have hN4 : 41 ≤ N := by omega
  have hN5 : 8 ≤ N := by omega
  have hN6 : 7 ≤ N := by omega
  intro fuel
  induction fuel with
  | zero => intro x M _ q; omega
  | succ fuel ih =>
    intro x M hM _ x1 x2 hx
    rw [f_La_law_l28]
    by_cases c : (Int32.ofNat Ls - 6) < nI x
    · exact ⟨M, by rw [if_pos c]⟩
    · rw [if_neg c]
      have hle : x + 6 ≤ Ls := by
        by_cases q : 6 ≤ Ls
        · have e : Int32.ofNat Ls - 6 = nI (Ls - 6) := by rw [lN6]; exact nI_subN q
          rw [e, nI_ltI (by omega) (by omega)] at c
          omega
        · exfalso
          apply c
          rw [Int32.lt_iff_toInt_lt]
          have e6 : Int32.ofNat Ls - 6 < 0 := by
            have : Ls = 0 ∨ Ls = 1 ∨ Ls = 2 ∨ Ls = 3 ∨ Ls = 4 ∨ Ls = 5 := by omega
            rcases this with h | h | h | h | h | h <;> subst h <;> decide
          rw [Int32.lt_iff_toInt_lt, tI0] at e6
          rw [nI_toInt (by omega)]
          omega
      have hK : ∀ X, Inv X → ∃ Z, (fun X => zlt (nI x + (6 : Int32)) fun v836 => (f_La_law_l28 Ls xs N fuel) v836 X) X = some (1, Z) := by
        intro X hX
        obtain ⟨Z, hZ⟩ := ih (x + 6) X hX (by omega) (by omega) (by omega) (by omega)
        refine ⟨Z, ?_⟩
        show f_La_law_l28 Ls xs N fuel (nI x + 6) X = some (1, Z)
        rw [lN6, nI_add]
        exact hZ
      rw [if_pos (show zin (nI x) Ls = true from zin_t (by omega) (by omega))]
      have z1 : zin (nI x + (1 : Int32)) Ls = true := by
        rw [lN1, nI_add]; exact zin_t (by omega) (by omega)
      have z2 : zin (nI x + (2 : Int32)) Ls = true := by
        rw [lN2, nI_add]; exact zin_t (by omega) (by omega)
      have z3 : zin (nI x + (3 : Int32)) Ls = true := by
        rw [lN3, nI_add]; exact zin_t (by omega) (by omega)
      have z4 : zin (nI x + (4 : Int32)) Ls = true := by
        rw [lN4, nI_add]; exact zin_t (by omega) (by omega)
      have z5 : zin (nI x + (5 : Int32)) Ls = true := by
        rw [lN5, nI_add]; exact zin_t (by omega) (by omega)
      by_cases c0 : ((xs (nI x).toNatClampNeg) &&& (31 : Int32)) = 0
      · rw [if_pos c0]
        simp only [if_pos z1, if_pos z2, if_pos z3]
        exact law_step (ok_hash N _ _ _) hM (fun X => zlt (nI x + (6 : Int32)) fun v836 => (f_La_law_l28 Ls xs N fuel) v836 X) hK
      rw [if_neg c0]
      by_cases c1 : ((xs (nI x).toNatClampNeg) &&& (31 : Int32)) = 1
      · rw [if_pos c1]
        simp only [if_pos z1, if_pos z2]
        exact law_step (ok_put hN1 _ _) hM (fun X => zlt (nI x + (6 : Int32)) fun v836 => (f_La_law_l28 Ls xs N fuel) v836 X) hK
      rw [if_neg c1]
      by_cases c2 : ((xs (nI x).toNatClampNeg) &&& (31 : Int32)) = 2
      · rw [if_pos c2]
        exact law_step (ok_close hN2) hM (fun X => zlt (nI x + (6 : Int32)) fun v836 => (f_La_law_l28 Ls xs N fuel) v836 X) hK
      rw [if_neg c2]
      by_cases c3 : ((xs (nI x).toNatClampNeg) &&& (31 : Int32)) = 3
      · rw [if_pos c3]
        simp only [if_pos z1]
        exact law_step (ok_fuse N _) hM (fun X => zlt (nI x + (6 : Int32)) fun v836 => (f_La_law_l28 Ls xs N fuel) v836 X) hK
      rw [if_neg c3]
      by_cases c4 : ((xs (nI x).toNatClampNeg) &&& (31 : Int32)) = 4
      · rw [if_pos c4]
        exact law_step (ok_restart hN3) hM (fun X => zlt (nI x + (6 : Int32)) fun v836 => (f_La_law_l28 Ls xs N fuel) v836 X) hK
      rw [if_neg c4]
      by_cases c5 : ((xs (nI x).toNatClampNeg) &&& (31 : Int32)) = 5
      · rw [if_pos c5]
        simp only [if_pos z1]
        exact law_step (ok_root N _) hM (fun X => zlt (nI x + (6 : Int32)) fun v836 => (f_La_law_l28 Ls xs N fuel) v836 X) hK
      rw [if_neg c5]
      by_cases c6 : ((xs (nI x).toNatClampNeg) &&& (31 : Int32)) = 6
      · rw [if_pos c6]
        simp only [if_pos z1]
        exact law_step (ok_head hN4 _) hM (fun X => zlt (nI x + (6 : Int32)) fun v836 => (f_La_law_l28 Ls xs N fuel) v836 X) hK
      rw [if_neg c6]
      by_cases c7 : ((xs (nI x).toNatClampNeg) &&& (31 : Int32)) = 7
      · rw [if_pos c7]
        simp only [if_pos z1, if_pos z2]
        exact law_step (ok_block N _ _) hM (fun X => zlt (nI x + (6 : Int32)) fun v836 => (f_La_law_l28 Ls xs N fuel) v836 X) hK
      rw [if_neg c7]
      by_cases c8 : ((xs (nI x).toNatClampNeg) &&& (31 : Int32)) = 8
      · rw [if_pos c8]
        simp only [if_pos z1]
        exact law_step (ok_size hN1 _) hM (fun X => zlt (nI x + (6 : Int32)) fun v836 => (f_La_law_l28 Ls xs N fuel) v836 X) hK
      rw [if_neg c8]
      by_cases c9 : ((xs (nI x).toNatClampNeg) &&& (31 : Int32)) = 9
      · rw [if_pos c9]
        simp only [if_pos z1, if_pos z2, if_pos z3, if_pos z4]
        exact law_step (ok_prove hN2 _ _ _ _) hM (fun X => zlt (nI x + (6 : Int32)) fun v836 => (f_La_law_l28 Ls xs N fuel) v836 X) hK
      rw [if_neg c9]
      by_cases c10 : ((xs (nI x).toNatClampNeg) &&& (31 : Int32)) = 10
      · rw [if_pos c10]
        simp only [if_pos z1, if_pos z2]
        exact law_step (ok_word N _ _) hM (fun X => zlt (nI x + (6 : Int32)) fun v836 => (f_La_law_l28 Ls xs N fuel) v836 X) hK
      rw [if_neg c10]
      by_cases c11 : ((xs (nI x).toNatClampNeg) &&& (31 : Int32)) = 11
      · rw [if_pos c11]
        simp only [if_pos z1, if_pos z2, if_pos z3]
        exact law_step (ok_poke N _ _ _) hM (fun X => zlt (nI x + (6 : Int32)) fun v836 => (f_La_law_l28 Ls xs N fuel) v836 X) hK
      rw [if_neg c11]
      by_cases c12 : ((xs (nI x).toNatClampNeg) &&& (31 : Int32)) = 12
      · rw [if_pos c12]
        simp only [if_pos z1, if_pos z2]
        exact law_step (ok_trim N _ _) hM (fun X => zlt (nI x + (6 : Int32)) fun v836 => (f_La_law_l28 Ls xs N fuel) v836 X) hK
      rw [if_neg c12]
      by_cases c13 : ((xs (nI x).toNatClampNeg) &&& (31 : Int32)) = 13
      · rw [if_pos c13]
        simp only [if_pos z1, if_pos z2, if_pos z3]
        exact law_step (ok_check hN5 _ _ _) hM (fun X => zlt (nI x + (6 : Int32)) fun v836 => (f_La_law_l28 Ls xs N fuel) v836 X) hK
      rw [if_neg c13]
      by_cases c14 : ((xs (nI x).toNatClampNeg) &&& (31 : Int32)) = 14
      · rw [if_pos c14]
        simp only [if_pos z1, if_pos z2, if_pos z3, if_pos z4, if_pos z5]
        exact law_step (ok_included hN6 _ _ _ _ _) hM (fun X => zlt (nI x + (6 : Int32)) fun v836 => (f_La_law_l28 Ls xs N fuel) v836 X) hK
      rw [if_neg c14]
      by_cases c15 : ((xs (nI x).toNatClampNeg) &&& (31 : Int32)) = 15
      · rw [if_pos c15]
        simp only [if_pos z1, if_pos z2, if_pos z3, if_pos z4, if_pos z5]
        exact law_step (ok_consistent hN6 _ _ _ _ _) hM (fun X => zlt (nI x + (6 : Int32)) fun v836 => (f_La_law_l28 Ls xs N fuel) v836 X) hK
      rw [if_neg c15]
      by_cases c16 : ((xs (nI x).toNatClampNeg) &&& (31 : Int32)) = 16
      · rw [if_pos c16]
        simp only [if_pos z1, if_pos z2, if_pos z3]
        exact law_step (ok_follow hN6 _ _ _) hM (fun X => zlt (nI x + (6 : Int32)) fun v836 => (f_La_law_l28 Ls xs N fuel) v836 X) hK
      rw [if_neg c16]
      by_cases c17 : ((xs (nI x).toNatClampNeg) &&& (31 : Int32)) = 17
      · rw [if_pos c17]
        simp only [if_pos z1]
        exact law_step (ok_seen N _) hM (fun X => zlt (nI x + (6 : Int32)) fun v836 => (f_La_law_l28 Ls xs N fuel) v836 X) hK
      rw [if_neg c17]
      by_cases c18 : ((xs (nI x).toNatClampNeg) &&& (31 : Int32)) = 18
      · rw [if_pos c18]
        simp only [if_pos z1, if_pos z2, if_pos z3, if_pos z4]
        exact law_step (ok_extract hN5 _ _ _ _) hM (fun X => zlt (nI x + (6 : Int32)) fun v836 => (f_La_law_l28 Ls xs N fuel) v836 X) hK
      rw [if_neg c18]
      by_cases c19 : ((xs (nI x).toNatClampNeg) &&& (31 : Int32)) = 19
      · rw [if_pos c19]
        simp only [if_pos z1]
        exact law_step (ok_clash N _) hM (fun X => zlt (nI x + (6 : Int32)) fun v836 => (f_La_law_l28 Ls xs N fuel) v836 X) hK
      rw [if_neg c19]
      exact hK M hM
theorem zLawOk_proof : zLawOk := by
  intro Ls xs hL
  obtain ⟨Z, hZ⟩ := law_loop (N := 5000) (xs := xs) (by omega) hL 5000 1 _ (Inv_start (zc0 Ls xs)) (by omega) (by omega) (by omega) (by omega)
  exact ⟨5000, (1, Z), hZ, rfl⟩
