theorem t_Hi_add {D : va_G} {tt : ClassId × ClassId × ClassId} {a : Nat → Nat} {d N : Nat} (hd : 2 ≤ d) {x1 : Int32} {x2 : Int32} {M : zMem} {z : Int32 × zMem} (h : f_Hi_add N x1 x2 M = some z) : zK (zEn D tt) zshp a mz_Hi_add d [.ref (a 18), .int x1, .int x2] M (zRv z) := by
  refine zK.enter (L := [some (.ref (a 18)), some (.int x1), some (.int x2)]) (by decide) rfl (Nat.le_of_ble_eq_true rfl) rfl ?_
  unfold f_Hi_add at h
  refine zJ_aload_n (n := 1) (j := 0) (x := a 18) d_Hi_add_0 rfl rfl rfl ?_
  refine zS_geti (n := 4) (k0 := 18) (j := 6) d_Hi_add_1 rfl (fl_Hi_31 D tt) rfl rfl ?_
  refine zJ_bipush (n := 6) (v := 40) d_Hi_add_4 rfl zcb_40 ?_
  refine zJ_icmp_lt (t := 10) (n := 9) d_Hi_add_6 (by decide) rfl (fun hc => ?_) (fun hc => ?_)
  · rw [if_pos hc] at h
    refine zJ_aload_n (n := 11) (j := 0) (x := a 18) d_Hi_add_10 rfl rfl rfl ?_
    refine zS_getr (n := 14) (k0 := 18) (j := 1) (q := 19) d_Hi_add_11 rfl (fl_Hi_9 D tt) rfl rfl ?_
    refine zJ_aload_n (n := 15) (j := 0) (x := a 18) d_Hi_add_14 rfl rfl rfl ?_
    refine zS_geti (n := 18) (k0 := 18) (j := 6) d_Hi_add_15 rfl (fl_Hi_31 D tt) rfl rfl ?_
    refine zJ_iload_n (n := 19) (j := 1) (x := x1) d_Hi_add_18 rfl rfl rfl ?_
    obtain ⟨g19, h⟩ := zgd h
    obtain ⟨M19, hM19, h⟩ := zli h
    refine zS_iastN (n := 20) (k0 := 19) d_Hi_add_19 rfl rfl rfl rfl g19 hM19 ?_
    refine zJ_aload_n (n := 21) (j := 0) (x := a 18) d_Hi_add_20 rfl rfl rfl ?_
    refine zS_getr (n := 24) (k0 := 18) (j := 2) (q := 20) d_Hi_add_21 rfl (fl_Hi_15 D tt) rfl rfl ?_
    refine zJ_aload_n (n := 25) (j := 0) (x := a 18) d_Hi_add_24 rfl rfl rfl ?_
    refine zS_geti (n := 28) (k0 := 18) (j := 6) d_Hi_add_25 rfl (fl_Hi_31 D tt) rfl rfl ?_
    refine zJ_iload_n (n := 29) (j := 2) (x := x2) d_Hi_add_28 rfl rfl rfl ?_
    obtain ⟨g29, h⟩ := zgd h
    obtain ⟨M29, hM29, h⟩ := zli h
    refine zS_iastN (n := 30) (k0 := 20) d_Hi_add_29 rfl rfl rfl rfl g29 hM29 ?_
    refine zJ_aload_n (n := 31) (j := 0) (x := a 18) d_Hi_add_30 rfl rfl rfl ?_
    refine zS_getr (n := 34) (k0 := 18) (j := 3) (q := 21) d_Hi_add_31 rfl (fl_Hi_18 D tt) rfl rfl ?_
    refine zJ_aload_n (n := 35) (j := 0) (x := a 18) d_Hi_add_34 rfl rfl rfl ?_
    refine zS_geti (n := 38) (k0 := 18) (j := 6) d_Hi_add_35 rfl (fl_Hi_31 D tt) rfl rfl ?_
    refine zJ_aload_n (n := 39) (j := 0) (x := a 18) d_Hi_add_38 rfl rfl rfl ?_
    refine zS_getr (n := 42) (k0 := 18) (j := 0) (q := 1) d_Hi_add_39 rfl (fl_Hi_27 D tt) rfl rfl ?_
    refine zJ_iconst (n := 43) (v := 3) d_Hi_add_42 rfl zci_3 ?_
    refine zJ_iload_n (n := 44) (j := 2) (x := x2) d_Hi_add_43 rfl rfl rfl ?_
    refine zJ_aload_n (n := 45) (j := 0) (x := a 18) d_Hi_add_44 rfl rfl rfl ?_
    refine zS_geti (n := 48) (k0 := 18) (j := 6) d_Hi_add_45 rfl (fl_Hi_31 D tt) rfl rfl ?_
    obtain ⟨q48, hq48, h⟩ := zbd h
    refine zS_callVi (n := 51) (k0 := 1) (avs := [.int (3 : Int32), .int x2, .int (M29 18 6)]) (rest := [.int (M29 18 6), .ref (a 21)]) (z := q48) (d' := d - 1) d_Hi_add_48 rfl (vk_Hi_35 D tt) rfl rfl rfl (Nat.le_of_ble_eq_true rfl) (by omega) (t_Dg_digest (by omega) hq48) ?_
    obtain ⟨g51, h⟩ := zgd h
    obtain ⟨M51, hM51, h⟩ := zli h
    refine zS_iastN (n := 52) (k0 := 21) d_Hi_add_51 rfl rfl rfl rfl g51 hM51 ?_
    refine zJ_aload_n (n := 53) (j := 0) (x := a 18) d_Hi_add_52 rfl rfl rfl ?_
    refine zS_getr (n := 56) (k0 := 18) (j := 4) (q := 22) d_Hi_add_53 rfl (fl_Hi_21 D tt) rfl rfl ?_
    refine zJ_aload_n (n := 57) (j := 0) (x := a 18) d_Hi_add_56 rfl rfl rfl ?_
    refine zS_geti (n := 60) (k0 := 18) (j := 6) d_Hi_add_57 rfl (fl_Hi_31 D tt) rfl rfl ?_
    refine zJ_aload_n (n := 61) (j := 0) (x := a 18) d_Hi_add_60 rfl rfl rfl ?_
    refine zJ_iconst (n := 62) (v := 0) d_Hi_add_61 rfl zci_0 ?_
    refine zJ_aload_n (n := 63) (j := 0) (x := a 18) d_Hi_add_62 rfl rfl rfl ?_
    refine zS_geti (n := 66) (k0 := 18) (j := 6) d_Hi_add_63 rfl (fl_Hi_31 D tt) rfl rfl ?_
    refine zJ_iconst (n := 67) (v := 1) d_Hi_add_66 rfl zci_1 ?_
    refine zJ_iadd (n := 68) d_Hi_add_67 rfl ?_
    obtain ⟨q68, hq68, h⟩ := zbd h
    refine zS_callVi (n := 71) (k0 := 18) (avs := [.int (0 : Int32), .int ((M51 18 6) + (1 : Int32))]) (rest := [.int (M51 18 6), .ref (a 22)]) (z := q68) (d' := d - 1) d_Hi_add_68 rfl (vk_Hi_41 D tt) rfl rfl rfl (Nat.le_of_ble_eq_true rfl) (by omega) (t_Hi_rowDigest (by omega) hq68) ?_
    obtain ⟨g71, h⟩ := zgd h
    obtain ⟨M71, hM71, h⟩ := zli h
    refine zS_iastN (n := 72) (k0 := 22) d_Hi_add_71 rfl rfl rfl rfl g71 hM71 ?_
    refine zJ_aload_n (n := 73) (j := 0) (x := a 18) d_Hi_add_72 rfl rfl rfl ?_
    refine zJ_dup (n := 74) d_Hi_add_73 rfl rfl ?_
    refine zS_geti (n := 77) (k0 := 18) (j := 6) d_Hi_add_74 rfl (fl_Hi_31 D tt) rfl rfl ?_
    refine zJ_iconst (n := 78) (v := 1) d_Hi_add_77 rfl zci_1 ?_
    refine zJ_iadd (n := 79) d_Hi_add_78 rfl ?_
    obtain ⟨M79, hM79, h⟩ := zli h
    refine zS_putN (n := 82) (k0 := 18) (j := 6) d_Hi_add_79 rfl (fl_Hi_31 D tt) zty_Hi rfl rfl rfl rfl rfl hM79 ?_
    cases h
    exact zS_return d_Hi_add_82 rfl ⟨rfl, rfl⟩
  · rw [if_neg hc] at h
    cases h
    exact zS_return d_Hi_add_9 rfl ⟨rfl, rfl⟩
theorem t_NM_keepOpen_b35 {D : va_G} {tt : ClassId × ClassId × ClassId} {a : Nat → Nat} {d N : Nat} (hd : 1 ≤ d) {z : Int32 × zMem} {k2 : Int32 → zMem → Option (Int32 × zMem)} (hk2 : ∀ (x1 : Int32) (M : zMem), k2 x1 M = some z → zS (zEn D tt) zshp a mz_NM_keepOpen d zTr (zFs (zEn D tt) zshp a (zRv z)) 2 [some (.ref (a 2)), some (.int x1)] [] M) {x1 : Int32} {M : zMem} (h : f_NM_keepOpen_b35 N k2 x1 M = some z) : zS (zEn D tt) zshp a mz_NM_keepOpen d zTr (zFs (zEn D tt) zshp a (zRv z)) 35 [some (.ref (a 2)), some (.int x1)] [] M := by
  unfold f_NM_keepOpen_b35 at h
  refine zJ_aload_n (n := 36) (j := 0) (x := a 2) d_NM_keepOpen_35 rfl rfl rfl ?_
  refine zS_getr (n := 39) (k0 := 2) (j := 0) (q := 3) d_NM_keepOpen_36 rfl (fl_NM_9 D tt) rfl rfl ?_
  refine zJ_iload_n (n := 40) (j := 1) (x := x1) d_NM_keepOpen_39 rfl rfl rfl ?_
  refine zJ_aload_n (n := 41) (j := 0) (x := a 2) d_NM_keepOpen_40 rfl rfl rfl ?_
  refine zJ_iload_n (n := 42) (j := 1) (x := x1) d_NM_keepOpen_41 rfl rfl rfl ?_
  obtain ⟨q42, hq42, h⟩ := zbd h
  refine zS_callVi (n := 45) (k0 := 2) (avs := [.int x1]) (rest := [.int x1, .ref (a 3)]) (z := q42) (d' := d - 1) d_NM_keepOpen_42 rfl (vk_NM_29 D tt) rfl rfl rfl (Nat.le_of_ble_eq_true rfl) (by omega) (t_NM_keyOf (by omega) hq42) ?_
  obtain ⟨g45, h⟩ := zgd h
  obtain ⟨M45, hM45, h⟩ := zli h
  refine zS_iastN (n := 46) (k0 := 3) d_NM_keepOpen_45 rfl rfl rfl rfl g45 hM45 ?_
  obtain ⟨v46, hv46, h⟩ := zli h
  refine zS_iinc (n := 49) (j := 1) (x := x1) (v := 1) (x' := v46) d_NM_keepOpen_46 rfl rfl zci_1 (Nat.le_of_ble_eq_true rfl) hv46 ?_
  refine zJ_goto (t := 2) d_NM_keepOpen_49 (by decide) ?_
  exact hk2 _ _ h
theorem t_NM_keepOpen_l2 {D : va_G} {tt : ClassId × ClassId × ClassId} {a : Nat → Nat} {d N : Nat} (hd : 1 ≤ d) {z : Int32 × zMem} : ∀ (n : Nat), ∀ (x1 : Int32) (M : zMem), f_NM_keepOpen_l2 N n x1 M = some z → zS (zEn D tt) zshp a mz_NM_keepOpen d zTr (zFs (zEn D tt) zshp a (zRv z)) 2 [some (.ref (a 2)), some (.int x1)] [] M := by
  intro n
  induction n with
  | zero =>
    intro x1 M h
    rw [f_NM_keepOpen_l2] at h
    cases h
  | succ n ih =>
    intro x1 M h
    rw [f_NM_keepOpen_l2] at h
    refine zJ_iload_n (n := 3) (j := 1) (x := x1) d_NM_keepOpen_2 rfl rfl rfl ?_
    refine zJ_bipush (n := 5) (v := 64) d_NM_keepOpen_3 rfl zcb_64 ?_
    refine zJ_icmp_ge (t := 52) (n := 8) d_NM_keepOpen_5 (by decide) rfl (fun hc => ?_) (fun hc => ?_)
    · rw [if_pos hc] at h
      refine zJ_aload_n (n := 53) (j := 0) (x := a 2) d_NM_keepOpen_52 rfl rfl rfl ?_
      obtain ⟨q53, hq53, h⟩ := zbd h
      refine zS_callVv (n := 56) (k0 := 2) (avs := []) (rest := []) (z := q53) (d' := d - 1) d_NM_keepOpen_53 rfl (vk_NM_33 D tt) rfl rfl rfl (Nat.le_of_ble_eq_true rfl) (by omega) (t_NM_dropOpen (by omega) hq53) ?_
      cases h
      exact zS_return d_NM_keepOpen_56 rfl ⟨rfl, rfl⟩
    · rw [if_neg hc] at h
      refine zJ_aload_n (n := 9) (j := 0) (x := a 2) d_NM_keepOpen_8 rfl rfl rfl ?_
      refine zJ_iload_n (n := 10) (j := 1) (x := x1) d_NM_keepOpen_9 rfl rfl rfl ?_
      obtain ⟨q10, hq10, h⟩ := zbd h
      refine zS_callVi (n := 13) (k0 := 2) (avs := [.int x1]) (rest := []) (z := q10) (d' := d - 1) d_NM_keepOpen_10 rfl (vk_NM_22 D tt) rfl rfl rfl (Nat.le_of_ble_eq_true rfl) (by omega) (t_NM_wasPut (by omega) hq10) ?_
      refine zJ_if_eq (t := 35) (n := 16) d_NM_keepOpen_13 (by decide) rfl (fun hc => ?_) (fun hc => ?_)
      · rw [if_pos hc] at h
        exact t_NM_keepOpen_b35 hd ih h
      · rw [if_neg hc] at h
        refine zJ_aload_n (n := 17) (j := 0) (x := a 2) d_NM_keepOpen_16 rfl rfl rfl ?_
        refine zS_getr (n := 20) (k0 := 2) (j := 0) (q := 3) d_NM_keepOpen_17 rfl (fl_NM_9 D tt) rfl rfl ?_
        refine zJ_iload_n (n := 21) (j := 1) (x := x1) d_NM_keepOpen_20 rfl rfl rfl ?_
        obtain ⟨g21, h⟩ := zgd h
        refine zS_iald (n := 22) (k0 := 3) d_NM_keepOpen_21 rfl rfl rfl rfl g21 ?_
        refine zJ_if_ne (t := 35) (n := 25) d_NM_keepOpen_22 (by decide) rfl (fun hc => ?_) (fun hc => ?_)
        · rw [if_neg hc] at h
          exact t_NM_keepOpen_b35 hd ih h
        · rw [if_pos hc] at h
          refine zJ_aload_n (n := 26) (j := 0) (x := a 2) d_NM_keepOpen_25 rfl rfl rfl ?_
          refine zJ_dup (n := 27) d_NM_keepOpen_26 rfl rfl ?_
          refine zS_geti (n := 30) (k0 := 2) (j := 2) d_NM_keepOpen_27 rfl (fl_NM_26 D tt) rfl rfl ?_
          refine zJ_iconst (n := 31) (v := 1) d_NM_keepOpen_30 rfl zci_1 ?_
          refine zJ_iadd (n := 32) d_NM_keepOpen_31 rfl ?_
          obtain ⟨M32, hM32, h⟩ := zli h
          refine zS_putN (n := 35) (k0 := 2) (j := 2) d_NM_keepOpen_32 rfl (fl_NM_26 D tt) zty_NM rfl rfl rfl rfl rfl hM32 ?_
          exact t_NM_keepOpen_b35 hd ih h
theorem t_NM_keepOpen {D : va_G} {tt : ClassId × ClassId × ClassId} {a : Nat → Nat} {d N : Nat} (hd : 1 ≤ d) {M : zMem} {z : Int32 × zMem} (h : f_NM_keepOpen N M = some z) : zK (zEn D tt) zshp a mz_NM_keepOpen d [.ref (a 2)] M (zRv z) := by
  refine zK.enter (L := [some (.ref (a 2)), none]) (by decide) rfl (Nat.le_of_ble_eq_true rfl) rfl ?_
  unfold f_NM_keepOpen at h
  refine zJ_iconst (n := 1) (v := 0) d_NM_keepOpen_0 rfl zci_0 ?_
  refine zS_istore_n (n := 2) (j := 1) (x' := (0 : Int32)) d_NM_keepOpen_1 rfl rfl (Nat.le_of_ble_eq_true rfl) rfl ?_
  exact t_NM_keepOpen_l2 hd N _ _ h
theorem t_ED_closeEpoch {D : va_G} {tt : ClassId × ClassId × ClassId} {a : Nat → Nat} {d N : Nat} (hd : 3 ≤ d) {M : zMem} {z : Int32 × zMem} (h : f_ED_closeEpoch N M = some z) : zK (zEn D tt) zshp a mz_ED_closeEpoch d [.ref (a 0)] M (zRv z) := by
  refine zK.enter (L := [some (.ref (a 0)), none]) (by decide) rfl (Nat.le_of_ble_eq_true rfl) rfl ?_
  unfold f_ED_closeEpoch at h
  refine zJ_aload_n (n := 1) (j := 0) (x := a 0) d_ED_closeEpoch_0 rfl rfl rfl ?_
  refine zS_getr (n := 4) (k0 := 0) (j := 3) (q := 12) d_ED_closeEpoch_1 rfl (fl_ED_37 D tt) rfl rfl ?_
  refine zS_getr (n := 7) (k0 := 12) (j := 3) (q := 16) d_ED_closeEpoch_4 rfl (fl_ED_221 D tt) rfl rfl ?_
  refine zJ_iconst (n := 8) (v := 1) d_ED_closeEpoch_7 rfl zci_1 ?_
  refine zS_iald (n := 9) (k0 := 16) (jj := 1) d_ED_closeEpoch_8 rfl rfl rfl (by decide) (by decide) ?_
  obtain ⟨v9, hv9, h⟩ := zli h
  refine zS_istore_n (n := 10) (j := 1) (x' := v9) d_ED_closeEpoch_9 rfl rfl (Nat.le_of_ble_eq_true rfl) hv9 ?_
  refine zJ_aload_n (n := 11) (j := 0) (x := a 0) d_ED_closeEpoch_10 rfl rfl rfl ?_
  refine zS_getr (n := 14) (k0 := 0) (j := 2) (q := 5) d_ED_closeEpoch_11 rfl (fl_ED_30 D tt) rfl rfl ?_
  refine zJ_aload_n (n := 15) (j := 0) (x := a 0) d_ED_closeEpoch_14 rfl rfl rfl ?_
  refine zS_getr (n := 18) (k0 := 0) (j := 4) (q := 18) d_ED_closeEpoch_15 rfl (fl_ED_44 D tt) rfl rfl ?_
  refine zS_geti (n := 21) (k0 := 18) (j := 6) d_ED_closeEpoch_18 rfl (fl_ED_110 D tt) rfl rfl ?_
  refine zJ_iload_n (n := 22) (j := 1) (x := v9) d_ED_closeEpoch_21 rfl rfl rfl ?_
  obtain ⟨q22, hq22, h⟩ := zbd h
  refine zS_callVv (n := 25) (k0 := 5) (avs := [.int (M 18 6), .int v9]) (rest := []) (z := q22) (d' := d - 1) d_ED_closeEpoch_22 rfl (vk_ED_238 D tt) rfl rfl rfl (Nat.le_of_ble_eq_true rfl) (by omega) (t_St_writeCheckpoint (by omega) hq22) ?_
  refine zJ_aload_n (n := 26) (j := 0) (x := a 0) d_ED_closeEpoch_25 rfl rfl rfl ?_
  refine zS_getr (n := 29) (k0 := 0) (j := 4) (q := 18) d_ED_closeEpoch_26 rfl (fl_ED_44 D tt) rfl rfl ?_
  refine zJ_iload_n (n := 30) (j := 1) (x := v9) d_ED_closeEpoch_29 rfl rfl rfl ?_
  refine zJ_aload_n (n := 31) (j := 0) (x := a 0) d_ED_closeEpoch_30 rfl rfl rfl ?_
  refine zS_getr (n := 34) (k0 := 0) (j := 2) (q := 5) d_ED_closeEpoch_31 rfl (fl_ED_30 D tt) rfl rfl ?_
  refine zJ_iload_n (n := 35) (j := 1) (x := v9) d_ED_closeEpoch_34 rfl rfl rfl ?_
  obtain ⟨q35, hq35, h⟩ := zbd h
  refine zS_callVi (n := 38) (k0 := 5) (avs := [.int v9]) (rest := [.int v9, .ref (a 18)]) (z := q35) (d' := d - 1) d_ED_closeEpoch_35 rfl (vk_ED_241 D tt) rfl rfl rfl (Nat.le_of_ble_eq_true rfl) (by omega) (t_St_digestOf (by omega) hq35) ?_
  obtain ⟨q38, hq38, h⟩ := zbd h
  refine zS_callVv (n := 41) (k0 := 18) (avs := [.int v9, .int q35.1]) (rest := []) (z := q38) (d' := d - 1) d_ED_closeEpoch_38 rfl (vk_ED_244 D tt) rfl rfl rfl (Nat.le_of_ble_eq_true rfl) (by omega) (t_Hi_add (by omega) hq38) ?_
  refine zJ_aload_n (n := 42) (j := 0) (x := a 0) d_ED_closeEpoch_41 rfl rfl rfl ?_
  refine zS_getr (n := 45) (k0 := 0) (j := 1) (q := 2) d_ED_closeEpoch_42 rfl (fl_ED_21 D tt) rfl rfl ?_
  obtain ⟨q45, hq45, h⟩ := zbd h
  refine zS_callVv (n := 48) (k0 := 2) (avs := []) (rest := []) (z := q45) (d' := d - 1) d_ED_closeEpoch_45 rfl (vk_ED_247 D tt) rfl rfl rfl (Nat.le_of_ble_eq_true rfl) (by omega) (t_NM_keepOpen (by omega) hq45) ?_
  cases h
  exact zS_return d_ED_closeEpoch_48 rfl ⟨rfl, rfl⟩
theorem t_ED_close_b121 {D : va_G} {tt : ClassId × ClassId × ClassId} {a : Nat → Nat} {d N : Nat} (hd : 4 ≤ d) {z : Int32 × zMem} {o1 : Option Value} {M : zMem} (h : f_ED_close_b121 N M = some z) : zS (zEn D tt) zshp a mz_ED_close d zTr (zFs (zEn D tt) zshp a (zRi z)) 121 [some (.ref (a 0)), o1] [] M := by
  unfold f_ED_close_b121 at h
  refine zJ_aload_n (n := 122) (j := 0) (x := a 0) d_ED_close_121 rfl rfl rfl ?_
  refine zS_geti (n := 125) (k0 := 0) (j := 11) d_ED_close_122 rfl (fl_ED_87 D tt) rfl rfl ?_
  refine zJ_if_eq (t := 133) (n := 128) d_ED_close_125 (by decide) rfl (fun hc => ?_) (fun hc => ?_)
  · rw [if_pos hc] at h
    refine zJ_aload_n (n := 134) (j := 0) (x := a 0) d_ED_close_133 rfl rfl rfl ?_
    refine zS_getr (n := 137) (k0 := 0) (j := 4) (q := 18) d_ED_close_134 rfl (fl_ED_44 D tt) rfl rfl ?_
    refine zS_geti (n := 140) (k0 := 18) (j := 6) d_ED_close_137 rfl (fl_ED_110 D tt) rfl rfl ?_
    refine zJ_iconst (n := 141) (v := 1) d_ED_close_140 rfl zci_1 ?_
    refine zJ_isub (n := 142) d_ED_close_141 rfl ?_
    cases h
    exact zS_ireturn d_ED_close_142 rfl rfl ⟨rfl, rfl⟩
  · rw [if_neg hc] at h
    refine zJ_bipush (n := 130) (v := -9) d_ED_close_128 rfl zcb_m9 ?_
    refine zJ_goto (t := 142) d_ED_close_130 (by decide) ?_
    cases h
    exact zS_ireturn d_ED_close_142 rfl rfl ⟨rfl, rfl⟩
theorem t_ED_close_b106 {D : va_G} {tt : ClassId × ClassId × ClassId} {a : Nat → Nat} {d N : Nat} (hd : 4 ≤ d) {z : Int32 × zMem} {o1 : Option Value} {M : zMem} (h : f_ED_close_b106 N M = some z) : zS (zEn D tt) zshp a mz_ED_close d zTr (zFs (zEn D tt) zshp a (zRi z)) 106 [some (.ref (a 0)), o1] [] M := by
  unfold f_ED_close_b106 at h
  refine zJ_aload_n (n := 107) (j := 0) (x := a 0) d_ED_close_106 rfl rfl rfl ?_
  refine zS_geti (n := 110) (k0 := 0) (j := 11) d_ED_close_107 rfl (fl_ED_87 D tt) rfl rfl ?_
  refine zJ_if_ne (t := 121) (n := 113) d_ED_close_110 (by decide) rfl (fun hc => ?_) (fun hc => ?_)
  · rw [if_neg hc] at h
    exact t_ED_close_b121 hd h
  · rw [if_pos hc] at h
    refine zJ_aload_n (n := 114) (j := 0) (x := a 0) d_ED_close_113 rfl rfl rfl ?_
    obtain ⟨q114, hq114, h⟩ := zbd h
    refine zS_callVv (n := 117) (k0 := 0) (avs := []) (rest := []) (z := q114) (d' := d - 1) d_ED_close_114 rfl (vk_ED_126 D tt) rfl rfl rfl (Nat.le_of_ble_eq_true rfl) (by omega) (t_ED_closeEpoch (by omega) hq114) ?_
    refine zJ_aload_n (n := 118) (j := 0) (x := a 0) d_ED_close_117 rfl rfl rfl ?_
    obtain ⟨q118, hq118, h⟩ := zbd h
    refine zS_callVv (n := 121) (k0 := 0) (avs := []) (rest := []) (z := q118) (d' := d - 1) d_ED_close_118 rfl (vk_ED_123 D tt) rfl rfl rfl (Nat.le_of_ble_eq_true rfl) (by omega) (t_ED_burnFuse (by omega) hq118) ?_
    exact t_ED_close_b121 hd h
theorem t_ED_close_l65 {D : va_G} {tt : ClassId × ClassId × ClassId} {a : Nat → Nat} {d N : Nat} (hd : 4 ≤ d) {z : Int32 × zMem} : ∀ (n : Nat), ∀ (x1 : Int32) (M : zMem), f_ED_close_l65 N n x1 M = some z → zS (zEn D tt) zshp a mz_ED_close d zTr (zFs (zEn D tt) zshp a (zRi z)) 65 [some (.ref (a 0)), some (.int x1)] [] M := by
  intro n
  induction n with
  | zero =>
    intro x1 M h
    rw [f_ED_close_l65] at h
    cases h
  | succ n ih =>
    intro x1 M h
    rw [f_ED_close_l65] at h
    refine zJ_iload_n (n := 66) (j := 1) (x := x1) d_ED_close_65 rfl rfl rfl ?_
    refine zJ_aload_n (n := 67) (j := 0) (x := a 0) d_ED_close_66 rfl rfl rfl ?_
    refine zS_getr (n := 70) (k0 := 0) (j := 3) (q := 12) d_ED_close_67 rfl (fl_ED_37 D tt) rfl rfl ?_
    refine zS_geti (n := 73) (k0 := 12) (j := 5) d_ED_close_70 rfl (fl_ED_114 D tt) rfl rfl ?_
    refine zJ_icmp_ge (t := 106) (n := 76) d_ED_close_73 (by decide) rfl (fun hc => ?_) (fun hc => ?_)
    · rw [if_pos hc] at h
      exact t_ED_close_b106 hd h
    · rw [if_neg hc] at h
      refine zJ_aload_n (n := 77) (j := 0) (x := a 0) d_ED_close_76 rfl rfl rfl ?_
      refine zS_geti (n := 80) (k0 := 0) (j := 11) d_ED_close_77 rfl (fl_ED_87 D tt) rfl rfl ?_
      refine zJ_if_ne (t := 106) (n := 83) d_ED_close_80 (by decide) rfl (fun hc => ?_) (fun hc => ?_)
      · rw [if_neg hc] at h
        exact t_ED_close_b106 hd h
      · rw [if_pos hc] at h
        refine zJ_aload_n (n := 84) (j := 0) (x := a 0) d_ED_close_83 rfl rfl rfl ?_
        refine zJ_aload_n (n := 85) (j := 0) (x := a 0) d_ED_close_84 rfl rfl rfl ?_
        refine zS_getr (n := 88) (k0 := 0) (j := 3) (q := 12) d_ED_close_85 rfl (fl_ED_37 D tt) rfl rfl ?_
        refine zS_getr (n := 91) (k0 := 12) (j := 4) (q := 17) d_ED_close_88 rfl (fl_ED_117 D tt) rfl rfl ?_
        refine zJ_iload_n (n := 92) (j := 1) (x := x1) d_ED_close_91 rfl rfl rfl ?_
        obtain ⟨g92, h⟩ := zgd h
        refine zS_iald (n := 93) (k0 := 17) d_ED_close_92 rfl rfl rfl rfl g92 ?_
        obtain ⟨q93, hq93, h⟩ := zbd h
        refine zS_callVv (n := 96) (k0 := 0) (avs := [.int (M 17 x1.toNatClampNeg)]) (rest := []) (z := q93) (d' := d - 1) d_ED_close_93 rfl (vk_ED_120 D tt) rfl rfl rfl (Nat.le_of_ble_eq_true rfl) (by omega) (t_ED_writeNode (by omega) hq93) ?_
        refine zJ_aload_n (n := 97) (j := 0) (x := a 0) d_ED_close_96 rfl rfl rfl ?_
        obtain ⟨q97, hq97, h⟩ := zbd h
        refine zS_callVv (n := 100) (k0 := 0) (avs := []) (rest := []) (z := q97) (d' := d - 1) d_ED_close_97 rfl (vk_ED_123 D tt) rfl rfl rfl (Nat.le_of_ble_eq_true rfl) (by omega) (t_ED_burnFuse (by omega) hq97) ?_
        obtain ⟨v100, hv100, h⟩ := zli h
        refine zS_iinc (n := 103) (j := 1) (x := x1) (v := 1) (x' := v100) d_ED_close_100 rfl rfl zci_1 (Nat.le_of_ble_eq_true rfl) hv100 ?_
        refine zJ_goto (t := 65) d_ED_close_103 (by decide) ?_
        exact ih _ _ h
theorem t_ED_close {D : va_G} {tt : ClassId × ClassId × ClassId} {a : Nat → Nat} {d N : Nat} (hd : 4 ≤ d) {M : zMem} {z : Int32 × zMem} (h : f_ED_close N M = some z) : zK (zEn D tt) zshp a mz_ED_close d [.ref (a 0)] M (zRi z) := by
  refine zK.enter (L := [some (.ref (a 0)), none]) (by decide) rfl (Nat.le_of_ble_eq_true rfl) rfl ?_
  unfold f_ED_close at h
  refine zJ_aload_n (n := 1) (j := 0) (x := a 0) d_ED_close_0 rfl rfl rfl ?_
  refine zS_geti (n := 4) (k0 := 0) (j := 11) d_ED_close_1 rfl (fl_ED_87 D tt) rfl rfl ?_
  refine zJ_if_eq (t := 10) (n := 7) d_ED_close_4 (by decide) rfl (fun hc => ?_) (fun hc => ?_)
  · rw [if_pos hc] at h
    refine zJ_aload_n (n := 11) (j := 0) (x := a 0) d_ED_close_10 rfl rfl rfl ?_
    refine zS_getr (n := 14) (k0 := 0) (j := 3) (q := 12) d_ED_close_11 rfl (fl_ED_37 D tt) rfl rfl ?_
    refine zJ_aload_n (n := 15) (j := 0) (x := a 0) d_ED_close_14 rfl rfl rfl ?_
    refine zS_getr (n := 18) (k0 := 0) (j := 1) (q := 2) d_ED_close_15 rfl (fl_ED_21 D tt) rfl rfl ?_
    refine zJ_aload_n (n := 19) (j := 0) (x := a 0) d_ED_close_18 rfl rfl rfl ?_
    refine zS_getr (n := 22) (k0 := 0) (j := 2) (q := 5) d_ED_close_19 rfl (fl_ED_30 D tt) rfl rfl ?_
    obtain ⟨q22, hq22, h⟩ := zbd h
    refine zS_callVv (n := 25) (k0 := 12) (avs := [.ref (a 2), .ref (a 5)]) (rest := []) (z := q22) (d' := d - 1) d_ED_close_22 rfl (vk_ED_106 D tt) rfl rfl rfl (Nat.le_of_ble_eq_true rfl) (by omega) (t_Pl_draw (by omega) hq22) ?_
    refine zJ_aload_n (n := 26) (j := 0) (x := a 0) d_ED_close_25 rfl rfl rfl ?_
    refine zS_getr (n := 29) (k0 := 0) (j := 4) (q := 18) d_ED_close_26 rfl (fl_ED_44 D tt) rfl rfl ?_
    refine zS_geti (n := 32) (k0 := 18) (j := 6) d_ED_close_29 rfl (fl_ED_110 D tt) rfl rfl ?_
    refine zJ_bipush (n := 34) (v := 40) d_ED_close_32 rfl zcb_40 ?_
    refine zJ_icmp_ge (t := 60) (n := 37) d_ED_close_34 (by decide) rfl (fun hc => ?_) (fun hc => ?_)
    · rw [if_pos hc] at h
      refine zJ_bipush (n := 62) (v := -2) d_ED_close_60 rfl zcb_m2 ?_
      cases h
      exact zS_ireturn d_ED_close_62 rfl rfl ⟨rfl, rfl⟩
    · rw [if_neg hc] at h
      refine zJ_aload_n (n := 38) (j := 0) (x := a 0) d_ED_close_37 rfl rfl rfl ?_
      refine zS_getr (n := 41) (k0 := 0) (j := 2) (q := 5) d_ED_close_38 rfl (fl_ED_30 D tt) rfl rfl ?_
      refine zS_geti (n := 44) (k0 := 5) (j := 7) d_ED_close_41 rfl (fl_ED_113 D tt) rfl rfl ?_
      refine zJ_aload_n (n := 45) (j := 0) (x := a 0) d_ED_close_44 rfl rfl rfl ?_
      refine zS_getr (n := 48) (k0 := 0) (j := 3) (q := 12) d_ED_close_45 rfl (fl_ED_37 D tt) rfl rfl ?_
      refine zS_geti (n := 51) (k0 := 12) (j := 5) d_ED_close_48 rfl (fl_ED_114 D tt) rfl rfl ?_
      refine zJ_iadd (n := 52) d_ED_close_51 rfl ?_
      refine zJ_iconst (n := 53) (v := 1) d_ED_close_52 rfl zci_1 ?_
      refine zJ_iadd (n := 54) d_ED_close_53 rfl ?_
      refine zJ_sipush (n := 57) (v := 300) d_ED_close_54 rfl zcs_300 ?_
      refine zJ_icmp_le (t := 63) (n := 60) d_ED_close_57 (by decide) rfl (fun hc => ?_) (fun hc => ?_)
      · rw [if_pos hc] at h
        refine zJ_iconst (n := 64) (v := 0) d_ED_close_63 rfl zci_0 ?_
        refine zS_istore_n (n := 65) (j := 1) (x' := (0 : Int32)) d_ED_close_64 rfl rfl (Nat.le_of_ble_eq_true rfl) rfl ?_
        exact t_ED_close_l65 hd N _ _ h
      · rw [if_neg hc] at h
        refine zJ_bipush (n := 62) (v := -2) d_ED_close_60 rfl zcb_m2 ?_
        cases h
        exact zS_ireturn d_ED_close_62 rfl rfl ⟨rfl, rfl⟩
  · rw [if_neg hc] at h
    refine zJ_bipush (n := 9) (v := -9) d_ED_close_7 rfl zcb_m9 ?_
    cases h
    exact zS_ireturn d_ED_close_9 rfl rfl ⟨rfl, rfl⟩
theorem t_ED_fuse {D : va_G} {tt : ClassId × ClassId × ClassId} {a : Nat → Nat} {d N : Nat} (hd : 0 ≤ d) {x1 : Int32} {M : zMem} {z : Int32 × zMem} (h : f_ED_fuse N x1 M = some z) : zK (zEn D tt) zshp a mz_ED_fuse d [.ref (a 0), .int x1] M (zRi z) := by
  refine zK.enter (L := [some (.ref (a 0)), some (.int x1)]) (by decide) rfl (Nat.le_of_ble_eq_true rfl) rfl ?_
  unfold f_ED_fuse at h
  refine zJ_aload_n (n := 1) (j := 0) (x := a 0) d_ED_fuse_0 rfl rfl rfl ?_
  refine zS_geti (n := 4) (k0 := 0) (j := 11) d_ED_fuse_1 rfl (fl_ED_87 D tt) rfl rfl ?_
  refine zJ_if_ne (t := 18) (n := 7) d_ED_fuse_4 (by decide) rfl (fun hc => ?_) (fun hc => ?_)
  · rw [if_neg hc] at h
    refine zJ_iconst (n := 19) (v := 0) d_ED_fuse_18 rfl zci_0 ?_
    cases h
    exact zS_ireturn d_ED_fuse_19 rfl rfl ⟨rfl, rfl⟩
  · rw [if_pos hc] at h
    refine zJ_iload_n (n := 8) (j := 1) (x := x1) d_ED_fuse_7 rfl rfl rfl ?_
    refine zJ_iconst (n := 9) (v := 1) d_ED_fuse_8 rfl zci_1 ?_
    refine zJ_icmp_lt (t := 18) (n := 12) d_ED_fuse_9 (by decide) rfl (fun hc => ?_) (fun hc => ?_)
    · rw [if_pos hc] at h
      refine zJ_iconst (n := 19) (v := 0) d_ED_fuse_18 rfl zci_0 ?_
      cases h
      exact zS_ireturn d_ED_fuse_19 rfl rfl ⟨rfl, rfl⟩
    · rw [if_neg hc] at h
      refine zJ_iload_n (n := 13) (j := 1) (x := x1) d_ED_fuse_12 rfl rfl rfl ?_
      refine zJ_bipush (n := 15) (v := 100) d_ED_fuse_13 rfl zcb_100 ?_
      refine zJ_icmp_le (t := 20) (n := 18) d_ED_fuse_15 (by decide) rfl (fun hc => ?_) (fun hc => ?_)
      · rw [if_pos hc] at h
        refine zJ_aload_n (n := 21) (j := 0) (x := a 0) d_ED_fuse_20 rfl rfl rfl ?_
        refine zJ_iload_n (n := 22) (j := 1) (x := x1) d_ED_fuse_21 rfl rfl rfl ?_
        obtain ⟨M22, hM22, h⟩ := zli h
        refine zS_putN (n := 25) (k0 := 0) (j := 12) d_ED_fuse_22 rfl (fl_ED_129 D tt) zty_ED rfl rfl rfl rfl rfl hM22 ?_
        refine zJ_iconst (n := 26) (v := 1) d_ED_fuse_25 rfl zci_1 ?_
        cases h
        exact zS_ireturn d_ED_fuse_26 rfl rfl ⟨rfl, rfl⟩
      · rw [if_neg hc] at h
        refine zJ_iconst (n := 19) (v := 0) d_ED_fuse_18 rfl zci_0 ?_
        cases h
        exact zS_ireturn d_ED_fuse_19 rfl rfl ⟨rfl, rfl⟩
theorem t_St_cutOff {D : va_G} {tt : ClassId × ClassId × ClassId} {a : Nat → Nat} {d N : Nat} (hd : 0 ≤ d) {M : zMem} {z : Int32 × zMem} (h : f_St_cutOff N M = some z) : zK (zEn D tt) zshp a mz_St_cutOff d [.ref (a 5)] M (zRi z) := by
  refine zK.enter (L := [some (.ref (a 5)), none]) (by decide) rfl (Nat.le_of_ble_eq_true rfl) rfl ?_
  unfold f_St_cutOff at h
  refine zJ_aload_n (n := 1) (j := 0) (x := a 5) d_St_cutOff_0 rfl rfl rfl ?_
  refine zS_geti (n := 4) (k0 := 5) (j := 7) d_St_cutOff_1 rfl (fl_St_34 D tt) rfl rfl ?_
  refine zJ_aload_n (n := 5) (j := 0) (x := a 5) d_St_cutOff_4 rfl rfl rfl ?_
  refine zS_geti (n := 8) (k0 := 5) (j := 8) d_St_cutOff_5 rfl (fl_St_62 D tt) rfl rfl ?_
  refine zJ_isub (n := 9) d_St_cutOff_8 rfl ?_
  obtain ⟨v9, hv9, h⟩ := zli h
  refine zS_istore_n (n := 10) (j := 1) (x' := v9) d_St_cutOff_9 rfl rfl (Nat.le_of_ble_eq_true rfl) hv9 ?_
  refine zJ_aload_n (n := 11) (j := 0) (x := a 5) d_St_cutOff_10 rfl rfl rfl ?_
  refine zJ_aload_n (n := 12) (j := 0) (x := a 5) d_St_cutOff_11 rfl rfl rfl ?_
  refine zS_geti (n := 15) (k0 := 5) (j := 8) d_St_cutOff_12 rfl (fl_St_62 D tt) rfl rfl ?_
  obtain ⟨M15, hM15, h⟩ := zli h
  refine zS_putN (n := 18) (k0 := 5) (j := 7) d_St_cutOff_15 rfl (fl_St_34 D tt) zty_St rfl rfl rfl rfl rfl hM15 ?_
  refine zJ_iload_n (n := 19) (j := 1) (x := v9) d_St_cutOff_18 rfl rfl rfl ?_
  cases h
  exact zS_ireturn d_St_cutOff_19 rfl rfl ⟨rfl, rfl⟩
theorem t_ED_restart {D : va_G} {tt : ClassId × ClassId × ClassId} {a : Nat → Nat} {d N : Nat} (hd : 1 ≤ d) {M : zMem} {z : Int32 × zMem} (h : f_ED_restart N M = some z) : zK (zEn D tt) zshp a mz_ED_restart d [.ref (a 0)] M (zRi z) := by
  refine zK.enter (L := [some (.ref (a 0))]) (by decide) rfl (Nat.le_of_ble_eq_true rfl) rfl ?_
  unfold f_ED_restart at h
  refine zJ_aload_n (n := 1) (j := 0) (x := a 0) d_ED_restart_0 rfl rfl rfl ?_
  refine zS_geti (n := 4) (k0 := 0) (j := 11) d_ED_restart_1 rfl (fl_ED_87 D tt) rfl rfl ?_
  refine zJ_if_ne (t := 9) (n := 7) d_ED_restart_4 (by decide) rfl (fun hc => ?_) (fun hc => ?_)
  · rw [if_neg hc] at h
    refine zJ_aload_n (n := 10) (j := 0) (x := a 0) d_ED_restart_9 rfl rfl rfl ?_
    refine zJ_iconst (n := 11) (v := 0) d_ED_restart_10 rfl zci_0 ?_
    obtain ⟨M11, hM11, h⟩ := zli h
    refine zS_putN (n := 14) (k0 := 0) (j := 11) d_ED_restart_11 rfl (fl_ED_87 D tt) zty_ED rfl rfl rfl rfl rfl hM11 ?_
    refine zJ_aload_n (n := 15) (j := 0) (x := a 0) d_ED_restart_14 rfl rfl rfl ?_
    refine zS_getr (n := 18) (k0 := 0) (j := 2) (q := 5) d_ED_restart_15 rfl (fl_ED_30 D tt) rfl rfl ?_
    obtain ⟨q18, hq18, h⟩ := zbd h
    refine zS_callVi (n := 21) (k0 := 5) (avs := []) (rest := []) (z := q18) (d' := d - 1) d_ED_restart_18 rfl (vk_ED_132 D tt) rfl rfl rfl (Nat.le_of_ble_eq_true rfl) (by omega) (t_St_cutOff (by omega) hq18) ?_
    cases h
    exact zS_ireturn d_ED_restart_21 rfl rfl ⟨rfl, rfl⟩
  · rw [if_pos hc] at h
    refine zJ_iconst (n := 8) (v := -1) d_ED_restart_7 rfl zci_m1 ?_
    cases h
    exact zS_ireturn d_ED_restart_8 rfl rfl ⟨rfl, rfl⟩
theorem t_Hi_isClosed {D : va_G} {tt : ClassId × ClassId × ClassId} {a : Nat → Nat} {d N : Nat} (hd : 0 ≤ d) {x1 : Int32} {M : zMem} {z : Int32 × zMem} (h : f_Hi_isClosed N x1 M = some z) : zK (zEn D tt) zshp a mz_Hi_isClosed d [.ref (a 18), .int x1] M (zRi z) := by
  refine zK.enter (L := [some (.ref (a 18)), some (.int x1)]) (by decide) rfl (Nat.le_of_ble_eq_true rfl) rfl ?_
  unfold f_Hi_isClosed at h
  refine zJ_iload_n (n := 1) (j := 1) (x := x1) d_Hi_isClosed_0 rfl rfl rfl ?_
  refine zJ_if_lt (t := 16) (n := 4) d_Hi_isClosed_1 (by decide) rfl (fun hc => ?_) (fun hc => ?_)
  · rw [if_pos hc] at h
    refine zJ_iconst (n := 17) (v := 0) d_Hi_isClosed_16 rfl zci_0 ?_
    cases h
    exact zS_ireturn d_Hi_isClosed_17 rfl rfl ⟨rfl, rfl⟩
  · rw [if_neg hc] at h
    refine zJ_iload_n (n := 5) (j := 1) (x := x1) d_Hi_isClosed_4 rfl rfl rfl ?_
    refine zJ_aload_n (n := 6) (j := 0) (x := a 18) d_Hi_isClosed_5 rfl rfl rfl ?_
    refine zS_geti (n := 9) (k0 := 18) (j := 6) d_Hi_isClosed_6 rfl (fl_Hi_31 D tt) rfl rfl ?_
    refine zJ_icmp_ge (t := 16) (n := 12) d_Hi_isClosed_9 (by decide) rfl (fun hc => ?_) (fun hc => ?_)
    · rw [if_pos hc] at h
      refine zJ_iconst (n := 17) (v := 0) d_Hi_isClosed_16 rfl zci_0 ?_
      cases h
      exact zS_ireturn d_Hi_isClosed_17 rfl rfl ⟨rfl, rfl⟩
    · rw [if_neg hc] at h
      refine zJ_iconst (n := 13) (v := 1) d_Hi_isClosed_12 rfl zci_1 ?_
      refine zJ_goto (t := 17) d_Hi_isClosed_13 (by decide) ?_
      cases h
      exact zS_ireturn d_Hi_isClosed_17 rfl rfl ⟨rfl, rfl⟩
theorem t_ED_root {D : va_G} {tt : ClassId × ClassId × ClassId} {a : Nat → Nat} {d N : Nat} (hd : 1 ≤ d) {x1 : Int32} {M : zMem} {z : Int32 × zMem} (h : f_ED_root N x1 M = some z) : zK (zEn D tt) zshp a mz_ED_root d [.ref (a 0), .int x1] M (zRi z) := by
  refine zK.enter (L := [some (.ref (a 0)), some (.int x1)]) (by decide) rfl (Nat.le_of_ble_eq_true rfl) rfl ?_
  unfold f_ED_root at h
  refine zJ_aload_n (n := 1) (j := 0) (x := a 0) d_ED_root_0 rfl rfl rfl ?_
  refine zS_getr (n := 4) (k0 := 0) (j := 4) (q := 18) d_ED_root_1 rfl (fl_ED_44 D tt) rfl rfl ?_
  refine zJ_iload_n (n := 5) (j := 1) (x := x1) d_ED_root_4 rfl rfl rfl ?_
  obtain ⟨q5, hq5, h⟩ := zbd h
  refine zS_callVi (n := 8) (k0 := 18) (avs := [.int x1]) (rest := []) (z := q5) (d' := d - 1) d_ED_root_5 rfl (vk_ED_136 D tt) rfl rfl rfl (Nat.le_of_ble_eq_true rfl) (by omega) (t_Hi_isClosed (by omega) hq5) ?_
  refine zJ_if_eq (t := 23) (n := 11) d_ED_root_8 (by decide) rfl (fun hc => ?_) (fun hc => ?_)
  · rw [if_pos hc] at h
    refine zJ_iconst (n := 24) (v := -1) d_ED_root_23 rfl zci_m1 ?_
    cases h
    exact zS_ireturn d_ED_root_24 rfl rfl ⟨rfl, rfl⟩
  · rw [if_neg hc] at h
    refine zJ_aload_n (n := 12) (j := 0) (x := a 0) d_ED_root_11 rfl rfl rfl ?_
    refine zS_getr (n := 15) (k0 := 0) (j := 4) (q := 18) d_ED_root_12 rfl (fl_ED_44 D tt) rfl rfl ?_
    refine zS_getr (n := 18) (k0 := 18) (j := 2) (q := 20) d_ED_root_15 rfl (fl_ED_139 D tt) rfl rfl ?_
    refine zJ_iload_n (n := 19) (j := 1) (x := x1) d_ED_root_18 rfl rfl rfl ?_
    obtain ⟨g19, h⟩ := zgd h
    refine zS_iald (n := 20) (k0 := 20) d_ED_root_19 rfl rfl rfl rfl g19 ?_
    refine zJ_goto (t := 24) d_ED_root_20 (by decide) ?_
    cases h
    exact zS_ireturn d_ED_root_24 rfl rfl ⟨rfl, rfl⟩
theorem t_ED_head {D : va_G} {tt : ClassId × ClassId × ClassId} {a : Nat → Nat} {d N : Nat} (hd : 1 ≤ d) {x1 : Int32} {M : zMem} {z : Int32 × zMem} (h : f_ED_head N x1 M = some z) : zK (zEn D tt) zshp a mz_ED_head d [.ref (a 0), .int x1] M (zRi z) := by
  refine zK.enter (L := [some (.ref (a 0)), some (.int x1)]) (by decide) rfl (Nat.le_of_ble_eq_true rfl) rfl ?_
  unfold f_ED_head at h
  refine zJ_aload_n (n := 1) (j := 0) (x := a 0) d_ED_head_0 rfl rfl rfl ?_
  refine zS_getr (n := 4) (k0 := 0) (j := 4) (q := 18) d_ED_head_1 rfl (fl_ED_44 D tt) rfl rfl ?_
  refine zJ_iload_n (n := 5) (j := 1) (x := x1) d_ED_head_4 rfl rfl rfl ?_
  obtain ⟨q5, hq5, h⟩ := zbd h
  refine zS_callVi (n := 8) (k0 := 18) (avs := [.int x1]) (rest := []) (z := q5) (d' := d - 1) d_ED_head_5 rfl (vk_ED_136 D tt) rfl rfl rfl (Nat.le_of_ble_eq_true rfl) (by omega) (t_Hi_isClosed (by omega) hq5) ?_
  refine zJ_if_eq (t := 23) (n := 11) d_ED_head_8 (by decide) rfl (fun hc => ?_) (fun hc => ?_)
  · rw [if_pos hc] at h
    refine zJ_iconst (n := 24) (v := -1) d_ED_head_23 rfl zci_m1 ?_
    cases h
    exact zS_ireturn d_ED_head_24 rfl rfl ⟨rfl, rfl⟩
  · rw [if_neg hc] at h
    refine zJ_aload_n (n := 12) (j := 0) (x := a 0) d_ED_head_11 rfl rfl rfl ?_
    refine zS_getr (n := 15) (k0 := 0) (j := 4) (q := 18) d_ED_head_12 rfl (fl_ED_44 D tt) rfl rfl ?_
    refine zS_getr (n := 18) (k0 := 18) (j := 4) (q := 22) d_ED_head_15 rfl (fl_ED_142 D tt) rfl rfl ?_
    refine zJ_iload_n (n := 19) (j := 1) (x := x1) d_ED_head_18 rfl rfl rfl ?_
    obtain ⟨g19, h⟩ := zgd h
    refine zS_iald (n := 20) (k0 := 22) d_ED_head_19 rfl rfl rfl rfl g19 ?_
    refine zJ_goto (t := 24) d_ED_head_20 (by decide) ?_
    cases h
    exact zS_ireturn d_ED_head_24 rfl rfl ⟨rfl, rfl⟩
theorem t_ED_block {D : va_G} {tt : ClassId × ClassId × ClassId} {a : Nat → Nat} {d N : Nat} (hd : 1 ≤ d) {x1 : Int32} {x2 : Int32} {M : zMem} {z : Int32 × zMem} (h : f_ED_block N x1 x2 M = some z) : zK (zEn D tt) zshp a mz_ED_block d [.ref (a 0), .int x1, .int x2] M (zRi z) := by
  refine zK.enter (L := [some (.ref (a 0)), some (.int x1), some (.int x2)]) (by decide) rfl (Nat.le_of_ble_eq_true rfl) rfl ?_
  unfold f_ED_block at h
  refine zJ_aload_n (n := 1) (j := 0) (x := a 0) d_ED_block_0 rfl rfl rfl ?_
  refine zS_getr (n := 4) (k0 := 0) (j := 2) (q := 5) d_ED_block_1 rfl (fl_ED_30 D tt) rfl rfl ?_
  refine zJ_iload_n (n := 5) (j := 1) (x := x1) d_ED_block_4 rfl rfl rfl ?_
  obtain ⟨q5, hq5, h⟩ := zbd h
  refine zS_callVi (n := 8) (k0 := 5) (avs := [.int x1]) (rest := []) (z := q5) (d' := d - 1) d_ED_block_5 rfl (vk_ED_145 D tt) rfl rfl rfl (Nat.le_of_ble_eq_true rfl) (by omega) (t_St_isBlock (by omega) hq5) ?_
  refine zJ_if_ne (t := 14) (n := 11) d_ED_block_8 (by decide) rfl (fun hc => ?_) (fun hc => ?_)
  · rw [if_neg hc] at h
    refine zJ_iload_n (n := 15) (j := 2) (x := x2) d_ED_block_14 rfl rfl rfl ?_
    by_cases hc0 : x2 = 0
    · rw [if_pos hc0] at h
      refine zJ_tableIn (t := 40) d_ED_block_15 (by rw [hc0]; decide) (by rw [hc0]; decide) (by rw [hc0]; rfl) (by decide) ?_
      refine zJ_aload_n (n := 41) (j := 0) (x := a 0) d_ED_block_40 rfl rfl rfl ?_
      refine zS_getr (n := 44) (k0 := 0) (j := 2) (q := 5) d_ED_block_41 rfl (fl_ED_30 D tt) rfl rfl ?_
      refine zS_getr (n := 47) (k0 := 5) (j := 1) (q := 6) d_ED_block_44 rfl (fl_ED_148 D tt) rfl rfl ?_
      refine zJ_iload_n (n := 48) (j := 1) (x := x1) d_ED_block_47 rfl rfl rfl ?_
      obtain ⟨g48, h⟩ := zgd h
      refine zS_iald (n := 49) (k0 := 6) d_ED_block_48 rfl rfl rfl rfl g48 ?_
      cases h
      exact zS_ireturn d_ED_block_49 rfl rfl ⟨rfl, rfl⟩
    · rw [if_neg hc0] at h
      by_cases hc1 : x2 = 1
      · rw [if_pos hc1] at h
        refine zJ_tableIn (t := 50) d_ED_block_15 (by rw [hc1]; decide) (by rw [hc1]; decide) (by rw [hc1]; rfl) (by decide) ?_
        refine zJ_aload_n (n := 51) (j := 0) (x := a 0) d_ED_block_50 rfl rfl rfl ?_
        refine zS_getr (n := 54) (k0 := 0) (j := 2) (q := 5) d_ED_block_51 rfl (fl_ED_30 D tt) rfl rfl ?_
        refine zS_getr (n := 57) (k0 := 5) (j := 2) (q := 7) d_ED_block_54 rfl (fl_ED_151 D tt) rfl rfl ?_
        refine zJ_iload_n (n := 58) (j := 1) (x := x1) d_ED_block_57 rfl rfl rfl ?_
        obtain ⟨g58, h⟩ := zgd h
        refine zS_iald (n := 59) (k0 := 7) d_ED_block_58 rfl rfl rfl rfl g58 ?_
        cases h
        exact zS_ireturn d_ED_block_59 rfl rfl ⟨rfl, rfl⟩
      · rw [if_neg hc1] at h
        by_cases hc2 : x2 = 2
        · rw [if_pos hc2] at h
          refine zJ_tableIn (t := 60) d_ED_block_15 (by rw [hc2]; decide) (by rw [hc2]; decide) (by rw [hc2]; rfl) (by decide) ?_
          refine zJ_aload_n (n := 61) (j := 0) (x := a 0) d_ED_block_60 rfl rfl rfl ?_
          refine zS_getr (n := 64) (k0 := 0) (j := 2) (q := 5) d_ED_block_61 rfl (fl_ED_30 D tt) rfl rfl ?_
          refine zS_getr (n := 67) (k0 := 5) (j := 3) (q := 8) d_ED_block_64 rfl (fl_ED_154 D tt) rfl rfl ?_
          refine zJ_iload_n (n := 68) (j := 1) (x := x1) d_ED_block_67 rfl rfl rfl ?_
          obtain ⟨g68, h⟩ := zgd h
          refine zS_iald (n := 69) (k0 := 8) d_ED_block_68 rfl rfl rfl rfl g68 ?_
          cases h
          exact zS_ireturn d_ED_block_69 rfl rfl ⟨rfl, rfl⟩
        · rw [if_neg hc2] at h
          have hout : x2.toInt < 0 ∨ 2 < x2.toInt := by
            have w0 := lv_neT hc0 (show (0 : Int32).toInt = 0 by decide)
            have w1 := lv_neT hc1 (show (1 : Int32).toInt = 1 by decide)
            have w2 := lv_neT hc2 (show (2 : Int32).toInt = 2 by decide)
            omega
          refine zJ_tableOut (t := 70) d_ED_block_15 hout (by decide) ?_
          refine zJ_bipush (n := 72) (v := -2) d_ED_block_70 rfl zcb_m2 ?_
          cases h
          exact zS_ireturn d_ED_block_72 rfl rfl ⟨rfl, rfl⟩
  · rw [if_pos hc] at h
    refine zJ_bipush (n := 13) (v := -2) d_ED_block_11 rfl zcb_m2 ?_
    cases h
    exact zS_ireturn d_ED_block_13 rfl rfl ⟨rfl, rfl⟩
theorem t_ED_size {D : va_G} {tt : ClassId × ClassId × ClassId} {a : Nat → Nat} {d N : Nat} (hd : 0 ≤ d) {x1 : Int32} {M : zMem} {z : Int32 × zMem} (h : f_ED_size N x1 M = some z) : zK (zEn D tt) zshp a mz_ED_size d [.ref (a 0), .int x1] M (zRi z) := by
  refine zK.enter (L := [some (.ref (a 0)), some (.int x1)]) (by decide) rfl (Nat.le_of_ble_eq_true rfl) rfl ?_
  unfold f_ED_size at h
  refine zJ_iload_n (n := 1) (j := 1) (x := x1) d_ED_size_0 rfl rfl rfl ?_
  by_cases hc0 : x1 = 0
  · rw [if_pos hc0] at h
    refine zJ_tableIn (t := 44) d_ED_size_1 (by rw [hc0]; decide) (by rw [hc0]; decide) (by rw [hc0]; rfl) (by decide) ?_
    refine zJ_aload_n (n := 45) (j := 0) (x := a 0) d_ED_size_44 rfl rfl rfl ?_
    refine zS_getr (n := 48) (k0 := 0) (j := 4) (q := 18) d_ED_size_45 rfl (fl_ED_44 D tt) rfl rfl ?_
    refine zS_geti (n := 51) (k0 := 18) (j := 6) d_ED_size_48 rfl (fl_ED_110 D tt) rfl rfl ?_
    cases h
    exact zS_ireturn d_ED_size_51 rfl rfl ⟨rfl, rfl⟩
  · rw [if_neg hc0] at h
    by_cases hc1 : x1 = 1
    · rw [if_pos hc1] at h
      refine zJ_tableIn (t := 52) d_ED_size_1 (by rw [hc1]; decide) (by rw [hc1]; decide) (by rw [hc1]; rfl) (by decide) ?_
      refine zJ_aload_n (n := 53) (j := 0) (x := a 0) d_ED_size_52 rfl rfl rfl ?_
      refine zS_getr (n := 56) (k0 := 0) (j := 2) (q := 5) d_ED_size_53 rfl (fl_ED_30 D tt) rfl rfl ?_
      refine zS_geti (n := 59) (k0 := 5) (j := 7) d_ED_size_56 rfl (fl_ED_113 D tt) rfl rfl ?_
      cases h
      exact zS_ireturn d_ED_size_59 rfl rfl ⟨rfl, rfl⟩
    · rw [if_neg hc1] at h
      by_cases hc2 : x1 = 2
      · rw [if_pos hc2] at h
        refine zJ_tableIn (t := 60) d_ED_size_1 (by rw [hc2]; decide) (by rw [hc2]; decide) (by rw [hc2]; rfl) (by decide) ?_
        refine zJ_aload_n (n := 61) (j := 0) (x := a 0) d_ED_size_60 rfl rfl rfl ?_
        refine zS_getr (n := 64) (k0 := 0) (j := 1) (q := 2) d_ED_size_61 rfl (fl_ED_21 D tt) rfl rfl ?_
        refine zS_geti (n := 67) (k0 := 2) (j := 3) d_ED_size_64 rfl (fl_ED_102 D tt) rfl rfl ?_
        cases h
        exact zS_ireturn d_ED_size_67 rfl rfl ⟨rfl, rfl⟩
      · rw [if_neg hc2] at h
        by_cases hc3 : x1 = 3
        · rw [if_pos hc3] at h
          refine zJ_tableIn (t := 68) d_ED_size_1 (by rw [hc3]; decide) (by rw [hc3]; decide) (by rw [hc3]; rfl) (by decide) ?_
          refine zJ_aload_n (n := 69) (j := 0) (x := a 0) d_ED_size_68 rfl rfl rfl ?_
          refine zS_getr (n := 72) (k0 := 0) (j := 1) (q := 2) d_ED_size_69 rfl (fl_ED_21 D tt) rfl rfl ?_
          refine zS_geti (n := 75) (k0 := 2) (j := 2) d_ED_size_72 rfl (fl_ED_157 D tt) rfl rfl ?_
          cases h
          exact zS_ireturn d_ED_size_75 rfl rfl ⟨rfl, rfl⟩
        · rw [if_neg hc3] at h
          by_cases hc4 : x1 = 4
          · rw [if_pos hc4] at h
            refine zJ_tableIn (t := 76) d_ED_size_1 (by rw [hc4]; decide) (by rw [hc4]; decide) (by rw [hc4]; rfl) (by decide) ?_
            refine zJ_aload_n (n := 77) (j := 0) (x := a 0) d_ED_size_76 rfl rfl rfl ?_
            refine zS_geti (n := 80) (k0 := 0) (j := 13) d_ED_size_77 rfl (fl_ED_160 D tt) rfl rfl ?_
            cases h
            exact zS_ireturn d_ED_size_80 rfl rfl ⟨rfl, rfl⟩
          · rw [if_neg hc4] at h
            by_cases hc5 : x1 = 5
            · rw [if_pos hc5] at h
              refine zJ_tableIn (t := 81) d_ED_size_1 (by rw [hc5]; decide) (by rw [hc5]; decide) (by rw [hc5]; rfl) (by decide) ?_
              refine zJ_aload_n (n := 82) (j := 0) (x := a 0) d_ED_size_81 rfl rfl rfl ?_
              refine zS_geti (n := 85) (k0 := 0) (j := 14) d_ED_size_82 rfl (fl_ED_163 D tt) rfl rfl ?_
              cases h
              exact zS_ireturn d_ED_size_85 rfl rfl ⟨rfl, rfl⟩
            · rw [if_neg hc5] at h
              by_cases hc6 : x1 = 6
              · rw [if_pos hc6] at h
                refine zJ_tableIn (t := 86) d_ED_size_1 (by rw [hc6]; decide) (by rw [hc6]; decide) (by rw [hc6]; rfl) (by decide) ?_
                refine zJ_aload_n (n := 87) (j := 0) (x := a 0) d_ED_size_86 rfl rfl rfl ?_
                refine zS_geti (n := 90) (k0 := 0) (j := 11) d_ED_size_87 rfl (fl_ED_87 D tt) rfl rfl ?_
                refine zJ_if_eq (t := 97) (n := 93) d_ED_size_90 (by decide) rfl (fun hc => ?_) (fun hc => ?_)
                · rw [if_pos hc] at h
                  refine zJ_iconst (n := 98) (v := 0) d_ED_size_97 rfl zci_0 ?_
                  cases h
                  exact zS_ireturn d_ED_size_98 rfl rfl ⟨rfl, rfl⟩
                · rw [if_neg hc] at h
                  refine zJ_iconst (n := 94) (v := 1) d_ED_size_93 rfl zci_1 ?_
                  refine zJ_goto (t := 98) d_ED_size_94 (by decide) ?_
                  cases h
                  exact zS_ireturn d_ED_size_98 rfl rfl ⟨rfl, rfl⟩
              · rw [if_neg hc6] at h
                have hout : x1.toInt < 0 ∨ 6 < x1.toInt := by
                  have w0 := lv_neT hc0 (show (0 : Int32).toInt = 0 by decide)
                  have w1 := lv_neT hc1 (show (1 : Int32).toInt = 1 by decide)
                  have w2 := lv_neT hc2 (show (2 : Int32).toInt = 2 by decide)
                  have w3 := lv_neT hc3 (show (3 : Int32).toInt = 3 by decide)
                  have w4 := lv_neT hc4 (show (4 : Int32).toInt = 4 by decide)
                  have w5 := lv_neT hc5 (show (5 : Int32).toInt = 5 by decide)
                  have w6 := lv_neT hc6 (show (6 : Int32).toInt = 6 by decide)
                  omega
                refine zJ_tableOut (t := 99) d_ED_size_1 hout (by decide) ?_
                refine zJ_iconst (n := 100) (v := -1) d_ED_size_99 rfl zci_m1 ?_
                cases h
                exact zS_ireturn d_ED_size_100 rfl rfl ⟨rfl, rfl⟩
theorem t_ED_bufferAt {D : va_G} {tt : ClassId × ClassId × ClassId} {a : Nat → Nat} {d N : Nat} (hd : 0 ≤ d) {x1 : Int32} {M : zMem} {z : Option Nat × zMem} (h : f_ED_bufferAt N x1 M = some z) : zK (zEn D tt) zshp a mz_ED_bufferAt d [.ref (a 0), .int x1] M (zRr a z) := by
  refine zK.enter (L := [some (.ref (a 0)), some (.int x1)]) (by decide) rfl (Nat.le_of_ble_eq_true rfl) rfl ?_
  unfold f_ED_bufferAt at h
  refine zJ_iload_n (n := 1) (j := 1) (x := x1) d_ED_bufferAt_0 rfl rfl rfl ?_
  refine zJ_if_lt (t := 18) (n := 4) d_ED_bufferAt_1 (by decide) rfl (fun hc => ?_) (fun hc => ?_)
  · rw [if_pos hc] at h
    refine zJ_null (n := 19) d_ED_bufferAt_18 rfl ?_
    cases h
    exact zS_areturn d_ED_bufferAt_19 rfl (Or.inl rfl) ⟨rfl, rfl⟩
  · rw [if_neg hc] at h
    refine zJ_iload_n (n := 5) (j := 1) (x := x1) d_ED_bufferAt_4 rfl rfl rfl ?_
    refine zJ_iconst (n := 6) (v := 4) d_ED_bufferAt_5 rfl zci_4 ?_
    refine zJ_icmp_ge (t := 18) (n := 9) d_ED_bufferAt_6 (by decide) rfl (fun hc => ?_) (fun hc => ?_)
    · rw [if_pos hc] at h
      refine zJ_null (n := 19) d_ED_bufferAt_18 rfl ?_
      cases h
      exact zS_areturn d_ED_bufferAt_19 rfl (Or.inl rfl) ⟨rfl, rfl⟩
    · rw [if_neg hc] at h
      refine zJ_aload_n (n := 10) (j := 0) (x := a 0) d_ED_bufferAt_9 rfl rfl rfl ?_
      refine zS_getr (n := 13) (k0 := 0) (j := 6) (q := 27) d_ED_bufferAt_10 rfl (fl_ED_57 D tt) rfl rfl ?_
      refine zJ_iload_n (n := 14) (j := 1) (x := x1) d_ED_bufferAt_13 rfl rfl rfl ?_
      obtain ⟨g14, h⟩ := zgd h
      refine zS_aald (n := 15) (k0 := 27) (q := 28 + 2 * x1.toNatClampNeg) d_ED_bufferAt_14 rfl rfl rfl g14 (zbufs g14) ?_
      refine zJ_goto (t := 19) d_ED_bufferAt_15 (by decide) ?_
      cases h
      exact zS_areturn d_ED_bufferAt_19 rfl (Or.inr ⟨_, rfl⟩) ⟨rfl, rfl⟩
theorem t_Bu_startWith {D : va_G} {tt : ClassId × ClassId × ClassId} {a : Nat → Nat} {d N : Nat} (hd : 0 ≤ d) {t : Nat} {x1 : Int32} {M : zMem} {z : Int32 × zMem} (h : f_Bu_startWith N t x1 M = some z) : zK (zEn D tt) zshp a mz_Bu_startWith d [.ref (a t), .int x1] M (zRv z) := by
  refine zK.enter (L := [some (.ref (a t)), some (.int x1)]) (by decide) rfl (Nat.le_of_ble_eq_true rfl) rfl ?_
  unfold f_Bu_startWith at h
  obtain ⟨g_t, h⟩ := zgd h
  refine zJ_aload_n (n := 1) (j := 0) (x := a t) d_Bu_startWith_0 rfl rfl rfl ?_
  refine zJ_iload_n (n := 2) (j := 1) (x := x1) d_Bu_startWith_1 rfl rfl rfl ?_
  obtain ⟨M2, hM2, h⟩ := zli h
  refine zS_putN (n := 5) (k0 := t) (j := 1) d_Bu_startWith_2 rfl (fl_Bu_15 D tt) zty_Bu rfl (zis_Bu_o g_t) rfl rfl rfl hM2 ?_
  cases h
  exact zS_return d_Bu_startWith_5 rfl ⟨rfl, rfl⟩
theorem t_St_isOfKind {D : va_G} {tt : ClassId × ClassId × ClassId} {a : Nat → Nat} {d N : Nat} (hd : 1 ≤ d) {x1 : Int32} {x2 : Int32} {M : zMem} {z : Int32 × zMem} (h : f_St_isOfKind N x1 x2 M = some z) : zK (zEn D tt) zshp a mz_St_isOfKind d [.ref (a 5), .int x1, .int x2] M (zRi z) := by
  refine zK.enter (L := [some (.ref (a 5)), some (.int x1), some (.int x2)]) (by decide) rfl (Nat.le_of_ble_eq_true rfl) rfl ?_
  unfold f_St_isOfKind at h
  refine zJ_aload_n (n := 1) (j := 0) (x := a 5) d_St_isOfKind_0 rfl rfl rfl ?_
  refine zJ_iload_n (n := 2) (j := 1) (x := x1) d_St_isOfKind_1 rfl rfl rfl ?_
  obtain ⟨q2, hq2, h⟩ := zbd h
  refine zS_callVi (n := 5) (k0 := 5) (avs := [.int x1]) (rest := []) (z := q2) (d' := d - 1) d_St_isOfKind_2 rfl (vk_St_38 D tt) rfl rfl rfl (Nat.le_of_ble_eq_true rfl) (by omega) (t_St_isBlock (by omega) hq2) ?_
  refine zJ_if_eq (t := 22) (n := 8) d_St_isOfKind_5 (by decide) rfl (fun hc => ?_) (fun hc => ?_)
  · rw [if_pos hc] at h
    refine zJ_iconst (n := 23) (v := 0) d_St_isOfKind_22 rfl zci_0 ?_
    cases h
    exact zS_ireturn d_St_isOfKind_23 rfl rfl ⟨rfl, rfl⟩
  · rw [if_neg hc] at h
    refine zJ_aload_n (n := 9) (j := 0) (x := a 5) d_St_isOfKind_8 rfl rfl rfl ?_
    refine zS_getr (n := 12) (k0 := 5) (j := 1) (q := 6) d_St_isOfKind_9 rfl (fl_St_9 D tt) rfl rfl ?_
    refine zJ_iload_n (n := 13) (j := 1) (x := x1) d_St_isOfKind_12 rfl rfl rfl ?_
    obtain ⟨g13, h⟩ := zgd h
    refine zS_iald (n := 14) (k0 := 6) d_St_isOfKind_13 rfl rfl rfl rfl g13 ?_
    refine zJ_iload_n (n := 15) (j := 2) (x := x2) d_St_isOfKind_14 rfl rfl rfl ?_
    refine zJ_icmp_ne (t := 22) (n := 18) d_St_isOfKind_15 (by decide) rfl (fun hc => ?_) (fun hc => ?_)
    · rw [if_neg hc] at h
      refine zJ_iconst (n := 23) (v := 0) d_St_isOfKind_22 rfl zci_0 ?_
      cases h
      exact zS_ireturn d_St_isOfKind_23 rfl rfl ⟨rfl, rfl⟩
    · rw [if_pos hc] at h
      refine zJ_iconst (n := 19) (v := 1) d_St_isOfKind_18 rfl zci_1 ?_
      refine zJ_goto (t := 23) d_St_isOfKind_19 (by decide) ?_
      cases h
      exact zS_ireturn d_St_isOfKind_23 rfl rfl ⟨rfl, rfl⟩
theorem t_ED_bitOf {D : va_G} {tt : ClassId × ClassId × ClassId} {a : Nat → Nat} {d N : Nat} (hd : 0 ≤ d) {x0 : Int32} {x1 : Int32} {M : zMem} {z : Int32 × zMem} (h : f_ED_bitOf N x0 x1 M = some z) : zK (zEn D tt) zshp a mz_ED_bitOf d [.int x0, .int x1] M (zRi z) := by
  refine zK.enter (L := [some (.int x0), some (.int x1)]) (by decide) rfl (Nat.le_of_ble_eq_true rfl) rfl ?_
  unfold f_ED_bitOf at h
  refine zJ_iload_n (n := 1) (j := 0) (x := x0) d_ED_bitOf_0 rfl rfl rfl ?_
  refine zJ_iconst (n := 2) (v := 5) d_ED_bitOf_1 rfl zci_5 ?_
  refine zJ_iload_n (n := 3) (j := 1) (x := x1) d_ED_bitOf_2 rfl rfl rfl ?_
  refine zJ_isub (n := 4) d_ED_bitOf_3 rfl ?_
  refine zJ_ishr (n := 5) d_ED_bitOf_4 rfl ?_
  refine zJ_iconst (n := 6) (v := 1) d_ED_bitOf_5 rfl zci_1 ?_
  refine zJ_iand (n := 7) d_ED_bitOf_6 rfl ?_
  cases h
  exact zS_ireturn d_ED_bitOf_7 rfl rfl ⟨rfl, rfl⟩
theorem t_St_partOf {D : va_G} {tt : ClassId × ClassId × ClassId} {a : Nat → Nat} {d N : Nat} (hd : 0 ≤ d) {x1 : Int32} {x2 : Int32} {M : zMem} {z : Int32 × zMem} (h : f_St_partOf N x1 x2 M = some z) : zK (zEn D tt) zshp a mz_St_partOf d [.ref (a 5), .int x1, .int x2] M (zRi z) := by
  refine zK.enter (L := [some (.ref (a 5)), some (.int x1), some (.int x2)]) (by decide) rfl (Nat.le_of_ble_eq_true rfl) rfl ?_
  unfold f_St_partOf at h
  refine zJ_iload_n (n := 1) (j := 2) (x := x2) d_St_partOf_0 rfl rfl rfl ?_
  refine zJ_if_ne (t := 13) (n := 4) d_St_partOf_1 (by decide) rfl (fun hc => ?_) (fun hc => ?_)
  · rw [if_neg hc] at h
    refine zJ_aload_n (n := 14) (j := 0) (x := a 5) d_St_partOf_13 rfl rfl rfl ?_
    refine zS_getr (n := 17) (k0 := 5) (j := 3) (q := 8) d_St_partOf_14 rfl (fl_St_18 D tt) rfl rfl ?_
    refine zJ_iload_n (n := 18) (j := 1) (x := x1) d_St_partOf_17 rfl rfl rfl ?_
    obtain ⟨g18, h⟩ := zgd h
    refine zS_iald (n := 19) (k0 := 8) d_St_partOf_18 rfl rfl rfl rfl g18 ?_
    cases h
    exact zS_ireturn d_St_partOf_19 rfl rfl ⟨rfl, rfl⟩
  · rw [if_pos hc] at h
    refine zJ_aload_n (n := 5) (j := 0) (x := a 5) d_St_partOf_4 rfl rfl rfl ?_
    refine zS_getr (n := 8) (k0 := 5) (j := 2) (q := 7) d_St_partOf_5 rfl (fl_St_15 D tt) rfl rfl ?_
    refine zJ_iload_n (n := 9) (j := 1) (x := x1) d_St_partOf_8 rfl rfl rfl ?_
    obtain ⟨g9, h⟩ := zgd h
    refine zS_iald (n := 10) (k0 := 7) d_St_partOf_9 rfl rfl rfl rfl g9 ?_
    refine zJ_goto (t := 19) d_St_partOf_10 (by decide) ?_
    cases h
    exact zS_ireturn d_St_partOf_19 rfl rfl ⟨rfl, rfl⟩
theorem t_Bu_replaceOrAppend {D : va_G} {tt : ClassId × ClassId × ClassId} {a : Nat → Nat} {d N : Nat} (hd : 1 ≤ d) {t : Nat} {x1 : Int32} {x2 : Int32} {M : zMem} {z : Int32 × zMem} (h : f_Bu_replaceOrAppend N t x1 x2 M = some z) : zK (zEn D tt) zshp a mz_Bu_replaceOrAppend d [.ref (a t), .int x1, .int x2] M (zRi z) := by
  refine zK.enter (L := [some (.ref (a t)), some (.int x1), some (.int x2)]) (by decide) rfl (Nat.le_of_ble_eq_true rfl) rfl ?_
  unfold f_Bu_replaceOrAppend at h
  obtain ⟨g_t, h⟩ := zgd h
  refine zJ_iload_n (n := 1) (j := 1) (x := x1) d_Bu_replaceOrAppend_0 rfl rfl rfl ?_
  refine zJ_if_lt (t := 18) (n := 4) d_Bu_replaceOrAppend_1 (by decide) rfl (fun hc => ?_) (fun hc => ?_)
  · rw [if_pos hc] at h
    refine zJ_iconst (n := 19) (v := 0) d_Bu_replaceOrAppend_18 rfl zci_0 ?_
    cases h
    exact zS_ireturn d_Bu_replaceOrAppend_19 rfl rfl ⟨rfl, rfl⟩
  · rw [if_neg hc] at h
    refine zJ_iload_n (n := 5) (j := 1) (x := x1) d_Bu_replaceOrAppend_4 rfl rfl rfl ?_
    refine zJ_aload_n (n := 6) (j := 0) (x := a t) d_Bu_replaceOrAppend_5 rfl rfl rfl ?_
    refine zS_geti (n := 9) (k0 := t) (j := 1) d_Bu_replaceOrAppend_6 rfl (fl_Bu_15 D tt) (zis_Bu_o g_t) rfl ?_
    refine zJ_icmp_gt (t := 18) (n := 12) d_Bu_replaceOrAppend_9 (by decide) rfl (fun hc => ?_) (fun hc => ?_)
    · rw [if_pos hc] at h
      refine zJ_iconst (n := 19) (v := 0) d_Bu_replaceOrAppend_18 rfl zci_0 ?_
      cases h
      exact zS_ireturn d_Bu_replaceOrAppend_19 rfl rfl ⟨rfl, rfl⟩
    · rw [if_neg hc] at h
      refine zJ_iload_n (n := 13) (j := 1) (x := x1) d_Bu_replaceOrAppend_12 rfl rfl rfl ?_
      refine zJ_bipush (n := 15) (v := 30) d_Bu_replaceOrAppend_13 rfl zcb_30 ?_
      refine zJ_icmp_lt (t := 20) (n := 18) d_Bu_replaceOrAppend_15 (by decide) rfl (fun hc => ?_) (fun hc => ?_)
      · rw [if_pos hc] at h
        refine zJ_aload_n (n := 21) (j := 0) (x := a t) d_Bu_replaceOrAppend_20 rfl rfl rfl ?_
        refine zS_getr (n := 24) (k0 := t) (j := 0) (q := t + 1) d_Bu_replaceOrAppend_21 rfl (fl_Bu_9 D tt) (zis_Bu_o g_t) rfl ?_
        refine zJ_iload_n (n := 25) (j := 1) (x := x1) d_Bu_replaceOrAppend_24 rfl rfl rfl ?_
        refine zJ_iload_n (n := 26) (j := 2) (x := x2) d_Bu_replaceOrAppend_25 rfl rfl rfl ?_
        obtain ⟨g26, h⟩ := zgd h
        obtain ⟨M26, hM26, h⟩ := zli h
        refine zS_iastN (n := 27) (k0 := t + 1) d_Bu_replaceOrAppend_26 rfl (zis_Bu_1 g_t) rfl rfl g26 hM26 ?_
        refine zJ_aload_n (n := 28) (j := 0) (x := a t) d_Bu_replaceOrAppend_27 rfl rfl rfl ?_
        refine zJ_aload_n (n := 29) (j := 0) (x := a t) d_Bu_replaceOrAppend_28 rfl rfl rfl ?_
        refine zS_geti (n := 32) (k0 := t) (j := 1) d_Bu_replaceOrAppend_29 rfl (fl_Bu_15 D tt) (zis_Bu_o g_t) rfl ?_
        refine zJ_iload_n (n := 33) (j := 1) (x := x1) d_Bu_replaceOrAppend_32 rfl rfl rfl ?_
        refine zJ_iconst (n := 34) (v := 1) d_Bu_replaceOrAppend_33 rfl zci_1 ?_
        refine zJ_iadd (n := 35) d_Bu_replaceOrAppend_34 rfl ?_
        refine zJ_max (n := 38) d_Bu_replaceOrAppend_35 rfl (mm_Bu_23 D tt) (mm_max_s D tt) (mm_i D tt) (mm_max_c D tt) (by omega) (Nat.le_of_ble_eq_true rfl) (Nat.le_refl _) (Nat.le_refl _) ?_
        obtain ⟨M38, hM38, h⟩ := zli h
        refine zS_putN (n := 41) (k0 := t) (j := 1) d_Bu_replaceOrAppend_38 rfl (fl_Bu_15 D tt) zty_Bu rfl (zis_Bu_o g_t) rfl rfl rfl hM38 ?_
        refine zJ_iconst (n := 42) (v := 1) d_Bu_replaceOrAppend_41 rfl zci_1 ?_
        cases h
        exact zS_ireturn d_Bu_replaceOrAppend_42 rfl rfl ⟨rfl, rfl⟩
      · rw [if_neg hc] at h
        refine zJ_iconst (n := 19) (v := 0) d_Bu_replaceOrAppend_18 rfl zci_0 ?_
        cases h
        exact zS_ireturn d_Bu_replaceOrAppend_19 rfl rfl ⟨rfl, rfl⟩
theorem t_Bu_append {D : va_G} {tt : ClassId × ClassId × ClassId} {a : Nat → Nat} {d N : Nat} (hd : 2 ≤ d) {t : Nat} {x1 : Int32} {M : zMem} {z : Int32 × zMem} (h : f_Bu_append N t x1 M = some z) : zK (zEn D tt) zshp a mz_Bu_append d [.ref (a t), .int x1] M (zRv z) := by
  refine zK.enter (L := [some (.ref (a t)), some (.int x1)]) (by decide) rfl (Nat.le_of_ble_eq_true rfl) rfl ?_
  unfold f_Bu_append at h
  obtain ⟨g_t, h⟩ := zgd h
  refine zJ_aload_n (n := 1) (j := 0) (x := a t) d_Bu_append_0 rfl rfl rfl ?_
  refine zJ_aload_n (n := 2) (j := 0) (x := a t) d_Bu_append_1 rfl rfl rfl ?_
  refine zS_geti (n := 5) (k0 := t) (j := 1) d_Bu_append_2 rfl (fl_Bu_15 D tt) (zis_Bu_o g_t) rfl ?_
  refine zJ_iload_n (n := 6) (j := 1) (x := x1) d_Bu_append_5 rfl rfl rfl ?_
  obtain ⟨q6, hq6, h⟩ := zbd h
  refine zS_callVi (n := 9) (k0 := t) (avs := [.int (M t 1), .int x1]) (rest := []) (z := q6) (d' := d - 1) d_Bu_append_6 rfl (vk_Bu_19 D tt) (zis_Bu_o g_t) rfl rfl (Nat.le_of_ble_eq_true rfl) (by omega) (t_Bu_replaceOrAppend (by omega) hq6) ?_
  refine zJ_pop (n := 10) d_Bu_append_9 rfl rfl ?_
  cases h
  exact zS_return d_Bu_append_10 rfl ⟨rfl, rfl⟩
theorem t_ED_proveLookup_b198 {D : va_G} {tt : ClassId × ClassId × ClassId} {a : Nat → Nat} {d N : Nat} (hd : 3 ≤ d) {z : Int32 × zMem} {x2 : Int32} {x8 : Int32} {x9 : Int32} {s1 : Int32} {o0 : Option Value} {o1 : Option Value} {o3 : Option Value} {o4 : Option Value} {o5 : Option Value} {o6 : Option Value} {o7 : Option Value} {M : zMem} (h : f_ED_proveLookup_b198 N x2 x8 x9 s1 M = some z) : zS (zEn D tt) zshp a mz_ED_proveLookup d zTr (zFs (zEn D tt) zshp a (zRi z)) 198 [o0, o1, some (.int x2), o3, o4, o5, o6, o7, some (.int x8), some (.int x9)] [.int s1, .ref (a 0)] M := by
  unfold f_ED_proveLookup_b198 at h
  obtain ⟨M198, hM198, h⟩ := zli h
  refine zS_putN (n := 201) (k0 := 0) (j := 14) d_ED_proveLookup_198 rfl (fl_ED_163 D tt) zty_ED rfl rfl rfl rfl rfl hM198 ?_
  refine zJ_iload (n := 203) (j := 8) (x := x8) d_ED_proveLookup_201 rfl rfl ?_
  refine zJ_iload_n (n := 204) (j := 2) (x := x2) d_ED_proveLookup_203 rfl rfl rfl ?_
  refine zJ_icmp_ne (t := 212) (n := 207) d_ED_proveLookup_204 (by decide) rfl (fun hc => ?_) (fun hc => ?_)
  · rw [if_neg hc] at h
    refine zJ_iconst (n := 213) (v := 0) d_ED_proveLookup_212 rfl zci_0 ?_
    cases h
    exact zS_ireturn d_ED_proveLookup_213 rfl rfl ⟨rfl, rfl⟩
  · rw [if_pos hc] at h
    refine zJ_iload (n := 209) (j := 9) (x := x9) d_ED_proveLookup_207 rfl rfl ?_
    refine zJ_goto (t := 213) d_ED_proveLookup_209 (by decide) ?_
    cases h
    exact zS_ireturn d_ED_proveLookup_213 rfl rfl ⟨rfl, rfl⟩
theorem t_ED_proveLookup_b149 {D : va_G} {tt : ClassId × ClassId × ClassId} {a : Nat → Nat} {d N : Nat} (hd : 3 ≤ d) {z : Int32 × zMem} {p1 : Nat} (g_p1 : zis_Bu p1 = true) {x2 : Int32} {x6 : Int32} {x7 : Int32} {x8 : Int32} {s0 : Int32} {o3 : Option Value} {o4 : Option Value} {o5 : Option Value} {o9 : Option Value} {M : zMem} (h : f_ED_proveLookup_b149 N p1 x2 x6 x7 x8 s0 M = some z) : zS (zEn D tt) zshp a mz_ED_proveLookup d zTr (zFs (zEn D tt) zshp a (zRi z)) 149 [some (.ref (a 0)), some (.ref (a p1)), some (.int x2), o3, o4, o5, some (.int x6), some (.int x7), some (.int x8), o9] [.int s0] M := by
  unfold f_ED_proveLookup_b149 at h
  refine zS_istore (n := 151) (j := 9) (x' := s0) d_ED_proveLookup_149 rfl (Nat.le_of_ble_eq_true rfl) rfl ?_
  refine zJ_aload_n (n := 152) (j := 1) (x := a p1) d_ED_proveLookup_151 rfl rfl rfl ?_
  refine zS_getr (n := 155) (k0 := p1) (j := 0) (q := p1 + 1) d_ED_proveLookup_152 rfl (fl_ED_179 D tt) (zis_Bu_o g_p1) rfl ?_
  refine zJ_iconst (n := 156) (v := 0) d_ED_proveLookup_155 rfl zci_0 ?_
  refine zJ_iload (n := 158) (j := 6) (x := x6) d_ED_proveLookup_156 rfl rfl ?_
  obtain ⟨M158, hM158, h⟩ := zli h
  refine zS_iastN (n := 159) (k0 := p1 + 1) (jj := 0) d_ED_proveLookup_158 rfl (zis_Bu_1 g_p1) rfl (by decide) (by decide) hM158 ?_
  refine zJ_aload_n (n := 160) (j := 1) (x := a p1) d_ED_proveLookup_159 rfl rfl rfl ?_
  refine zS_getr (n := 163) (k0 := p1) (j := 0) (q := p1 + 1) d_ED_proveLookup_160 rfl (fl_ED_179 D tt) (zis_Bu_o g_p1) rfl ?_
  refine zJ_iconst (n := 164) (v := 1) d_ED_proveLookup_163 rfl zci_1 ?_
  refine zJ_iload (n := 166) (j := 8) (x := x8) d_ED_proveLookup_164 rfl rfl ?_
  obtain ⟨M166, hM166, h⟩ := zli h
  refine zS_iastN (n := 167) (k0 := p1 + 1) (jj := 1) d_ED_proveLookup_166 rfl (zis_Bu_1 g_p1) rfl (by decide) (by decide) hM166 ?_
  refine zJ_aload_n (n := 168) (j := 1) (x := a p1) d_ED_proveLookup_167 rfl rfl rfl ?_
  refine zS_getr (n := 171) (k0 := p1) (j := 0) (q := p1 + 1) d_ED_proveLookup_168 rfl (fl_ED_179 D tt) (zis_Bu_o g_p1) rfl ?_
  refine zJ_iconst (n := 172) (v := 2) d_ED_proveLookup_171 rfl zci_2 ?_
  refine zJ_iload (n := 174) (j := 9) (x := s0) d_ED_proveLookup_172 rfl rfl ?_
  obtain ⟨M174, hM174, h⟩ := zli h
  refine zS_iastN (n := 175) (k0 := p1 + 1) (jj := 2) d_ED_proveLookup_174 rfl (zis_Bu_1 g_p1) rfl (by decide) (by decide) hM174 ?_
  refine zJ_aload_n (n := 176) (j := 0) (x := a 0) d_ED_proveLookup_175 rfl rfl rfl ?_
  refine zJ_aload_n (n := 177) (j := 1) (x := a p1) d_ED_proveLookup_176 rfl rfl rfl ?_
  refine zS_geti (n := 180) (k0 := p1) (j := 1) d_ED_proveLookup_177 rfl (fl_ED_178 D tt) (zis_Bu_o g_p1) rfl ?_
  obtain ⟨M180, hM180, h⟩ := zli h
  refine zS_putN (n := 183) (k0 := 0) (j := 13) d_ED_proveLookup_180 rfl (fl_ED_160 D tt) zty_ED rfl rfl rfl rfl rfl hM180 ?_
  refine zJ_aload_n (n := 184) (j := 0) (x := a 0) d_ED_proveLookup_183 rfl rfl rfl ?_
  refine zJ_iload (n := 186) (j := 7) (x := x7) d_ED_proveLookup_184 rfl rfl ?_
  refine zJ_if_eq (t := 196) (n := 189) d_ED_proveLookup_186 (by decide) rfl (fun hc => ?_) (fun hc => ?_)
  · rw [if_pos hc] at h
    refine zJ_iload (n := 198) (j := 6) (x := x6) d_ED_proveLookup_196 rfl rfl ?_
    exact t_ED_proveLookup_b198 hd h
  · rw [if_neg hc] at h
    refine zJ_iload (n := 191) (j := 6) (x := x6) d_ED_proveLookup_189 rfl rfl ?_
    refine zJ_iconst (n := 192) (v := 1) d_ED_proveLookup_191 rfl zci_1 ?_
    refine zJ_iadd (n := 193) d_ED_proveLookup_192 rfl ?_
    refine zJ_goto (t := 198) d_ED_proveLookup_193 (by decide) ?_
    exact t_ED_proveLookup_b198 hd h
theorem t_ED_proveLookup_b128 {D : va_G} {tt : ClassId × ClassId × ClassId} {a : Nat → Nat} {d N : Nat} (hd : 3 ≤ d) {z : Int32 × zMem} {p1 : Nat} (g_p1 : zis_Bu p1 = true) {x2 : Int32} {x5 : Int32} {x6 : Int32} {x7 : Int32} {s0 : Int32} {o3 : Option Value} {o4 : Option Value} {o8 : Option Value} {o9 : Option Value} {M : zMem} (h : f_ED_proveLookup_b128 N p1 x2 x5 x6 x7 s0 M = some z) : zS (zEn D tt) zshp a mz_ED_proveLookup d zTr (zFs (zEn D tt) zshp a (zRi z)) 128 [some (.ref (a 0)), some (.ref (a p1)), some (.int x2), o3, o4, some (.int x5), some (.int x6), some (.int x7), o8, o9] [.int s0] M := by
  unfold f_ED_proveLookup_b128 at h
  refine zS_istore (n := 130) (j := 8) (x' := s0) d_ED_proveLookup_128 rfl (Nat.le_of_ble_eq_true rfl) rfl ?_
  refine zJ_iload (n := 132) (j := 7) (x := x7) d_ED_proveLookup_130 rfl rfl ?_
  refine zJ_if_eq (t := 148) (n := 135) d_ED_proveLookup_132 (by decide) rfl (fun hc => ?_) (fun hc => ?_)
  · rw [if_pos hc] at h
    refine zJ_iconst (n := 149) (v := 0) d_ED_proveLookup_148 rfl zci_0 ?_
    exact t_ED_proveLookup_b149 hd g_p1 h
  · rw [if_neg hc] at h
    refine zJ_aload_n (n := 136) (j := 0) (x := a 0) d_ED_proveLookup_135 rfl rfl rfl ?_
    refine zS_getr (n := 139) (k0 := 0) (j := 2) (q := 5) d_ED_proveLookup_136 rfl (fl_ED_30 D tt) rfl rfl ?_
    refine zS_getr (n := 142) (k0 := 5) (j := 3) (q := 8) d_ED_proveLookup_139 rfl (fl_ED_154 D tt) rfl rfl ?_
    refine zJ_iload (n := 144) (j := 5) (x := x5) d_ED_proveLookup_142 rfl rfl ?_
    obtain ⟨g144, h⟩ := zgd h
    refine zS_iald (n := 145) (k0 := 8) d_ED_proveLookup_144 rfl rfl rfl rfl g144 ?_
    refine zJ_goto (t := 149) d_ED_proveLookup_145 (by decide) ?_
    exact t_ED_proveLookup_b149 hd g_p1 h
theorem t_ED_proveLookup_b97 {D : va_G} {tt : ClassId × ClassId × ClassId} {a : Nat → Nat} {d N : Nat} (hd : 3 ≤ d) {z : Int32 × zMem} {p1 : Nat} (g_p1 : zis_Bu p1 = true) {x2 : Int32} {x5 : Int32} {x6 : Int32} {o3 : Option Value} {o4 : Option Value} {o7 : Option Value} {o8 : Option Value} {o9 : Option Value} {M : zMem} (h : f_ED_proveLookup_b97 N p1 x2 x5 x6 M = some z) : zS (zEn D tt) zshp a mz_ED_proveLookup d zTr (zFs (zEn D tt) zshp a (zRi z)) 97 [some (.ref (a 0)), some (.ref (a p1)), some (.int x2), o3, o4, some (.int x5), some (.int x6), o7, o8, o9] [] M := by
  unfold f_ED_proveLookup_b97 at h
  refine zJ_aload_n (n := 98) (j := 0) (x := a 0) d_ED_proveLookup_97 rfl rfl rfl ?_
  refine zS_getr (n := 101) (k0 := 0) (j := 2) (q := 5) d_ED_proveLookup_98 rfl (fl_ED_30 D tt) rfl rfl ?_
  refine zJ_iload (n := 103) (j := 5) (x := x5) d_ED_proveLookup_101 rfl rfl ?_
  refine zJ_iconst (n := 104) (v := 1) d_ED_proveLookup_103 rfl zci_1 ?_
  obtain ⟨q104, hq104, h⟩ := zbd h
  refine zS_callVi (n := 107) (k0 := 5) (avs := [.int x5, .int (1 : Int32)]) (rest := []) (z := q104) (d' := d - 1) d_ED_proveLookup_104 rfl (vk_ED_262 D tt) rfl rfl rfl (Nat.le_of_ble_eq_true rfl) (by omega) (t_St_isOfKind (by omega) hq104) ?_
  refine zS_istore (n := 109) (j := 7) (x' := q104.1) d_ED_proveLookup_107 rfl (Nat.le_of_ble_eq_true rfl) rfl ?_
  refine zJ_iload (n := 111) (j := 7) (x := q104.1) d_ED_proveLookup_109 rfl rfl ?_
  refine zJ_if_eq (t := 127) (n := 114) d_ED_proveLookup_111 (by decide) rfl (fun hc => ?_) (fun hc => ?_)
  · rw [if_pos hc] at h
    refine zJ_iconst (n := 128) (v := -1) d_ED_proveLookup_127 rfl zci_m1 ?_
    exact t_ED_proveLookup_b128 hd g_p1 h
  · rw [if_neg hc] at h
    refine zJ_aload_n (n := 115) (j := 0) (x := a 0) d_ED_proveLookup_114 rfl rfl rfl ?_
    refine zS_getr (n := 118) (k0 := 0) (j := 2) (q := 5) d_ED_proveLookup_115 rfl (fl_ED_30 D tt) rfl rfl ?_
    refine zS_getr (n := 121) (k0 := 5) (j := 2) (q := 7) d_ED_proveLookup_118 rfl (fl_ED_151 D tt) rfl rfl ?_
    refine zJ_iload (n := 123) (j := 5) (x := x5) d_ED_proveLookup_121 rfl rfl ?_
    obtain ⟨g123, h⟩ := zgd h
    refine zS_iald (n := 124) (k0 := 7) d_ED_proveLookup_123 rfl rfl rfl rfl g123 ?_
    refine zJ_goto (t := 128) d_ED_proveLookup_124 (by decide) ?_
    exact t_ED_proveLookup_b128 hd g_p1 h
theorem t_ED_proveLookup_l25 {D : va_G} {tt : ClassId × ClassId × ClassId} {a : Nat → Nat} {d N : Nat} (hd : 3 ≤ d) {z : Int32 × zMem} {p1 : Nat} (g_p1 : zis_Bu p1 = true) : ∀ (n : Nat), ∀ (x2 x4 x5 x6 : Int32) (o3 o7 o8 o9 : Option Value) (M : zMem), f_ED_proveLookup_l25 N p1 n x2 x4 x5 x6 M = some z → zS (zEn D tt) zshp a mz_ED_proveLookup d zTr (zFs (zEn D tt) zshp a (zRi z)) 25 [some (.ref (a 0)), some (.ref (a p1)), some (.int x2), o3, some (.int x4), some (.int x5), some (.int x6), o7, o8, o9] [] M := by
  intro n
  induction n with
  | zero =>
    intro x2 x4 x5 x6 o3 o7 o8 o9 M h
    rw [f_ED_proveLookup_l25] at h
    cases h
  | succ n ih =>
    intro x2 x4 x5 x6 o3 o7 o8 o9 M h
    rw [f_ED_proveLookup_l25] at h
    refine zJ_iload (n := 27) (j := 6) (x := x6) d_ED_proveLookup_25 rfl rfl ?_
    refine zJ_bipush (n := 29) (v := 6) d_ED_proveLookup_27 rfl zcb_6 ?_
    refine zJ_icmp_ge (t := 97) (n := 32) d_ED_proveLookup_29 (by decide) rfl (fun hc => ?_) (fun hc => ?_)
    · rw [if_pos hc] at h
      exact t_ED_proveLookup_b97 hd g_p1 h
    · rw [if_neg hc] at h
      refine zJ_aload_n (n := 33) (j := 0) (x := a 0) d_ED_proveLookup_32 rfl rfl rfl ?_
      refine zS_getr (n := 36) (k0 := 0) (j := 2) (q := 5) d_ED_proveLookup_33 rfl (fl_ED_30 D tt) rfl rfl ?_
      refine zJ_iload (n := 38) (j := 5) (x := x5) d_ED_proveLookup_36 rfl rfl ?_
      refine zJ_iconst (n := 39) (v := 2) d_ED_proveLookup_38 rfl zci_2 ?_
      obtain ⟨q39, hq39, h⟩ := zbd h
      refine zS_callVi (n := 42) (k0 := 5) (avs := [.int x5, .int (2 : Int32)]) (rest := []) (z := q39) (d' := d - 1) d_ED_proveLookup_39 rfl (vk_ED_262 D tt) rfl rfl rfl (Nat.le_of_ble_eq_true rfl) (by omega) (t_St_isOfKind (by omega) hq39) ?_
      refine zJ_if_eq (t := 97) (n := 45) d_ED_proveLookup_42 (by decide) rfl (fun hc => ?_) (fun hc => ?_)
      · rw [if_pos hc] at h
        exact t_ED_proveLookup_b97 hd g_p1 h
      · rw [if_neg hc] at h
        refine zJ_iload (n := 47) (j := 4) (x := x4) d_ED_proveLookup_45 rfl rfl ?_
        refine zJ_iload (n := 49) (j := 6) (x := x6) d_ED_proveLookup_47 rfl rfl ?_
        obtain ⟨q49, hq49, h⟩ := zbd h
        refine zS_callSi (n := 52) (avs := [.int x4, .int x6]) (rest := []) (z := q49) (d' := d - 1) d_ED_proveLookup_49 rfl (sk_ED_265 D tt) rfl rfl (Nat.le_of_ble_eq_true rfl) (by omega) (t_ED_bitOf (by omega) hq49) ?_
        refine zS_istore (n := 54) (j := 7) (x' := q49.1) d_ED_proveLookup_52 rfl (Nat.le_of_ble_eq_true rfl) rfl ?_
        refine zJ_aload_n (n := 55) (j := 1) (x := a p1) d_ED_proveLookup_54 rfl rfl rfl ?_
        refine zJ_aload_n (n := 56) (j := 0) (x := a 0) d_ED_proveLookup_55 rfl rfl rfl ?_
        refine zS_getr (n := 59) (k0 := 0) (j := 2) (q := 5) d_ED_proveLookup_56 rfl (fl_ED_30 D tt) rfl rfl ?_
        refine zJ_aload_n (n := 60) (j := 0) (x := a 0) d_ED_proveLookup_59 rfl rfl rfl ?_
        refine zS_getr (n := 63) (k0 := 0) (j := 2) (q := 5) d_ED_proveLookup_60 rfl (fl_ED_30 D tt) rfl rfl ?_
        refine zJ_iload (n := 65) (j := 5) (x := x5) d_ED_proveLookup_63 rfl rfl ?_
        refine zJ_iconst (n := 66) (v := 1) d_ED_proveLookup_65 rfl zci_1 ?_
        refine zJ_iload (n := 68) (j := 7) (x := q49.1) d_ED_proveLookup_66 rfl rfl ?_
        refine zJ_isub (n := 69) d_ED_proveLookup_68 rfl ?_
        obtain ⟨q69, hq69, h⟩ := zbd h
        refine zS_callVi (n := 72) (k0 := 5) (avs := [.int x5, .int ((1 : Int32) - q49.1)]) (rest := [.ref (a 5), .ref (a p1)]) (z := q69) (d' := d - 1) d_ED_proveLookup_69 rfl (vk_ED_269 D tt) rfl rfl rfl (Nat.le_of_ble_eq_true rfl) (by omega) (t_St_partOf (by omega) hq69) ?_
        obtain ⟨q72, hq72, h⟩ := zbd h
        refine zS_callVi (n := 75) (k0 := 5) (avs := [.int q69.1]) (rest := [.ref (a p1)]) (z := q72) (d' := d - 1) d_ED_proveLookup_72 rfl (vk_ED_241 D tt) rfl rfl rfl (Nat.le_of_ble_eq_true rfl) (by omega) (t_St_digestOf (by omega) hq72) ?_
        obtain ⟨q75, hq75, h⟩ := zbd h
        refine zS_callVv (n := 78) (k0 := p1) (avs := [.int q72.1]) (rest := []) (z := q75) (d' := d - 1) d_ED_proveLookup_75 rfl (vk_ED_272 D tt) (zis_Bu_o g_p1) rfl rfl (Nat.le_of_ble_eq_true rfl) (by omega) (t_Bu_append (by omega) hq75) ?_
        refine zJ_aload_n (n := 79) (j := 0) (x := a 0) d_ED_proveLookup_78 rfl rfl rfl ?_
        refine zS_getr (n := 82) (k0 := 0) (j := 2) (q := 5) d_ED_proveLookup_79 rfl (fl_ED_30 D tt) rfl rfl ?_
        refine zJ_iload (n := 84) (j := 5) (x := x5) d_ED_proveLookup_82 rfl rfl ?_
        refine zJ_iload (n := 86) (j := 7) (x := q49.1) d_ED_proveLookup_84 rfl rfl ?_
        obtain ⟨q86, hq86, h⟩ := zbd h
        refine zS_callVi (n := 89) (k0 := 5) (avs := [.int x5, .int q49.1]) (rest := []) (z := q86) (d' := d - 1) d_ED_proveLookup_86 rfl (vk_ED_269 D tt) rfl rfl rfl (Nat.le_of_ble_eq_true rfl) (by omega) (t_St_partOf (by omega) hq86) ?_
        refine zS_istore (n := 91) (j := 5) (x' := q86.1) d_ED_proveLookup_89 rfl (Nat.le_of_ble_eq_true rfl) rfl ?_
        obtain ⟨v91, hv91, h⟩ := zli h
        refine zS_iinc (n := 94) (j := 6) (x := x6) (v := 1) (x' := v91) d_ED_proveLookup_91 rfl rfl zci_1 (Nat.le_of_ble_eq_true rfl) hv91 ?_
        refine zJ_goto (t := 25) d_ED_proveLookup_94 (by decide) ?_
        exact ih _ _ _ _ _ _ _ _ _ h
theorem t_ED_proveLookup {D : va_G} {tt : ClassId × ClassId × ClassId} {a : Nat → Nat} {d N : Nat} (hd : 3 ≤ d) {p1 : Nat} {x2 : Int32} {x3 : Int32} {M : zMem} {z : Int32 × zMem} (h : f_ED_proveLookup N p1 x2 x3 M = some z) : zK (zEn D tt) zshp a mz_ED_proveLookup d [.ref (a 0), .ref (a p1), .int x2, .int x3] M (zRi z) := by
  refine zK.enter (L := [some (.ref (a 0)), some (.ref (a p1)), some (.int x2), some (.int x3), none, none, none, none, none, none]) (by decide) rfl (Nat.le_of_ble_eq_true rfl) rfl ?_
  unfold f_ED_proveLookup at h
  obtain ⟨g_p1, h⟩ := zgd h
  refine zJ_iload_n (n := 1) (j := 2) (x := x2) d_ED_proveLookup_0 rfl rfl rfl ?_
  obtain ⟨q1, hq1, h⟩ := zbd h
  refine zS_callSi (n := 4) (avs := [.int x2]) (rest := []) (z := q1) (d' := d - 1) d_ED_proveLookup_1 rfl (sk_ED_253 D tt) rfl rfl (Nat.le_of_ble_eq_true rfl) (by omega) (t_ED_indexOf (by omega) hq1) ?_
  refine zS_istore (n := 6) (j := 4) (x' := q1.1) d_ED_proveLookup_4 rfl (Nat.le_of_ble_eq_true rfl) rfl ?_
  refine zJ_aload_n (n := 7) (j := 0) (x := a 0) d_ED_proveLookup_6 rfl rfl rfl ?_
  refine zS_getr (n := 10) (k0 := 0) (j := 4) (q := 18) d_ED_proveLookup_7 rfl (fl_ED_44 D tt) rfl rfl ?_
  refine zS_getr (n := 13) (k0 := 18) (j := 1) (q := 19) d_ED_proveLookup_10 rfl (fl_ED_256 D tt) rfl rfl ?_
  refine zJ_iload_n (n := 14) (j := 3) (x := x3) d_ED_proveLookup_13 rfl rfl rfl ?_
  obtain ⟨g14, h⟩ := zgd h
  refine zS_iald (n := 15) (k0 := 19) d_ED_proveLookup_14 rfl rfl rfl rfl g14 ?_
  obtain ⟨v15, hv15, h⟩ := zli h
  refine zS_istore (n := 17) (j := 5) (x' := v15) d_ED_proveLookup_15 rfl (Nat.le_of_ble_eq_true rfl) hv15 ?_
  refine zJ_iconst (n := 18) (v := 0) d_ED_proveLookup_17 rfl zci_0 ?_
  refine zS_istore (n := 20) (j := 6) (x' := (0 : Int32)) d_ED_proveLookup_18 rfl (Nat.le_of_ble_eq_true rfl) rfl ?_
  refine zJ_aload_n (n := 21) (j := 1) (x := a p1) d_ED_proveLookup_20 rfl rfl rfl ?_
  refine zJ_iconst (n := 22) (v := 3) d_ED_proveLookup_21 rfl zci_3 ?_
  obtain ⟨q22, hq22, h⟩ := zbd h
  refine zS_callVv (n := 25) (k0 := p1) (avs := [.int (3 : Int32)]) (rest := []) (z := q22) (d' := d - 1) d_ED_proveLookup_22 rfl (vk_ED_259 D tt) (zis_Bu_o g_p1) rfl rfl (Nat.le_of_ble_eq_true rfl) (by omega) (t_Bu_startWith (by omega) hq22) ?_
  exact t_ED_proveLookup_l25 hd g_p1 N _ _ _ _ _ _ _ _ _ h
theorem t_Wy_greatestPowerBelow_l3 {D : va_G} {tt : ClassId × ClassId × ClassId} {a : Nat → Nat} {d N : Nat} (hd : 0 ≤ d) {z : Int32 × zMem} : ∀ (n : Nat), ∀ (x0 x1 : Int32) (M : zMem), f_Wy_greatestPowerBelow_l3 N n x0 x1 M = some z → zS (zEn D tt) zshp a mz_Wy_greatestPowerBelow d zTr (zFs (zEn D tt) zshp a (zRi z)) 3 [some (.int x0), some (.int x1)] [] M := by
  intro n
  induction n with
  | zero =>
    intro x0 x1 M h
    rw [f_Wy_greatestPowerBelow_l3] at h
    cases h
  | succ n ih =>
    intro x0 x1 M h
    rw [f_Wy_greatestPowerBelow_l3] at h
    refine zJ_iload_n (n := 4) (j := 1) (x := x1) d_Wy_greatestPowerBelow_3 rfl rfl rfl ?_
    refine zJ_iconst (n := 5) (v := 1) d_Wy_greatestPowerBelow_4 rfl zci_1 ?_
    refine zJ_icmp_le (t := 22) (n := 8) d_Wy_greatestPowerBelow_5 (by decide) rfl (fun hc => ?_) (fun hc => ?_)
    · rw [if_pos hc] at h
      refine zJ_iconst (n := 23) (v := 1) d_Wy_greatestPowerBelow_22 rfl zci_1 ?_
      cases h
      exact zS_ireturn d_Wy_greatestPowerBelow_23 rfl rfl ⟨rfl, rfl⟩
    · rw [if_neg hc] at h
      refine zJ_iload_n (n := 9) (j := 1) (x := x1) d_Wy_greatestPowerBelow_8 rfl rfl rfl ?_
      refine zJ_iload_n (n := 10) (j := 0) (x := x0) d_Wy_greatestPowerBelow_9 rfl rfl rfl ?_
      refine zJ_icmp_ge (t := 15) (n := 13) d_Wy_greatestPowerBelow_10 (by decide) rfl (fun hc => ?_) (fun hc => ?_)
      · rw [if_pos hc] at h
        refine zJ_iload_n (n := 16) (j := 1) (x := x1) d_Wy_greatestPowerBelow_15 rfl rfl rfl ?_
        refine zJ_iconst (n := 17) (v := 2) d_Wy_greatestPowerBelow_16 rfl zci_2 ?_
        refine zJ_idiv (n := 18) d_Wy_greatestPowerBelow_17 rfl (by decide) ?_
        obtain ⟨v18, hv18, h⟩ := zli h
        refine zS_istore_n (n := 19) (j := 1) (x' := v18) d_Wy_greatestPowerBelow_18 rfl rfl (Nat.le_of_ble_eq_true rfl) hv18 ?_
        refine zJ_goto (t := 3) d_Wy_greatestPowerBelow_19 (by decide) ?_
        exact ih _ _ _ h
      · rw [if_neg hc] at h
        refine zJ_iload_n (n := 14) (j := 1) (x := x1) d_Wy_greatestPowerBelow_13 rfl rfl rfl ?_
        cases h
        exact zS_ireturn d_Wy_greatestPowerBelow_14 rfl rfl ⟨rfl, rfl⟩
theorem t_Wy_greatestPowerBelow {D : va_G} {tt : ClassId × ClassId × ClassId} {a : Nat → Nat} {d N : Nat} (hd : 0 ≤ d) {x0 : Int32} {M : zMem} {z : Int32 × zMem} (h : f_Wy_greatestPowerBelow N x0 M = some z) : zK (zEn D tt) zshp a mz_Wy_greatestPowerBelow d [.int x0] M (zRi z) := by
  refine zK.enter (L := [some (.int x0), none]) (by decide) rfl (Nat.le_of_ble_eq_true rfl) rfl ?_
  unfold f_Wy_greatestPowerBelow at h
  refine zJ_bipush (n := 2) (v := 32) d_Wy_greatestPowerBelow_0 rfl zcb_32 ?_
  refine zS_istore_n (n := 3) (j := 1) (x' := (32 : Int32)) d_Wy_greatestPowerBelow_2 rfl rfl (Nat.le_of_ble_eq_true rfl) rfl ?_
  exact t_Wy_greatestPowerBelow_l3 hd N _ _ _ h
theorem t_Wy_go_b159 {D : va_G} {tt : ClassId × ClassId × ClassId} {a : Nat → Nat} {d N : Nat} (hd : 1 ≤ d) {z : Int32 × zMem} {t : Nat} (g_t : zis_Wy t = true) {k17 : Int32 → Int32 → zMem → Option (Int32 × zMem)} (hk17 : ∀ (x1 x3 : Int32) (o2 o4 o5 : Option Value) (M : zMem), k17 x1 x3 M = some z → zS (zEn D tt) zshp a mz_Wy_go d zTr (zFs (zEn D tt) zshp a (zRv z)) 17 [some (.ref (a t)), some (.int x1), o2, some (.int x3), o4, o5] [] M) {x1 : Int32} {x3 : Int32} {s1 : Int32} {o2 : Option Value} {o4 : Option Value} {o5 : Option Value} {M : zMem} (h : f_Wy_go_b159 N k17 t x1 x3 s1 M = some z) : zS (zEn D tt) zshp a mz_Wy_go d zTr (zFs (zEn D tt) zshp a (zRv z)) 159 [some (.ref (a t)), some (.int x1), o2, some (.int x3), o4, o5] [.int s1, .ref (a t)] M := by
  unfold f_Wy_go_b159 at h
  obtain ⟨M159, hM159, h⟩ := zli h
  refine zS_putN (n := 162) (k0 := t) (j := 4) d_Wy_go_159 rfl (fl_Wy_20 D tt) zty_Wy rfl (zis_Wy_o g_t) rfl rfl rfl hM159 ?_
  refine zJ_aload_n (n := 163) (j := 0) (x := a t) d_Wy_go_162 rfl rfl rfl ?_
  refine zJ_dup (n := 164) d_Wy_go_163 rfl rfl ?_
  refine zS_geti (n := 167) (k0 := t) (j := 2) d_Wy_go_164 rfl (fl_Wy_23 D tt) (zis_Wy_o g_t) rfl ?_
  refine zJ_iconst (n := 168) (v := 1) d_Wy_go_167 rfl zci_1 ?_
  refine zJ_iadd (n := 169) d_Wy_go_168 rfl ?_
  obtain ⟨M169, hM169, h⟩ := zli h
  refine zS_putN (n := 172) (k0 := t) (j := 2) d_Wy_go_169 rfl (fl_Wy_23 D tt) zty_Wy rfl (zis_Wy_o g_t) rfl rfl rfl hM169 ?_
  refine zJ_goto (t := 17) d_Wy_go_172 (by decide) ?_
  exact hk17 _ _ _ _ _ _ h
theorem t_Wy_go_b141 {D : va_G} {tt : ClassId × ClassId × ClassId} {a : Nat → Nat} {d N : Nat} (hd : 1 ≤ d) {z : Int32 × zMem} {t : Nat} (g_t : zis_Wy t = true) {k17 : Int32 → Int32 → zMem → Option (Int32 × zMem)} (hk17 : ∀ (x1 x3 : Int32) (o2 o4 o5 : Option Value) (M : zMem), k17 x1 x3 M = some z → zS (zEn D tt) zshp a mz_Wy_go d zTr (zFs (zEn D tt) zshp a (zRv z)) 17 [some (.ref (a t)), some (.int x1), o2, some (.int x3), o4, o5] [] M) {x1 : Int32} {x3 : Int32} {x4 : Int32} {x5 : Int32} {s1 : Int32} {o2 : Option Value} {M : zMem} (h : f_Wy_go_b141 N k17 t x1 x3 x4 x5 s1 M = some z) : zS (zEn D tt) zshp a mz_Wy_go d zTr (zFs (zEn D tt) zshp a (zRv z)) 141 [some (.ref (a t)), some (.int x1), o2, some (.int x3), some (.int x4), some (.int x5)] [.int s1, .ref (a t)] M := by
  unfold f_Wy_go_b141 at h
  obtain ⟨M141, hM141, h⟩ := zli h
  refine zS_putN (n := 144) (k0 := t) (j := 3) d_Wy_go_141 rfl (fl_Wy_16 D tt) zty_Wy rfl (zis_Wy_o g_t) rfl rfl rfl hM141 ?_
  refine zJ_aload_n (n := 145) (j := 0) (x := a t) d_Wy_go_144 rfl rfl rfl ?_
  refine zJ_iload (n := 147) (j := 5) (x := x5) d_Wy_go_145 rfl rfl ?_
  refine zJ_if_eq (t := 155) (n := 150) d_Wy_go_147 (by decide) rfl (fun hc => ?_) (fun hc => ?_)
  · rw [if_pos hc] at h
    refine zJ_aload_n (n := 156) (j := 0) (x := a t) d_Wy_go_155 rfl rfl rfl ?_
    refine zS_geti (n := 159) (k0 := t) (j := 4) d_Wy_go_156 rfl (fl_Wy_20 D tt) (zis_Wy_o g_t) rfl ?_
    exact t_Wy_go_b159 hd g_t hk17 h
  · rw [if_neg hc] at h
    refine zJ_iload (n := 152) (j := 4) (x := x4) d_Wy_go_150 rfl rfl ?_
    refine zJ_goto (t := 159) d_Wy_go_152 (by decide) ?_
    exact t_Wy_go_b159 hd g_t hk17 h
theorem t_Wy_go_b125 {D : va_G} {tt : ClassId × ClassId × ClassId} {a : Nat → Nat} {d N : Nat} (hd : 1 ≤ d) {z : Int32 × zMem} {t : Nat} (g_t : zis_Wy t = true) {k17 : Int32 → Int32 → zMem → Option (Int32 × zMem)} (hk17 : ∀ (x1 x3 : Int32) (o2 o4 o5 : Option Value) (M : zMem), k17 x1 x3 M = some z → zS (zEn D tt) zshp a mz_Wy_go d zTr (zFs (zEn D tt) zshp a (zRv z)) 17 [some (.ref (a t)), some (.int x1), o2, some (.int x3), o4, o5] [] M) {x1 : Int32} {x3 : Int32} {x4 : Int32} {x5 : Int32} {s1 : Int32} {s2 : Int32} {o2 : Option Value} {M : zMem} (h : f_Wy_go_b125 N k17 t x1 x3 x4 x5 s1 s2 M = some z) : zS (zEn D tt) zshp a mz_Wy_go d zTr (zFs (zEn D tt) zshp a (zRv z)) 125 [some (.ref (a t)), some (.int x1), o2, some (.int x3), some (.int x4), some (.int x5)] [.int s2, .int s1, .ref (a (t + 2))] M := by
  unfold f_Wy_go_b125 at h
  obtain ⟨g125, h⟩ := zgd h
  obtain ⟨M125, hM125, h⟩ := zli h
  refine zS_iastN (n := 126) (k0 := t + 2) d_Wy_go_125 rfl (zis_Wy_2 g_t) rfl rfl g125 hM125 ?_
  refine zJ_aload_n (n := 127) (j := 0) (x := a t) d_Wy_go_126 rfl rfl rfl ?_
  refine zJ_iload (n := 129) (j := 5) (x := x5) d_Wy_go_127 rfl rfl ?_
  refine zJ_if_eq (t := 139) (n := 132) d_Wy_go_129 (by decide) rfl (fun hc => ?_) (fun hc => ?_)
  · rw [if_pos hc] at h
    refine zJ_iload (n := 141) (j := 4) (x := x4) d_Wy_go_139 rfl rfl ?_
    exact t_Wy_go_b141 hd g_t hk17 h
  · rw [if_neg hc] at h
    refine zJ_aload_n (n := 133) (j := 0) (x := a t) d_Wy_go_132 rfl rfl rfl ?_
    refine zS_geti (n := 136) (k0 := t) (j := 3) d_Wy_go_133 rfl (fl_Wy_16 D tt) (zis_Wy_o g_t) rfl ?_
    refine zJ_goto (t := 141) d_Wy_go_136 (by decide) ?_
    exact t_Wy_go_b141 hd g_t hk17 h
theorem t_Wy_go_b102 {D : va_G} {tt : ClassId × ClassId × ClassId} {a : Nat → Nat} {d N : Nat} (hd : 1 ≤ d) {z : Int32 × zMem} {t : Nat} (g_t : zis_Wy t = true) {k17 : Int32 → Int32 → zMem → Option (Int32 × zMem)} (hk17 : ∀ (x1 x3 : Int32) (o2 o4 o5 : Option Value) (M : zMem), k17 x1 x3 M = some z → zS (zEn D tt) zshp a mz_Wy_go d zTr (zFs (zEn D tt) zshp a (zRv z)) 17 [some (.ref (a t)), some (.int x1), o2, some (.int x3), o4, o5] [] M) {x1 : Int32} {x3 : Int32} {x4 : Int32} {x5 : Int32} {s1 : Int32} {s2 : Int32} {o2 : Option Value} {M : zMem} (h : f_Wy_go_b102 N k17 t x1 x3 x4 x5 s1 s2 M = some z) : zS (zEn D tt) zshp a mz_Wy_go d zTr (zFs (zEn D tt) zshp a (zRv z)) 102 [some (.ref (a t)), some (.int x1), o2, some (.int x3), some (.int x4), some (.int x5)] [.int s2, .int s1, .ref (a (t + 1))] M := by
  unfold f_Wy_go_b102 at h
  obtain ⟨g102, h⟩ := zgd h
  obtain ⟨M102, hM102, h⟩ := zli h
  refine zS_iastN (n := 103) (k0 := t + 1) d_Wy_go_102 rfl (zis_Wy_1 g_t) rfl rfl g102 hM102 ?_
  refine zJ_aload_n (n := 104) (j := 0) (x := a t) d_Wy_go_103 rfl rfl rfl ?_
  refine zS_getr (n := 107) (k0 := t) (j := 1) (q := t + 2) d_Wy_go_104 rfl (fl_Wy_13 D tt) (zis_Wy_o g_t) rfl ?_
  refine zJ_aload_n (n := 108) (j := 0) (x := a t) d_Wy_go_107 rfl rfl rfl ?_
  refine zS_geti (n := 111) (k0 := t) (j := 2) d_Wy_go_108 rfl (fl_Wy_23 D tt) (zis_Wy_o g_t) rfl ?_
  refine zJ_iload (n := 113) (j := 5) (x := x5) d_Wy_go_111 rfl rfl ?_
  refine zJ_if_eq (t := 123) (n := 116) d_Wy_go_113 (by decide) rfl (fun hc => ?_) (fun hc => ?_)
  · rw [if_pos hc] at h
    refine zJ_iload (n := 125) (j := 4) (x := x4) d_Wy_go_123 rfl rfl ?_
    exact t_Wy_go_b125 hd g_t hk17 h
  · rw [if_neg hc] at h
    refine zJ_aload_n (n := 117) (j := 0) (x := a t) d_Wy_go_116 rfl rfl rfl ?_
    refine zS_geti (n := 120) (k0 := t) (j := 4) d_Wy_go_117 rfl (fl_Wy_20 D tt) (zis_Wy_o g_t) rfl ?_
    refine zJ_goto (t := 125) d_Wy_go_120 (by decide) ?_
    exact t_Wy_go_b125 hd g_t hk17 h
theorem t_Wy_go_b78 {D : va_G} {tt : ClassId × ClassId × ClassId} {a : Nat → Nat} {d N : Nat} (hd : 1 ≤ d) {z : Int32 × zMem} {t : Nat} (g_t : zis_Wy t = true) {k17 : Int32 → Int32 → zMem → Option (Int32 × zMem)} (hk17 : ∀ (x1 x3 : Int32) (o2 o4 o5 : Option Value) (M : zMem), k17 x1 x3 M = some z → zS (zEn D tt) zshp a mz_Wy_go d zTr (zFs (zEn D tt) zshp a (zRv z)) 17 [some (.ref (a t)), some (.int x1), o2, some (.int x3), o4, o5] [] M) {x1 : Int32} {x3 : Int32} {x4 : Int32} {s0 : Int32} {o2 : Option Value} {o5 : Option Value} {M : zMem} (h : f_Wy_go_b78 N k17 t x1 x3 x4 s0 M = some z) : zS (zEn D tt) zshp a mz_Wy_go d zTr (zFs (zEn D tt) zshp a (zRv z)) 78 [some (.ref (a t)), some (.int x1), o2, some (.int x3), some (.int x4), o5] [.int s0] M := by
  unfold f_Wy_go_b78 at h
  refine zS_istore (n := 80) (j := 5) (x' := s0) d_Wy_go_78 rfl (Nat.le_of_ble_eq_true rfl) rfl ?_
  refine zJ_aload_n (n := 81) (j := 0) (x := a t) d_Wy_go_80 rfl rfl rfl ?_
  refine zS_getr (n := 84) (k0 := t) (j := 0) (q := t + 1) d_Wy_go_81 rfl (fl_Wy_9 D tt) (zis_Wy_o g_t) rfl ?_
  refine zJ_aload_n (n := 85) (j := 0) (x := a t) d_Wy_go_84 rfl rfl rfl ?_
  refine zS_geti (n := 88) (k0 := t) (j := 2) d_Wy_go_85 rfl (fl_Wy_23 D tt) (zis_Wy_o g_t) rfl ?_
  refine zJ_iload (n := 90) (j := 5) (x := s0) d_Wy_go_88 rfl rfl ?_
  refine zJ_if_eq (t := 98) (n := 93) d_Wy_go_90 (by decide) rfl (fun hc => ?_) (fun hc => ?_)
  · rw [if_pos hc] at h
    refine zJ_aload_n (n := 99) (j := 0) (x := a t) d_Wy_go_98 rfl rfl rfl ?_
    refine zS_geti (n := 102) (k0 := t) (j := 3) d_Wy_go_99 rfl (fl_Wy_16 D tt) (zis_Wy_o g_t) rfl ?_
    exact t_Wy_go_b102 hd g_t hk17 h
  · rw [if_neg hc] at h
    refine zJ_iload (n := 95) (j := 4) (x := x4) d_Wy_go_93 rfl rfl ?_
    refine zJ_goto (t := 102) d_Wy_go_95 (by decide) ?_
    exact t_Wy_go_b102 hd g_t hk17 h
theorem t_Wy_go_b48 {D : va_G} {tt : ClassId × ClassId × ClassId} {a : Nat → Nat} {d N : Nat} (hd : 1 ≤ d) {z : Int32 × zMem} {t : Nat} (g_t : zis_Wy t = true) {k17 : Int32 → Int32 → zMem → Option (Int32 × zMem)} (hk17 : ∀ (x1 x3 : Int32) (o2 o4 o5 : Option Value) (M : zMem), k17 x1 x3 M = some z → zS (zEn D tt) zshp a mz_Wy_go d zTr (zFs (zEn D tt) zshp a (zRv z)) 17 [some (.ref (a t)), some (.int x1), o2, some (.int x3), o4, o5] [] M) {x1 : Int32} {x3 : Int32} {o2 : Option Value} {o4 : Option Value} {o5 : Option Value} {M : zMem} (h : f_Wy_go_b48 N k17 t x1 x3 M = some z) : zS (zEn D tt) zshp a mz_Wy_go d zTr (zFs (zEn D tt) zshp a (zRv z)) 48 [some (.ref (a t)), some (.int x1), o2, some (.int x3), o4, o5] [] M := by
  unfold f_Wy_go_b48 at h
  refine zJ_aload_n (n := 49) (j := 0) (x := a t) d_Wy_go_48 rfl rfl rfl ?_
  refine zS_geti (n := 52) (k0 := t) (j := 3) d_Wy_go_49 rfl (fl_Wy_16 D tt) (zis_Wy_o g_t) rfl ?_
  refine zJ_aload_n (n := 53) (j := 0) (x := a t) d_Wy_go_52 rfl rfl rfl ?_
  refine zS_geti (n := 56) (k0 := t) (j := 4) d_Wy_go_53 rfl (fl_Wy_20 D tt) (zis_Wy_o g_t) rfl ?_
  refine zJ_aload_n (n := 57) (j := 0) (x := a t) d_Wy_go_56 rfl rfl rfl ?_
  refine zS_geti (n := 60) (k0 := t) (j := 3) d_Wy_go_57 rfl (fl_Wy_16 D tt) (zis_Wy_o g_t) rfl ?_
  refine zJ_isub (n := 61) d_Wy_go_60 rfl ?_
  obtain ⟨q61, hq61, h⟩ := zbd h
  refine zS_callSi (n := 64) (avs := [.int ((M t 4) - (M t 3))]) (rest := [.int (M t 3)]) (z := q61) (d' := d - 1) d_Wy_go_61 rfl (sk_Wy_26 D tt) rfl rfl (Nat.le_of_ble_eq_true rfl) (by omega) (t_Wy_greatestPowerBelow (by omega) hq61) ?_
  refine zJ_iadd (n := 65) d_Wy_go_64 rfl ?_
  obtain ⟨v65, hv65, h⟩ := zli h
  refine zS_istore (n := 67) (j := 4) (x' := v65) d_Wy_go_65 rfl (Nat.le_of_ble_eq_true rfl) hv65 ?_
  refine zJ_iload_n (n := 68) (j := 1) (x := x1) d_Wy_go_67 rfl rfl rfl ?_
  refine zJ_iload (n := 70) (j := 4) (x := v65) d_Wy_go_68 rfl rfl ?_
  refine zJ_icmp_ge (t := 77) (n := 73) d_Wy_go_70 (by decide) rfl (fun hc => ?_) (fun hc => ?_)
  · rw [if_pos hc] at h
    refine zJ_iconst (n := 78) (v := 0) d_Wy_go_77 rfl zci_0 ?_
    exact t_Wy_go_b78 hd g_t hk17 h
  · rw [if_neg hc] at h
    refine zJ_iconst (n := 74) (v := 1) d_Wy_go_73 rfl zci_1 ?_
    refine zJ_goto (t := 78) d_Wy_go_74 (by decide) ?_
    exact t_Wy_go_b78 hd g_t hk17 h
theorem t_Wy_go_l17 {D : va_G} {tt : ClassId × ClassId × ClassId} {a : Nat → Nat} {d N : Nat} (hd : 1 ≤ d) {z : Int32 × zMem} {t : Nat} (g_t : zis_Wy t = true) : ∀ (n : Nat), ∀ (x1 x3 : Int32) (o2 o4 o5 : Option Value) (M : zMem), f_Wy_go_l17 N t n x1 x3 M = some z → zS (zEn D tt) zshp a mz_Wy_go d zTr (zFs (zEn D tt) zshp a (zRv z)) 17 [some (.ref (a t)), some (.int x1), o2, some (.int x3), o4, o5] [] M := by
  intro n
  induction n with
  | zero =>
    intro x1 x3 o2 o4 o5 M h
    rw [f_Wy_go_l17] at h
    cases h
  | succ n ih =>
    intro x1 x3 o2 o4 o5 M h
    rw [f_Wy_go_l17] at h
    refine zJ_aload_n (n := 18) (j := 0) (x := a t) d_Wy_go_17 rfl rfl rfl ?_
    refine zS_geti (n := 21) (k0 := t) (j := 2) d_Wy_go_18 rfl (fl_Wy_23 D tt) (zis_Wy_o g_t) rfl ?_
    refine zJ_bipush (n := 23) (v := 6) d_Wy_go_21 rfl zcb_6 ?_
    refine zJ_icmp_ge (t := 175) (n := 26) d_Wy_go_23 (by decide) rfl (fun hc => ?_) (fun hc => ?_)
    · rw [if_pos hc] at h
      cases h
      exact zS_return d_Wy_go_175 rfl ⟨rfl, rfl⟩
    · rw [if_neg hc] at h
      refine zJ_aload_n (n := 27) (j := 0) (x := a t) d_Wy_go_26 rfl rfl rfl ?_
      refine zS_geti (n := 30) (k0 := t) (j := 4) d_Wy_go_27 rfl (fl_Wy_20 D tt) (zis_Wy_o g_t) rfl ?_
      refine zJ_iconst (n := 31) (v := 1) d_Wy_go_30 rfl zci_1 ?_
      refine zJ_isub (n := 32) d_Wy_go_31 rfl ?_
      refine zJ_iload_n (n := 33) (j := 1) (x := x1) d_Wy_go_32 rfl rfl rfl ?_
      refine zJ_icmp_gt (t := 48) (n := 36) d_Wy_go_33 (by decide) rfl (fun hc => ?_) (fun hc => ?_)
      · rw [if_pos hc] at h
        exact t_Wy_go_b48 hd g_t ih h
      · rw [if_neg hc] at h
        refine zJ_iload_n (n := 37) (j := 3) (x := x3) d_Wy_go_36 rfl rfl rfl ?_
        refine zJ_if_eq (t := 175) (n := 40) d_Wy_go_37 (by decide) rfl (fun hc => ?_) (fun hc => ?_)
        · rw [if_pos hc] at h
          cases h
          exact zS_return d_Wy_go_175 rfl ⟨rfl, rfl⟩
        · rw [if_neg hc] at h
          refine zJ_aload_n (n := 41) (j := 0) (x := a t) d_Wy_go_40 rfl rfl rfl ?_
          refine zS_geti (n := 44) (k0 := t) (j := 3) d_Wy_go_41 rfl (fl_Wy_16 D tt) (zis_Wy_o g_t) rfl ?_
          refine zJ_iload_n (n := 45) (j := 1) (x := x1) d_Wy_go_44 rfl rfl rfl ?_
          refine zJ_icmp_ge (t := 175) (n := 48) d_Wy_go_45 (by decide) rfl (fun hc => ?_) (fun hc => ?_)
          · rw [if_pos hc] at h
            cases h
            exact zS_return d_Wy_go_175 rfl ⟨rfl, rfl⟩
          · rw [if_neg hc] at h
            exact t_Wy_go_b48 hd g_t ih h
theorem t_Wy_go {D : va_G} {tt : ClassId × ClassId × ClassId} {a : Nat → Nat} {d N : Nat} (hd : 1 ≤ d) {t : Nat} {x1 : Int32} {x2 : Int32} {x3 : Int32} {M : zMem} {z : Int32 × zMem} (h : f_Wy_go N t x1 x2 x3 M = some z) : zK (zEn D tt) zshp a mz_Wy_go d [.ref (a t), .int x1, .int x2, .int x3] M (zRv z) := by
  refine zK.enter (L := [some (.ref (a t)), some (.int x1), some (.int x2), some (.int x3), none, none]) (by decide) rfl (Nat.le_of_ble_eq_true rfl) rfl ?_
  unfold f_Wy_go at h
  obtain ⟨g_t, h⟩ := zgd h
  refine zJ_aload_n (n := 1) (j := 0) (x := a t) d_Wy_go_0 rfl rfl rfl ?_
  refine zJ_iconst (n := 2) (v := 0) d_Wy_go_1 rfl zci_0 ?_
  obtain ⟨M2, hM2, h⟩ := zli h
  refine zS_putN (n := 5) (k0 := t) (j := 3) d_Wy_go_2 rfl (fl_Wy_16 D tt) zty_Wy rfl (zis_Wy_o g_t) rfl rfl rfl hM2 ?_
  refine zJ_aload_n (n := 6) (j := 0) (x := a t) d_Wy_go_5 rfl rfl rfl ?_
  refine zJ_iload_n (n := 7) (j := 2) (x := x2) d_Wy_go_6 rfl rfl rfl ?_
  refine zJ_iconst (n := 8) (v := 1) d_Wy_go_7 rfl zci_1 ?_
  refine zJ_iadd (n := 9) d_Wy_go_8 rfl ?_
  obtain ⟨M9, hM9, h⟩ := zli h
  refine zS_putN (n := 12) (k0 := t) (j := 4) d_Wy_go_9 rfl (fl_Wy_20 D tt) zty_Wy rfl (zis_Wy_o g_t) rfl rfl rfl hM9 ?_
  refine zJ_aload_n (n := 13) (j := 0) (x := a t) d_Wy_go_12 rfl rfl rfl ?_
  refine zJ_iconst (n := 14) (v := 0) d_Wy_go_13 rfl zci_0 ?_
  obtain ⟨M14, hM14, h⟩ := zli h
  refine zS_putN (n := 17) (k0 := t) (j := 2) d_Wy_go_14 rfl (fl_Wy_23 D tt) zty_Wy rfl (zis_Wy_o g_t) rfl rfl rfl hM14 ?_
  exact t_Wy_go_l17 hd g_t N _ _ _ _ _ _ h
theorem t_ED_proveHistory_l76 {D : va_G} {tt : ClassId × ClassId × ClassId} {a : Nat → Nat} {d N : Nat} (hd : 3 ≤ d) {z : Int32 × zMem} {p1 : Nat} (g_p1 : zis_Bu p1 = true) : ∀ (n : Nat), ∀ (x5 : Int32) (o2 o3 o4 : Option Value) (M : zMem), f_ED_proveHistory_l76 N p1 n x5 M = some z → zS (zEn D tt) zshp a mz_ED_proveHistory d zTr (zFs (zEn D tt) zshp a (zRi z)) 76 [some (.ref (a 0)), some (.ref (a p1)), o2, o3, o4, some (.int x5)] [] M := by
  intro n
  induction n with
  | zero =>
    intro x5 o2 o3 o4 M h
    rw [f_ED_proveHistory_l76] at h
    cases h
  | succ n ih =>
    intro x5 o2 o3 o4 M h
    rw [f_ED_proveHistory_l76] at h
    refine zJ_iload (n := 78) (j := 5) (x := x5) d_ED_proveHistory_76 rfl rfl ?_
    refine zJ_if_lt (t := 118) (n := 81) d_ED_proveHistory_78 (by decide) rfl (fun hc => ?_) (fun hc => ?_)
    · rw [if_pos hc] at h
      refine zJ_aload_n (n := 119) (j := 0) (x := a 0) d_ED_proveHistory_118 rfl rfl rfl ?_
      refine zJ_aload_n (n := 120) (j := 1) (x := a p1) d_ED_proveHistory_119 rfl rfl rfl ?_
      refine zS_geti (n := 123) (k0 := p1) (j := 1) d_ED_proveHistory_120 rfl (fl_ED_178 D tt) (zis_Bu_o g_p1) rfl ?_
      obtain ⟨M123, hM123, h⟩ := zli h
      refine zS_putN (n := 126) (k0 := 0) (j := 13) d_ED_proveHistory_123 rfl (fl_ED_160 D tt) zty_ED rfl rfl rfl rfl rfl hM123 ?_
      refine zJ_aload_n (n := 127) (j := 1) (x := a p1) d_ED_proveHistory_126 rfl rfl rfl ?_
      refine zS_geti (n := 130) (k0 := p1) (j := 1) d_ED_proveHistory_127 rfl (fl_ED_178 D tt) (zis_Bu_o g_p1) rfl ?_
      cases h
      exact zS_ireturn d_ED_proveHistory_130 rfl rfl ⟨rfl, rfl⟩
    · rw [if_neg hc] at h
      refine zJ_aload_n (n := 82) (j := 1) (x := a p1) d_ED_proveHistory_81 rfl rfl rfl ?_
      refine zJ_aload_n (n := 83) (j := 0) (x := a 0) d_ED_proveHistory_82 rfl rfl rfl ?_
      refine zS_getr (n := 86) (k0 := 0) (j := 4) (q := 18) d_ED_proveHistory_83 rfl (fl_ED_44 D tt) rfl rfl ?_
      refine zJ_aload_n (n := 87) (j := 0) (x := a 0) d_ED_proveHistory_86 rfl rfl rfl ?_
      refine zS_getr (n := 90) (k0 := 0) (j := 5) (q := 24) d_ED_proveHistory_87 rfl (fl_ED_51 D tt) rfl rfl ?_
      refine zS_getr (n := 93) (k0 := 24) (j := 0) (q := 25) d_ED_proveHistory_90 rfl (fl_ED_289 D tt) rfl rfl ?_
      refine zJ_iload (n := 95) (j := 5) (x := x5) d_ED_proveHistory_93 rfl rfl ?_
      obtain ⟨g95, h⟩ := zgd h
      refine zS_iald (n := 96) (k0 := 25) d_ED_proveHistory_95 rfl rfl rfl rfl g95 ?_
      refine zJ_aload_n (n := 97) (j := 0) (x := a 0) d_ED_proveHistory_96 rfl rfl rfl ?_
      refine zS_getr (n := 100) (k0 := 0) (j := 5) (q := 24) d_ED_proveHistory_97 rfl (fl_ED_51 D tt) rfl rfl ?_
      refine zS_getr (n := 103) (k0 := 24) (j := 1) (q := 26) d_ED_proveHistory_100 rfl (fl_ED_292 D tt) rfl rfl ?_
      refine zJ_iload (n := 105) (j := 5) (x := x5) d_ED_proveHistory_103 rfl rfl ?_
      obtain ⟨g105, h⟩ := zgd h
      refine zS_iald (n := 106) (k0 := 26) d_ED_proveHistory_105 rfl rfl rfl rfl g105 ?_
      obtain ⟨q106, hq106, h⟩ := zbd h
      refine zS_callVi (n := 109) (k0 := 18) (avs := [.int (M 25 x5.toNatClampNeg), .int (M 26 x5.toNatClampNeg)]) (rest := [.ref (a p1)]) (z := q106) (d' := d - 1) d_ED_proveHistory_106 rfl (vk_ED_285 D tt) rfl rfl rfl (Nat.le_of_ble_eq_true rfl) (by omega) (t_Hi_rowDigest (by omega) hq106) ?_
      obtain ⟨q109, hq109, h⟩ := zbd h
      refine zS_callVv (n := 112) (k0 := p1) (avs := [.int q106.1]) (rest := []) (z := q109) (d' := d - 1) d_ED_proveHistory_109 rfl (vk_ED_272 D tt) (zis_Bu_o g_p1) rfl rfl (Nat.le_of_ble_eq_true rfl) (by omega) (t_Bu_append (by omega) hq109) ?_
      obtain ⟨v112, hv112, h⟩ := zli h
      refine zS_iinc (n := 115) (j := 5) (x := x5) (v := -1) (x' := v112) d_ED_proveHistory_112 rfl rfl zci_m1 (Nat.le_of_ble_eq_true rfl) hv112 ?_
      refine zJ_goto (t := 76) d_ED_proveHistory_115 (by decide) ?_
      exact ih _ _ _ _ _ h
theorem t_ED_proveHistory_b65 {D : va_G} {tt : ClassId × ClassId × ClassId} {a : Nat → Nat} {d N : Nat} (hd : 3 ≤ d) {z : Int32 × zMem} {p1 : Nat} (g_p1 : zis_Bu p1 = true) {o2 : Option Value} {o3 : Option Value} {o4 : Option Value} {o5 : Option Value} {M : zMem} (h : f_ED_proveHistory_b65 N p1 M = some z) : zS (zEn D tt) zshp a mz_ED_proveHistory d zTr (zFs (zEn D tt) zshp a (zRi z)) 65 [some (.ref (a 0)), some (.ref (a p1)), o2, o3, o4, o5] [] M := by
  unfold f_ED_proveHistory_b65 at h
  refine zJ_aload_n (n := 66) (j := 0) (x := a 0) d_ED_proveHistory_65 rfl rfl rfl ?_
  refine zS_getr (n := 69) (k0 := 0) (j := 5) (q := 24) d_ED_proveHistory_66 rfl (fl_ED_51 D tt) rfl rfl ?_
  refine zS_geti (n := 72) (k0 := 24) (j := 2) d_ED_proveHistory_69 rfl (fl_ED_288 D tt) rfl rfl ?_
  refine zJ_iconst (n := 73) (v := 1) d_ED_proveHistory_72 rfl zci_1 ?_
  refine zJ_isub (n := 74) d_ED_proveHistory_73 rfl ?_
  obtain ⟨v74, hv74, h⟩ := zli h
  refine zS_istore (n := 76) (j := 5) (x' := v74) d_ED_proveHistory_74 rfl (Nat.le_of_ble_eq_true rfl) hv74 ?_
  exact t_ED_proveHistory_l76 hd g_p1 N _ _ _ _ _ h
theorem t_ED_proveHistory_b17 {D : va_G} {tt : ClassId × ClassId × ClassId} {a : Nat → Nat} {d N : Nat} (hd : 3 ≤ d) {z : Int32 × zMem} {p1 : Nat} (g_p1 : zis_Bu p1 = true) {x2 : Int32} {s1 : Int32} {s2 : Int32} {s3 : Int32} {o3 : Option Value} {o4 : Option Value} {o5 : Option Value} {M : zMem} (h : f_ED_proveHistory_b17 N p1 x2 s1 s2 s3 M = some z) : zS (zEn D tt) zshp a mz_ED_proveHistory d zTr (zFs (zEn D tt) zshp a (zRi z)) 17 [some (.ref (a 0)), some (.ref (a p1)), some (.int x2), o3, o4, o5] [.int s3, .int s2, .int s1, .ref (a 24)] M := by
  unfold f_ED_proveHistory_b17 at h
  obtain ⟨q17, hq17, h⟩ := zbd h
  refine zS_callVv (n := 20) (k0 := 24) (avs := [.int s1, .int s2, .int s3]) (rest := []) (z := q17) (d' := d - 1) d_ED_proveHistory_17 rfl (vk_ED_275 D tt) rfl rfl rfl (Nat.le_of_ble_eq_true rfl) (by omega) (t_Wy_go (by omega) hq17) ?_
  refine zJ_aload_n (n := 21) (j := 1) (x := a p1) d_ED_proveHistory_20 rfl rfl rfl ?_
  refine zJ_iconst (n := 22) (v := 0) d_ED_proveHistory_21 rfl zci_0 ?_
  obtain ⟨q22, hq22, h⟩ := zbd h
  refine zS_callVv (n := 25) (k0 := p1) (avs := [.int (0 : Int32)]) (rest := []) (z := q22) (d' := d - 1) d_ED_proveHistory_22 rfl (vk_ED_259 D tt) (zis_Bu_o g_p1) rfl rfl (Nat.le_of_ble_eq_true rfl) (by omega) (t_Bu_startWith (by omega) hq22) ?_
  refine zJ_iload_n (n := 26) (j := 2) (x := x2) d_ED_proveHistory_25 rfl rfl rfl ?_
  refine zJ_iconst (n := 27) (v := 2) d_ED_proveHistory_26 rfl zci_2 ?_
  refine zJ_icmp_ne (t := 65) (n := 30) d_ED_proveHistory_27 (by decide) rfl (fun hc => ?_) (fun hc => ?_)
  · rw [if_neg hc] at h
    exact t_ED_proveHistory_b65 hd g_p1 h
  · rw [if_pos hc] at h
    refine zJ_aload_n (n := 31) (j := 0) (x := a 0) d_ED_proveHistory_30 rfl rfl rfl ?_
    refine zS_getr (n := 34) (k0 := 0) (j := 5) (q := 24) d_ED_proveHistory_31 rfl (fl_ED_51 D tt) rfl rfl ?_
    refine zS_geti (n := 37) (k0 := 24) (j := 3) d_ED_proveHistory_34 rfl (fl_ED_279 D tt) rfl rfl ?_
    refine zJ_if_le (t := 65) (n := 40) d_ED_proveHistory_37 (by decide) rfl (fun hc => ?_) (fun hc => ?_)
    · rw [if_pos hc] at h
      exact t_ED_proveHistory_b65 hd g_p1 h
    · rw [if_neg hc] at h
      refine zJ_aload_n (n := 41) (j := 1) (x := a p1) d_ED_proveHistory_40 rfl rfl rfl ?_
      refine zJ_aload_n (n := 42) (j := 0) (x := a 0) d_ED_proveHistory_41 rfl rfl rfl ?_
      refine zS_getr (n := 45) (k0 := 0) (j := 4) (q := 18) d_ED_proveHistory_42 rfl (fl_ED_44 D tt) rfl rfl ?_
      refine zJ_aload_n (n := 46) (j := 0) (x := a 0) d_ED_proveHistory_45 rfl rfl rfl ?_
      refine zS_getr (n := 49) (k0 := 0) (j := 5) (q := 24) d_ED_proveHistory_46 rfl (fl_ED_51 D tt) rfl rfl ?_
      refine zS_geti (n := 52) (k0 := 24) (j := 3) d_ED_proveHistory_49 rfl (fl_ED_279 D tt) rfl rfl ?_
      refine zJ_aload_n (n := 53) (j := 0) (x := a 0) d_ED_proveHistory_52 rfl rfl rfl ?_
      refine zS_getr (n := 56) (k0 := 0) (j := 5) (q := 24) d_ED_proveHistory_53 rfl (fl_ED_51 D tt) rfl rfl ?_
      refine zS_geti (n := 59) (k0 := 24) (j := 4) d_ED_proveHistory_56 rfl (fl_ED_282 D tt) rfl rfl ?_
      obtain ⟨q59, hq59, h⟩ := zbd h
      refine zS_callVi (n := 62) (k0 := 18) (avs := [.int (q22.2 24 3), .int (q22.2 24 4)]) (rest := [.ref (a p1)]) (z := q59) (d' := d - 1) d_ED_proveHistory_59 rfl (vk_ED_285 D tt) rfl rfl rfl (Nat.le_of_ble_eq_true rfl) (by omega) (t_Hi_rowDigest (by omega) hq59) ?_
      obtain ⟨q62, hq62, h⟩ := zbd h
      refine zS_callVv (n := 65) (k0 := p1) (avs := [.int q59.1]) (rest := []) (z := q62) (d' := d - 1) d_ED_proveHistory_62 rfl (vk_ED_272 D tt) (zis_Bu_o g_p1) rfl rfl (Nat.le_of_ble_eq_true rfl) (by omega) (t_Bu_append (by omega) hq62) ?_
      exact t_ED_proveHistory_b65 hd g_p1 h
theorem t_ED_proveHistory {D : va_G} {tt : ClassId × ClassId × ClassId} {a : Nat → Nat} {d N : Nat} (hd : 3 ≤ d) {p1 : Nat} {x2 : Int32} {x3 : Int32} {x4 : Int32} {M : zMem} {z : Int32 × zMem} (h : f_ED_proveHistory N p1 x2 x3 x4 M = some z) : zK (zEn D tt) zshp a mz_ED_proveHistory d [.ref (a 0), .ref (a p1), .int x2, .int x3, .int x4] M (zRi z) := by
  refine zK.enter (L := [some (.ref (a 0)), some (.ref (a p1)), some (.int x2), some (.int x3), some (.int x4), none]) (by decide) rfl (Nat.le_of_ble_eq_true rfl) rfl ?_
  unfold f_ED_proveHistory at h
  obtain ⟨g_p1, h⟩ := zgd h
  refine zJ_aload_n (n := 1) (j := 0) (x := a 0) d_ED_proveHistory_0 rfl rfl rfl ?_
  refine zS_getr (n := 4) (k0 := 0) (j := 5) (q := 24) d_ED_proveHistory_1 rfl (fl_ED_51 D tt) rfl rfl ?_
  refine zJ_iload_n (n := 5) (j := 3) (x := x3) d_ED_proveHistory_4 rfl rfl rfl ?_
  refine zJ_iload (n := 7) (j := 4) (x := x4) d_ED_proveHistory_5 rfl rfl ?_
  refine zJ_iload_n (n := 8) (j := 2) (x := x2) d_ED_proveHistory_7 rfl rfl rfl ?_
  refine zJ_iconst (n := 9) (v := 1) d_ED_proveHistory_8 rfl zci_1 ?_
  refine zJ_icmp_ne (t := 16) (n := 12) d_ED_proveHistory_9 (by decide) rfl (fun hc => ?_) (fun hc => ?_)
  · rw [if_neg hc] at h
    refine zJ_iconst (n := 17) (v := 0) d_ED_proveHistory_16 rfl zci_0 ?_
    exact t_ED_proveHistory_b17 hd g_p1 h
  · rw [if_pos hc] at h
    refine zJ_iconst (n := 13) (v := 1) d_ED_proveHistory_12 rfl zci_1 ?_
    refine zJ_goto (t := 17) d_ED_proveHistory_13 (by decide) ?_
    exact t_ED_proveHistory_b17 hd g_p1 h
