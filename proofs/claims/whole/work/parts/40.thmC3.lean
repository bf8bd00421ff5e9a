theorem t_ED_seen {D : va_G} {tt : ClassId × ClassId × ClassId} {a : Nat → Nat} {d N : Nat} (hd : 0 ≤ d) {x1 : Int32} {M : zMem} {z : Int32 × zMem} (h : f_ED_seen N x1 M = some z) : zK (zEn D tt) zshp a mz_ED_seen d [.ref (a 0), .int x1] M (zRi z) := by
  refine zK.enter (L := [some (.ref (a 0)), some (.int x1)]) (by decide) rfl (Nat.le_of_ble_eq_true rfl) rfl ?_
  unfold f_ED_seen at h
  refine zJ_aload_n (n := 1) (j := 0) (x := a 0) d_ED_seen_0 rfl rfl rfl ?_
  refine zS_geti (n := 4) (k0 := 0) (j := 15) d_ED_seen_1 rfl (fl_ED_200 D tt) rfl rfl ?_
  refine zJ_if_ne (t := 9) (n := 7) d_ED_seen_4 (by decide) rfl (fun hc => ?_) (fun hc => ?_)
  · rw [if_neg hc] at h
    refine zJ_iload_n (n := 10) (j := 1) (x := x1) d_ED_seen_9 rfl rfl rfl ?_
    by_cases hc0 : x1 = 0
    · rw [if_pos hc0] at h
      refine zJ_lookup (t := 36) (off := 26) d_ED_seen_10 (by decide) (by rw [hc0]; try rfl) (by decide) ?_
      refine zJ_aload_n (n := 37) (j := 0) (x := a 0) d_ED_seen_36 rfl rfl rfl ?_
      refine zS_geti (n := 40) (k0 := 0) (j := 16) d_ED_seen_37 rfl (fl_ED_203 D tt) rfl rfl ?_
      cases h
      exact zS_ireturn d_ED_seen_40 rfl rfl ⟨rfl, rfl⟩
    · rw [if_neg hc0] at h
      by_cases hc1 : x1 = 1
      · rw [if_pos hc1] at h
        refine zJ_lookup (t := 41) (off := 31) d_ED_seen_10 (by decide) (by rw [hc1]; try rfl) (by decide) ?_
        refine zJ_aload_n (n := 42) (j := 0) (x := a 0) d_ED_seen_41 rfl rfl rfl ?_
        refine zS_geti (n := 45) (k0 := 0) (j := 17) d_ED_seen_42 rfl (fl_ED_206 D tt) rfl rfl ?_
        cases h
        exact zS_ireturn d_ED_seen_45 rfl rfl ⟨rfl, rfl⟩
      · rw [if_neg hc1] at h
        refine zJ_lookup (t := 46) (off := 36) d_ED_seen_10 (by decide) (by rw [lv_osw hc0 (show (0 : Int32).toInt = 0 by decide)]; rw [lv_osw hc1 (show (1 : Int32).toInt = 1 by decide)]; try rfl) (by decide) ?_
        refine zJ_iconst (n := 47) (v := -1) d_ED_seen_46 rfl zci_m1 ?_
        cases h
        exact zS_ireturn d_ED_seen_47 rfl rfl ⟨rfl, rfl⟩
  · rw [if_pos hc] at h
    refine zJ_iconst (n := 8) (v := -1) d_ED_seen_7 rfl zci_m1 ?_
    cases h
    exact zS_ireturn d_ED_seen_8 rfl rfl ⟨rfl, rfl⟩
theorem t_LC_differsFrom {D : va_G} {tt : ClassId × ClassId × ClassId} {a : Nat → Nat} {d N : Nat} (hd : 0 ≤ d) {t : Nat} {p1 : Nat} {x2 : Int32} {M : zMem} {z : Int32 × zMem} (h : f_LC_differsFrom N t p1 x2 M = some z) : zK (zEn D tt) zshp a mz_LC_differsFrom d [.ref (a t), .ref (a p1), .int x2] M (zRi z) := by
  refine zK.enter (L := [some (.ref (a t)), some (.ref (a p1)), some (.int x2), none]) (by decide) rfl (Nat.le_of_ble_eq_true rfl) rfl ?_
  unfold f_LC_differsFrom at h
  obtain ⟨g_t, h⟩ := zgd h
  obtain ⟨g_p1, h⟩ := zgd h
  refine zJ_iconst (n := 1) (v := 3) d_LC_differsFrom_0 rfl zci_3 ?_
  refine zJ_iload_n (n := 2) (j := 2) (x := x2) d_LC_differsFrom_1 rfl rfl rfl ?_
  refine zJ_imul (n := 3) d_LC_differsFrom_2 rfl ?_
  obtain ⟨v3, hv3, h⟩ := zli h
  refine zS_istore_n (n := 4) (j := 3) (x' := v3) d_LC_differsFrom_3 rfl rfl (Nat.le_of_ble_eq_true rfl) hv3 ?_
  refine zJ_aload_n (n := 5) (j := 0) (x := a t) d_LC_differsFrom_4 rfl rfl rfl ?_
  refine zS_getr (n := 8) (k0 := t) (j := 1) (q := t + 1) d_LC_differsFrom_5 rfl (fl_LC_9 D tt) (zis_LC_o g_t) rfl ?_
  refine zJ_iload_n (n := 9) (j := 3) (x := v3) d_LC_differsFrom_8 rfl rfl rfl ?_
  obtain ⟨g9, h⟩ := zgd h
  refine zS_iald (n := 10) (k0 := t + 1) d_LC_differsFrom_9 rfl (zis_LC_1 g_t) rfl rfl g9 ?_
  refine zJ_aload_n (n := 11) (j := 1) (x := a p1) d_LC_differsFrom_10 rfl rfl rfl ?_
  refine zS_getr (n := 14) (k0 := p1) (j := 1) (q := p1 + 1) d_LC_differsFrom_11 rfl (fl_LC_9 D tt) (zis_LC_o g_p1) rfl ?_
  refine zJ_iload_n (n := 15) (j := 3) (x := v3) d_LC_differsFrom_14 rfl rfl rfl ?_
  obtain ⟨g15, h⟩ := zgd h
  refine zS_iald (n := 16) (k0 := p1 + 1) d_LC_differsFrom_15 rfl (zis_LC_1 g_p1) rfl rfl g15 ?_
  refine zJ_icmp_ne (t := 57) (n := 19) d_LC_differsFrom_16 (by decide) rfl (fun hc => ?_) (fun hc => ?_)
  · rw [if_neg hc] at h
    refine zJ_iconst (n := 58) (v := 1) d_LC_differsFrom_57 rfl zci_1 ?_
    refine zJ_goto (t := 62) d_LC_differsFrom_58 (by decide) ?_
    cases h
    exact zS_ireturn d_LC_differsFrom_62 rfl rfl ⟨rfl, rfl⟩
  · rw [if_pos hc] at h
    refine zJ_aload_n (n := 20) (j := 0) (x := a t) d_LC_differsFrom_19 rfl rfl rfl ?_
    refine zS_getr (n := 23) (k0 := t) (j := 1) (q := t + 1) d_LC_differsFrom_20 rfl (fl_LC_9 D tt) (zis_LC_o g_t) rfl ?_
    refine zJ_iload_n (n := 24) (j := 3) (x := v3) d_LC_differsFrom_23 rfl rfl rfl ?_
    refine zJ_iconst (n := 25) (v := 1) d_LC_differsFrom_24 rfl zci_1 ?_
    refine zJ_iadd (n := 26) d_LC_differsFrom_25 rfl ?_
    obtain ⟨g26, h⟩ := zgd h
    refine zS_iald (n := 27) (k0 := t + 1) d_LC_differsFrom_26 rfl (zis_LC_1 g_t) rfl rfl g26 ?_
    refine zJ_aload_n (n := 28) (j := 1) (x := a p1) d_LC_differsFrom_27 rfl rfl rfl ?_
    refine zS_getr (n := 31) (k0 := p1) (j := 1) (q := p1 + 1) d_LC_differsFrom_28 rfl (fl_LC_9 D tt) (zis_LC_o g_p1) rfl ?_
    refine zJ_iload_n (n := 32) (j := 3) (x := v3) d_LC_differsFrom_31 rfl rfl rfl ?_
    refine zJ_iconst (n := 33) (v := 1) d_LC_differsFrom_32 rfl zci_1 ?_
    refine zJ_iadd (n := 34) d_LC_differsFrom_33 rfl ?_
    obtain ⟨g34, h⟩ := zgd h
    refine zS_iald (n := 35) (k0 := p1 + 1) d_LC_differsFrom_34 rfl (zis_LC_1 g_p1) rfl rfl g34 ?_
    refine zJ_icmp_ne (t := 57) (n := 38) d_LC_differsFrom_35 (by decide) rfl (fun hc => ?_) (fun hc => ?_)
    · rw [if_neg hc] at h
      refine zJ_iconst (n := 58) (v := 1) d_LC_differsFrom_57 rfl zci_1 ?_
      refine zJ_goto (t := 62) d_LC_differsFrom_58 (by decide) ?_
      cases h
      exact zS_ireturn d_LC_differsFrom_62 rfl rfl ⟨rfl, rfl⟩
    · rw [if_pos hc] at h
      refine zJ_aload_n (n := 39) (j := 0) (x := a t) d_LC_differsFrom_38 rfl rfl rfl ?_
      refine zS_getr (n := 42) (k0 := t) (j := 1) (q := t + 1) d_LC_differsFrom_39 rfl (fl_LC_9 D tt) (zis_LC_o g_t) rfl ?_
      refine zJ_iload_n (n := 43) (j := 3) (x := v3) d_LC_differsFrom_42 rfl rfl rfl ?_
      refine zJ_iconst (n := 44) (v := 2) d_LC_differsFrom_43 rfl zci_2 ?_
      refine zJ_iadd (n := 45) d_LC_differsFrom_44 rfl ?_
      obtain ⟨g45, h⟩ := zgd h
      refine zS_iald (n := 46) (k0 := t + 1) d_LC_differsFrom_45 rfl (zis_LC_1 g_t) rfl rfl g45 ?_
      refine zJ_aload_n (n := 47) (j := 1) (x := a p1) d_LC_differsFrom_46 rfl rfl rfl ?_
      refine zS_getr (n := 50) (k0 := p1) (j := 1) (q := p1 + 1) d_LC_differsFrom_47 rfl (fl_LC_9 D tt) (zis_LC_o g_p1) rfl ?_
      refine zJ_iload_n (n := 51) (j := 3) (x := v3) d_LC_differsFrom_50 rfl rfl rfl ?_
      refine zJ_iconst (n := 52) (v := 2) d_LC_differsFrom_51 rfl zci_2 ?_
      refine zJ_iadd (n := 53) d_LC_differsFrom_52 rfl ?_
      obtain ⟨g53, h⟩ := zgd h
      refine zS_iald (n := 54) (k0 := p1 + 1) d_LC_differsFrom_53 rfl (zis_LC_1 g_p1) rfl rfl g53 ?_
      refine zJ_icmp_eq (t := 61) (n := 57) d_LC_differsFrom_54 (by decide) rfl (fun hc => ?_) (fun hc => ?_)
      · rw [if_pos hc] at h
        refine zJ_iconst (n := 62) (v := 0) d_LC_differsFrom_61 rfl zci_0 ?_
        cases h
        exact zS_ireturn d_LC_differsFrom_62 rfl rfl ⟨rfl, rfl⟩
      · rw [if_neg hc] at h
        refine zJ_iconst (n := 58) (v := 1) d_LC_differsFrom_57 rfl zci_1 ?_
        refine zJ_goto (t := 62) d_LC_differsFrom_58 (by decide) ?_
        cases h
        exact zS_ireturn d_LC_differsFrom_62 rfl rfl ⟨rfl, rfl⟩
theorem t_LC_copyInput_l3 {D : va_G} {tt : ClassId × ClassId × ClassId} {a : Nat → Nat} {d N : Nat} (hd : 0 ≤ d) {z : Int32 × zMem} {t : Nat} (g_t : zis_LC t = true) : ∀ (n : Nat), ∀ (x1 x3 x4 : Int32) (M : zMem), f_LC_copyInput_l3 N t n x1 x3 x4 M = some z → zS (zEn D tt) zshp a mz_LC_copyInput d zTr (zFs (zEn D tt) zshp a (zRv z)) 3 [some (.ref (a t)), some (.int x1), some (.ref (a 44)), some (.int x3), some (.int x4)] [] M := by
  intro n
  induction n with
  | zero =>
    intro x1 x3 x4 M h
    rw [f_LC_copyInput_l3] at h
    cases h
  | succ n ih =>
    intro x1 x3 x4 M h
    rw [f_LC_copyInput_l3] at h
    refine zJ_iload (n := 5) (j := 4) (x := x4) d_LC_copyInput_3 rfl rfl ?_
    refine zJ_iconst (n := 6) (v := 3) d_LC_copyInput_5 rfl zci_3 ?_
    refine zJ_icmp_ge (t := 32) (n := 9) d_LC_copyInput_6 (by decide) rfl (fun hc => ?_) (fun hc => ?_)
    · rw [if_pos hc] at h
      cases h
      exact zS_return d_LC_copyInput_32 rfl ⟨rfl, rfl⟩
    · rw [if_neg hc] at h
      refine zJ_aload_n (n := 10) (j := 2) (x := a 44) d_LC_copyInput_9 rfl rfl rfl ?_
      refine zJ_iload_n (n := 11) (j := 3) (x := x3) d_LC_copyInput_10 rfl rfl rfl ?_
      refine zJ_iload (n := 13) (j := 4) (x := x4) d_LC_copyInput_11 rfl rfl ?_
      refine zJ_iadd (n := 14) d_LC_copyInput_13 rfl ?_
      refine zJ_aload_n (n := 15) (j := 0) (x := a t) d_LC_copyInput_14 rfl rfl rfl ?_
      refine zS_getr (n := 18) (k0 := t) (j := 1) (q := t + 1) d_LC_copyInput_15 rfl (fl_LC_9 D tt) (zis_LC_o g_t) rfl ?_
      refine zJ_iconst (n := 19) (v := 3) d_LC_copyInput_18 rfl zci_3 ?_
      refine zJ_iload_n (n := 20) (j := 1) (x := x1) d_LC_copyInput_19 rfl rfl rfl ?_
      refine zJ_imul (n := 21) d_LC_copyInput_20 rfl ?_
      refine zJ_iload (n := 23) (j := 4) (x := x4) d_LC_copyInput_21 rfl rfl ?_
      refine zJ_iadd (n := 24) d_LC_copyInput_23 rfl ?_
      obtain ⟨g24, h⟩ := zgd h
      refine zS_iald (n := 25) (k0 := t + 1) d_LC_copyInput_24 rfl (zis_LC_1 g_t) rfl rfl g24 ?_
      obtain ⟨g25, h⟩ := zgd h
      obtain ⟨M25, hM25, h⟩ := zli h
      refine zS_iastN (n := 26) (k0 := 44) d_LC_copyInput_25 rfl rfl rfl rfl g25 hM25 ?_
      obtain ⟨v26, hv26, h⟩ := zli h
      refine zS_iinc (n := 29) (j := 4) (x := x4) (v := 1) (x' := v26) d_LC_copyInput_26 rfl rfl zci_1 (Nat.le_of_ble_eq_true rfl) hv26 ?_
      refine zJ_goto (t := 3) d_LC_copyInput_29 (by decide) ?_
      exact ih _ _ _ _ h
theorem t_LC_copyInput {D : va_G} {tt : ClassId × ClassId × ClassId} {a : Nat → Nat} {d N : Nat} (hd : 0 ≤ d) {t : Nat} {x1 : Int32} {x3 : Int32} {M : zMem} {z : Int32 × zMem} (h : f_LC_copyInput N t x1 x3 M = some z) : zK (zEn D tt) zshp a mz_LC_copyInput d [.ref (a t), .int x1, .ref (a 44), .int x3] M (zRv z) := by
  refine zK.enter (L := [some (.ref (a t)), some (.int x1), some (.ref (a 44)), some (.int x3), none]) (by decide) rfl (Nat.le_of_ble_eq_true rfl) rfl ?_
  unfold f_LC_copyInput at h
  obtain ⟨g_t, h⟩ := zgd h
  refine zJ_iconst (n := 1) (v := 0) d_LC_copyInput_0 rfl zci_0 ?_
  refine zS_istore (n := 3) (j := 4) (x' := (0 : Int32)) d_LC_copyInput_1 rfl (Nat.le_of_ble_eq_true rfl) rfl ?_
  exact t_LC_copyInput_l3 hd g_t N _ _ _ _ h
theorem t_ED_takeOutFirstDifference_l20 {D : va_G} {tt : ClassId × ClassId × ClassId} {a : Nat → Nat} {d N : Nat} (hd : 1 ≤ d) {z : Int32 × zMem} : ∀ (n : Nat), ∀ (x1 x2 : Int32) (M : zMem), f_ED_takeOutFirstDifference_l20 N n x1 x2 M = some z → zS (zEn D tt) zshp a mz_ED_takeOutFirstDifference d zTr (zFs (zEn D tt) zshp a (zRi z)) 20 [some (.ref (a 0)), some (.int x1), some (.int x2)] [] M := by
  intro n
  induction n with
  | zero =>
    intro x1 x2 M h
    rw [f_ED_takeOutFirstDifference_l20] at h
    cases h
  | succ n ih =>
    intro x1 x2 M h
    rw [f_ED_takeOutFirstDifference_l20] at h
    refine zJ_iload_n (n := 21) (j := 2) (x := x2) d_ED_takeOutFirstDifference_20 rfl rfl rfl ?_
    refine zJ_iload_n (n := 22) (j := 1) (x := x1) d_ED_takeOutFirstDifference_21 rfl rfl rfl ?_
    refine zJ_icmp_gt (t := 74) (n := 25) d_ED_takeOutFirstDifference_22 (by decide) rfl (fun hc => ?_) (fun hc => ?_)
    · rw [if_pos hc] at h
      refine zJ_iconst (n := 75) (v := 0) d_ED_takeOutFirstDifference_74 rfl zci_0 ?_
      cases h
      exact zS_ireturn d_ED_takeOutFirstDifference_75 rfl rfl ⟨rfl, rfl⟩
    · rw [if_neg hc] at h
      refine zJ_aload_n (n := 26) (j := 0) (x := a 0) d_ED_takeOutFirstDifference_25 rfl rfl rfl ?_
      refine zS_getr (n := 29) (k0 := 0) (j := 7) (q := 36) d_ED_takeOutFirstDifference_26 rfl (fl_ED_65 D tt) rfl rfl ?_
      refine zJ_aload_n (n := 30) (j := 0) (x := a 0) d_ED_takeOutFirstDifference_29 rfl rfl rfl ?_
      refine zS_getr (n := 33) (k0 := 0) (j := 8) (q := 38) d_ED_takeOutFirstDifference_30 rfl (fl_ED_69 D tt) rfl rfl ?_
      refine zJ_iload_n (n := 34) (j := 2) (x := x2) d_ED_takeOutFirstDifference_33 rfl rfl rfl ?_
      obtain ⟨q34, hq34, h⟩ := zbd h
      refine zS_callVi (n := 37) (k0 := 36) (avs := [.ref (a 38), .int x2]) (rest := []) (z := q34) (d' := d - 1) d_ED_takeOutFirstDifference_34 rfl (vk_ED_303 D tt) rfl rfl rfl (Nat.le_of_ble_eq_true rfl) (by omega) (t_LC_differsFrom (by omega) hq34) ?_
      refine zJ_if_eq (t := 68) (n := 40) d_ED_takeOutFirstDifference_37 (by decide) rfl (fun hc => ?_) (fun hc => ?_)
      · rw [if_pos hc] at h
        obtain ⟨v68, hv68, h⟩ := zli h
        refine zS_iinc (n := 71) (j := 2) (x := x2) (v := 1) (x' := v68) d_ED_takeOutFirstDifference_68 rfl rfl zci_1 (Nat.le_of_ble_eq_true rfl) hv68 ?_
        refine zJ_goto (t := 20) d_ED_takeOutFirstDifference_71 (by decide) ?_
        exact ih _ _ _ h
      · rw [if_neg hc] at h
        refine zJ_aload_n (n := 41) (j := 0) (x := a 0) d_ED_takeOutFirstDifference_40 rfl rfl rfl ?_
        refine zS_getr (n := 44) (k0 := 0) (j := 7) (q := 36) d_ED_takeOutFirstDifference_41 rfl (fl_ED_65 D tt) rfl rfl ?_
        refine zJ_iload_n (n := 45) (j := 2) (x := x2) d_ED_takeOutFirstDifference_44 rfl rfl rfl ?_
        refine zJ_aload_n (n := 46) (j := 0) (x := a 0) d_ED_takeOutFirstDifference_45 rfl rfl rfl ?_
        refine zS_getr (n := 49) (k0 := 0) (j := 10) (q := 44) d_ED_takeOutFirstDifference_46 rfl (fl_ED_79 D tt) rfl rfl ?_
        refine zJ_iconst (n := 50) (v := 0) d_ED_takeOutFirstDifference_49 rfl zci_0 ?_
        obtain ⟨q50, hq50, h⟩ := zbd h
        refine zS_callVv (n := 53) (k0 := 36) (avs := [.int x2, .ref (a 44), .int (0 : Int32)]) (rest := []) (z := q50) (d' := d - 1) d_ED_takeOutFirstDifference_50 rfl (vk_ED_307 D tt) rfl rfl rfl (Nat.le_of_ble_eq_true rfl) (by omega) (t_LC_copyInput (by omega) hq50) ?_
        refine zJ_aload_n (n := 54) (j := 0) (x := a 0) d_ED_takeOutFirstDifference_53 rfl rfl rfl ?_
        refine zS_getr (n := 57) (k0 := 0) (j := 8) (q := 38) d_ED_takeOutFirstDifference_54 rfl (fl_ED_69 D tt) rfl rfl ?_
        refine zJ_iload_n (n := 58) (j := 2) (x := x2) d_ED_takeOutFirstDifference_57 rfl rfl rfl ?_
        refine zJ_aload_n (n := 59) (j := 0) (x := a 0) d_ED_takeOutFirstDifference_58 rfl rfl rfl ?_
        refine zS_getr (n := 62) (k0 := 0) (j := 10) (q := 44) d_ED_takeOutFirstDifference_59 rfl (fl_ED_79 D tt) rfl rfl ?_
        refine zJ_iconst (n := 63) (v := 3) d_ED_takeOutFirstDifference_62 rfl zci_3 ?_
        obtain ⟨q63, hq63, h⟩ := zbd h
        refine zS_callVv (n := 66) (k0 := 38) (avs := [.int x2, .ref (a 44), .int (3 : Int32)]) (rest := []) (z := q63) (d' := d - 1) d_ED_takeOutFirstDifference_63 rfl (vk_ED_307 D tt) rfl rfl rfl (Nat.le_of_ble_eq_true rfl) (by omega) (t_LC_copyInput (by omega) hq63) ?_
        refine zJ_iconst (n := 67) (v := 1) d_ED_takeOutFirstDifference_66 rfl zci_1 ?_
        cases h
        exact zS_ireturn d_ED_takeOutFirstDifference_67 rfl rfl ⟨rfl, rfl⟩
theorem t_ED_takeOutFirstDifference {D : va_G} {tt : ClassId × ClassId × ClassId} {a : Nat → Nat} {d N : Nat} (hd : 1 ≤ d) {M : zMem} {z : Int32 × zMem} (h : f_ED_takeOutFirstDifference N M = some z) : zK (zEn D tt) zshp a mz_ED_takeOutFirstDifference d [.ref (a 0)] M (zRi z) := by
  refine zK.enter (L := [some (.ref (a 0)), none, none]) (by decide) rfl (Nat.le_of_ble_eq_true rfl) rfl ?_
  unfold f_ED_takeOutFirstDifference at h
  refine zJ_aload_n (n := 1) (j := 0) (x := a 0) d_ED_takeOutFirstDifference_0 rfl rfl rfl ?_
  refine zS_getr (n := 4) (k0 := 0) (j := 7) (q := 36) d_ED_takeOutFirstDifference_1 rfl (fl_ED_65 D tt) rfl rfl ?_
  refine zS_geti (n := 7) (k0 := 36) (j := 2) d_ED_takeOutFirstDifference_4 rfl (fl_ED_295 D tt) rfl rfl ?_
  refine zJ_aload_n (n := 8) (j := 0) (x := a 0) d_ED_takeOutFirstDifference_7 rfl rfl rfl ?_
  refine zS_getr (n := 11) (k0 := 0) (j := 8) (q := 38) d_ED_takeOutFirstDifference_8 rfl (fl_ED_69 D tt) rfl rfl ?_
  refine zS_geti (n := 14) (k0 := 38) (j := 2) d_ED_takeOutFirstDifference_11 rfl (fl_ED_295 D tt) rfl rfl ?_
  refine zJ_min (n := 17) d_ED_takeOutFirstDifference_14 rfl (mm_ED_298 D tt) (mm_min_s D tt) (mm_i D tt) (mm_min_c D tt) (by omega) (Nat.le_of_ble_eq_true rfl) (Nat.le_refl _) (Nat.le_refl _) ?_
  obtain ⟨v17, hv17, h⟩ := zli h
  refine zS_istore_n (n := 18) (j := 1) (x' := v17) d_ED_takeOutFirstDifference_17 rfl rfl (Nat.le_of_ble_eq_true rfl) hv17 ?_
  refine zJ_iconst (n := 19) (v := 0) d_ED_takeOutFirstDifference_18 rfl zci_0 ?_
  refine zS_istore_n (n := 20) (j := 2) (x' := (0 : Int32)) d_ED_takeOutFirstDifference_19 rfl rfl (Nat.le_of_ble_eq_true rfl) rfl ?_
  exact t_ED_takeOutFirstDifference_l20 hd N _ _ _ h
theorem t_ED_extract {D : va_G} {tt : ClassId × ClassId × ClassId} {a : Nat → Nat} {d N : Nat} (hd : 4 ≤ d) {x1 : Int32} {x2 : Int32} {x3 : Int32} {x4 : Int32} {M : zMem} {z : Int32 × zMem} (h : f_ED_extract N x1 x2 x3 x4 M = some z) : zK (zEn D tt) zshp a mz_ED_extract d [.ref (a 0), .int x1, .int x2, .int x3, .int x4] M (zRi z) := by
  refine zK.enter (L := [some (.ref (a 0)), some (.int x1), some (.int x2), some (.int x3), some (.int x4), none, none]) (by decide) rfl (Nat.le_of_ble_eq_true rfl) rfl ?_
  unfold f_ED_extract at h
  refine zJ_aload_n (n := 1) (j := 0) (x := a 0) d_ED_extract_0 rfl rfl rfl ?_
  refine zJ_iload_n (n := 2) (j := 1) (x := x1) d_ED_extract_1 rfl rfl rfl ?_
  obtain ⟨q2, hq2, h⟩ := zbd h
  refine zS_callVr (n := 5) (k0 := 0) (avs := [.int x1]) (rest := []) (z := q2) (d' := d - 1) d_ED_extract_2 rfl (vk_ED_166 D tt) rfl rfl rfl (Nat.le_of_ble_eq_true rfl) (by omega) (t_ED_bufferAt (by omega) hq2) ?_
  rcases zcsi h with ⟨he2, h⟩ | ⟨p2, he2, h⟩
  · rw [he2]
    show zS (zEn D tt) zshp a mz_ED_extract d zTr (zFs (zEn D tt) zshp a (zRi z)) 5 [some (.ref (a 0)), some (.int x1), some (.int x2), some (.int x3), some (.int x4), none, none] [.null] q2.2
    refine zJ_astoreN (n := 7) (j := 5) d_ED_extract_5 rfl (Nat.le_of_ble_eq_true rfl) ?_
    refine zJ_aload_n (n := 8) (j := 0) (x := a 0) d_ED_extract_7 rfl rfl rfl ?_
    refine zJ_iload_n (n := 9) (j := 2) (x := x2) d_ED_extract_8 rfl rfl rfl ?_
    obtain ⟨q9, hq9, h⟩ := zbd h
    refine zS_callVr (n := 12) (k0 := 0) (avs := [.int x2]) (rest := []) (z := q9) (d' := d - 1) d_ED_extract_9 rfl (vk_ED_166 D tt) rfl rfl rfl (Nat.le_of_ble_eq_true rfl) (by omega) (t_ED_bufferAt (by omega) hq9) ?_
    rcases zcsi h with ⟨he9, h⟩ | ⟨p9, he9, h⟩
    · rw [he9]
      show zS (zEn D tt) zshp a mz_ED_extract d zTr (zFs (zEn D tt) zshp a (zRi z)) 12 [some (.ref (a 0)), some (.int x1), some (.int x2), some (.int x3), some (.int x4), some (.null), none] [.null] q9.2
      refine zJ_astoreN (n := 14) (j := 6) d_ED_extract_12 rfl (Nat.le_of_ble_eq_true rfl) ?_
      refine zJ_aloadN (n := 16) (j := 5) d_ED_extract_14 rfl rfl ?_
      refine zJ_ifnullN (t := 31) d_ED_extract_16 (by decide) ?_
      refine zJ_iconst (n := 32) (v := 0) d_ED_extract_31 rfl zci_0 ?_
      cases h
      exact zS_ireturn d_ED_extract_32 rfl rfl ⟨rfl, rfl⟩
    · rw [he9]
      show zS (zEn D tt) zshp a mz_ED_extract d zTr (zFs (zEn D tt) zshp a (zRi z)) 12 [some (.ref (a 0)), some (.int x1), some (.int x2), some (.int x3), some (.int x4), some (.null), none] [.ref (a p9)] q9.2
      obtain ⟨g_p9, h⟩ := zgd h
      refine zJ_astore (n := 14) (j := 6) d_ED_extract_12 rfl (Nat.le_of_ble_eq_true rfl) ?_
      refine zJ_aloadN (n := 16) (j := 5) d_ED_extract_14 rfl rfl ?_
      refine zJ_ifnullN (t := 31) d_ED_extract_16 (by decide) ?_
      refine zJ_iconst (n := 32) (v := 0) d_ED_extract_31 rfl zci_0 ?_
      cases h
      exact zS_ireturn d_ED_extract_32 rfl rfl ⟨rfl, rfl⟩
  · rw [he2]
    show zS (zEn D tt) zshp a mz_ED_extract d zTr (zFs (zEn D tt) zshp a (zRi z)) 5 [some (.ref (a 0)), some (.int x1), some (.int x2), some (.int x3), some (.int x4), none, none] [.ref (a p2)] q2.2
    obtain ⟨g_p2, h⟩ := zgd h
    refine zJ_astore (n := 7) (j := 5) d_ED_extract_5 rfl (Nat.le_of_ble_eq_true rfl) ?_
    refine zJ_aload_n (n := 8) (j := 0) (x := a 0) d_ED_extract_7 rfl rfl rfl ?_
    refine zJ_iload_n (n := 9) (j := 2) (x := x2) d_ED_extract_8 rfl rfl rfl ?_
    obtain ⟨q9, hq9, h⟩ := zbd h
    refine zS_callVr (n := 12) (k0 := 0) (avs := [.int x2]) (rest := []) (z := q9) (d' := d - 1) d_ED_extract_9 rfl (vk_ED_166 D tt) rfl rfl rfl (Nat.le_of_ble_eq_true rfl) (by omega) (t_ED_bufferAt (by omega) hq9) ?_
    rcases zcsi h with ⟨he9, h⟩ | ⟨p9, he9, h⟩
    · rw [he9]
      show zS (zEn D tt) zshp a mz_ED_extract d zTr (zFs (zEn D tt) zshp a (zRi z)) 12 [some (.ref (a 0)), some (.int x1), some (.int x2), some (.int x3), some (.int x4), some (.ref (a p2)), none] [.null] q9.2
      refine zJ_astoreN (n := 14) (j := 6) d_ED_extract_12 rfl (Nat.le_of_ble_eq_true rfl) ?_
      refine zJ_aload (n := 16) (j := 5) (x := a p2) d_ED_extract_14 rfl rfl ?_
      refine zJ_ifnull (n := 19) d_ED_extract_16 rfl ?_
      refine zJ_aloadN (n := 21) (j := 6) d_ED_extract_19 rfl rfl ?_
      refine zJ_ifnullN (t := 31) d_ED_extract_21 (by decide) ?_
      refine zJ_iconst (n := 32) (v := 0) d_ED_extract_31 rfl zci_0 ?_
      cases h
      exact zS_ireturn d_ED_extract_32 rfl rfl ⟨rfl, rfl⟩
    · rw [he9]
      show zS (zEn D tt) zshp a mz_ED_extract d zTr (zFs (zEn D tt) zshp a (zRi z)) 12 [some (.ref (a 0)), some (.int x1), some (.int x2), some (.int x3), some (.int x4), some (.ref (a p2)), none] [.ref (a p9)] q9.2
      obtain ⟨g_p9, h⟩ := zgd h
      refine zJ_astore (n := 14) (j := 6) d_ED_extract_12 rfl (Nat.le_of_ble_eq_true rfl) ?_
      refine zJ_aload (n := 16) (j := 5) (x := a p2) d_ED_extract_14 rfl rfl ?_
      refine zJ_ifnull (n := 19) d_ED_extract_16 rfl ?_
      refine zJ_aload (n := 21) (j := 6) (x := a p9) d_ED_extract_19 rfl rfl ?_
      refine zJ_ifnull (n := 24) d_ED_extract_21 rfl ?_
      refine zJ_iload_n (n := 25) (j := 3) (x := x3) d_ED_extract_24 rfl rfl rfl ?_
      obtain ⟨q25, hq25, h⟩ := zbd h
      refine zS_callSi (n := 28) (avs := [.int x3]) (rest := []) (z := q25) (d' := d - 1) d_ED_extract_25 rfl (sk_ED_91 D tt) rfl rfl (Nat.le_of_ble_eq_true rfl) (by omega) (t_ED_isName (by omega) hq25) ?_
      refine zJ_if_ne (t := 33) (n := 31) d_ED_extract_28 (by decide) rfl (fun hc => ?_) (fun hc => ?_)
      · rw [if_neg hc] at h
        refine zJ_aload_n (n := 34) (j := 0) (x := a 0) d_ED_extract_33 rfl rfl rfl ?_
        refine zS_getr (n := 37) (k0 := 0) (j := 7) (q := 36) d_ED_extract_34 rfl (fl_ED_65 D tt) rfl rfl ?_
        refine zJ_aload (n := 39) (j := 5) (x := a p2) d_ED_extract_37 rfl rfl ?_
        refine zJ_iload_n (n := 40) (j := 3) (x := x3) d_ED_extract_39 rfl rfl rfl ?_
        refine zJ_iload (n := 42) (j := 4) (x := x4) d_ED_extract_40 rfl rfl ?_
        obtain ⟨q42, hq42, h⟩ := zbd h
        refine zS_callVi (n := 45) (k0 := 36) (avs := [.ref (a p2), .int x3, .int x4]) (rest := []) (z := q42) (d' := d - 1) d_ED_extract_42 rfl (vk_ED_186 D tt) rfl rfl rfl (Nat.le_of_ble_eq_true rfl) (by omega) (t_LC_accepts (by omega) hq42) ?_
        refine zJ_if_eq (t := 91) (n := 48) d_ED_extract_45 (by decide) rfl (fun hc => ?_) (fun hc => ?_)
        · rw [if_pos hc] at h
          refine zJ_iconst (n := 92) (v := 0) d_ED_extract_91 rfl zci_0 ?_
          cases h
          exact zS_ireturn d_ED_extract_92 rfl rfl ⟨rfl, rfl⟩
        · rw [if_neg hc] at h
          refine zJ_aload_n (n := 49) (j := 0) (x := a 0) d_ED_extract_48 rfl rfl rfl ?_
          refine zS_getr (n := 52) (k0 := 0) (j := 8) (q := 38) d_ED_extract_49 rfl (fl_ED_69 D tt) rfl rfl ?_
          refine zJ_aload (n := 54) (j := 6) (x := a p9) d_ED_extract_52 rfl rfl ?_
          refine zJ_iload_n (n := 55) (j := 3) (x := x3) d_ED_extract_54 rfl rfl rfl ?_
          refine zJ_iload (n := 57) (j := 4) (x := x4) d_ED_extract_55 rfl rfl ?_
          obtain ⟨q57, hq57, h⟩ := zbd h
          refine zS_callVi (n := 60) (k0 := 38) (avs := [.ref (a p9), .int x3, .int x4]) (rest := []) (z := q57) (d' := d - 1) d_ED_extract_57 rfl (vk_ED_186 D tt) rfl rfl rfl (Nat.le_of_ble_eq_true rfl) (by omega) (t_LC_accepts (by omega) hq57) ?_
          refine zJ_if_eq (t := 91) (n := 63) d_ED_extract_60 (by decide) rfl (fun hc => ?_) (fun hc => ?_)
          · rw [if_pos hc] at h
            refine zJ_iconst (n := 92) (v := 0) d_ED_extract_91 rfl zci_0 ?_
            cases h
            exact zS_ireturn d_ED_extract_92 rfl rfl ⟨rfl, rfl⟩
          · rw [if_neg hc] at h
            refine zJ_aload_n (n := 64) (j := 0) (x := a 0) d_ED_extract_63 rfl rfl rfl ?_
            refine zS_getr (n := 67) (k0 := 0) (j := 7) (q := 36) d_ED_extract_64 rfl (fl_ED_65 D tt) rfl rfl ?_
            refine zS_geti (n := 70) (k0 := 36) (j := 3) d_ED_extract_67 rfl (fl_ED_190 D tt) rfl rfl ?_
            refine zJ_aload_n (n := 71) (j := 0) (x := a 0) d_ED_extract_70 rfl rfl rfl ?_
            refine zS_getr (n := 74) (k0 := 0) (j := 8) (q := 38) d_ED_extract_71 rfl (fl_ED_69 D tt) rfl rfl ?_
            refine zS_geti (n := 77) (k0 := 38) (j := 3) d_ED_extract_74 rfl (fl_ED_190 D tt) rfl rfl ?_
            refine zJ_icmp_eq (t := 91) (n := 80) d_ED_extract_77 (by decide) rfl (fun hc => ?_) (fun hc => ?_)
            · rw [if_pos hc] at h
              refine zJ_iconst (n := 92) (v := 0) d_ED_extract_91 rfl zci_0 ?_
              cases h
              exact zS_ireturn d_ED_extract_92 rfl rfl ⟨rfl, rfl⟩
            · rw [if_neg hc] at h
              refine zJ_aload_n (n := 81) (j := 0) (x := a 0) d_ED_extract_80 rfl rfl rfl ?_
              obtain ⟨q81, hq81, h⟩ := zbd h
              refine zS_callVi (n := 84) (k0 := 0) (avs := []) (rest := []) (z := q81) (d' := d - 1) d_ED_extract_81 rfl (vk_ED_213 D tt) rfl rfl rfl (Nat.le_of_ble_eq_true rfl) (by omega) (t_ED_takeOutFirstDifference (by omega) hq81) ?_
              refine zJ_if_eq (t := 91) (n := 87) d_ED_extract_84 (by decide) rfl (fun hc => ?_) (fun hc => ?_)
              · rw [if_pos hc] at h
                refine zJ_iconst (n := 92) (v := 0) d_ED_extract_91 rfl zci_0 ?_
                cases h
                exact zS_ireturn d_ED_extract_92 rfl rfl ⟨rfl, rfl⟩
              · rw [if_neg hc] at h
                refine zJ_iconst (n := 88) (v := 1) d_ED_extract_87 rfl zci_1 ?_
                refine zJ_goto (t := 92) d_ED_extract_88 (by decide) ?_
                cases h
                exact zS_ireturn d_ED_extract_92 rfl rfl ⟨rfl, rfl⟩
      · rw [if_pos hc] at h
        refine zJ_iconst (n := 32) (v := 0) d_ED_extract_31 rfl zci_0 ?_
        cases h
        exact zS_ireturn d_ED_extract_32 rfl rfl ⟨rfl, rfl⟩
theorem t_ED_clash {D : va_G} {tt : ClassId × ClassId × ClassId} {a : Nat → Nat} {d N : Nat} (hd : 0 ≤ d) {x1 : Int32} {M : zMem} {z : Int32 × zMem} (h : f_ED_clash N x1 M = some z) : zK (zEn D tt) zshp a mz_ED_clash d [.ref (a 0), .int x1] M (zRi z) := by
  refine zK.enter (L := [some (.ref (a 0)), some (.int x1)]) (by decide) rfl (Nat.le_of_ble_eq_true rfl) rfl ?_
  unfold f_ED_clash at h
  refine zJ_iload_n (n := 1) (j := 1) (x := x1) d_ED_clash_0 rfl rfl rfl ?_
  refine zJ_if_lt (t := 22) (n := 4) d_ED_clash_1 (by decide) rfl (fun hc => ?_) (fun hc => ?_)
  · rw [if_pos hc] at h
    refine zJ_iconst (n := 23) (v := 0) d_ED_clash_22 rfl zci_0 ?_
    cases h
    exact zS_ireturn d_ED_clash_23 rfl rfl ⟨rfl, rfl⟩
  · rw [if_neg hc] at h
    refine zJ_iload_n (n := 5) (j := 1) (x := x1) d_ED_clash_4 rfl rfl rfl ?_
    refine zJ_aload_n (n := 6) (j := 0) (x := a 0) d_ED_clash_5 rfl rfl rfl ?_
    refine zS_getr (n := 9) (k0 := 0) (j := 10) (q := 44) d_ED_clash_6 rfl (fl_ED_79 D tt) rfl rfl ?_
    refine zS_alen (n := 10) (k0 := 44) (v := 6) d_ED_clash_9 rfl rfl rfl (by decide) ?_
    refine zJ_icmp_ge (t := 22) (n := 13) d_ED_clash_10 (by decide) rfl (fun hc => ?_) (fun hc => ?_)
    · rw [if_pos hc] at h
      refine zJ_iconst (n := 23) (v := 0) d_ED_clash_22 rfl zci_0 ?_
      cases h
      exact zS_ireturn d_ED_clash_23 rfl rfl ⟨rfl, rfl⟩
    · rw [if_neg hc] at h
      refine zJ_aload_n (n := 14) (j := 0) (x := a 0) d_ED_clash_13 rfl rfl rfl ?_
      refine zS_getr (n := 17) (k0 := 0) (j := 10) (q := 44) d_ED_clash_14 rfl (fl_ED_79 D tt) rfl rfl ?_
      refine zJ_iload_n (n := 18) (j := 1) (x := x1) d_ED_clash_17 rfl rfl rfl ?_
      obtain ⟨g18, h⟩ := zgd h
      refine zS_iald (n := 19) (k0 := 44) d_ED_clash_18 rfl rfl rfl rfl g18 ?_
      refine zJ_goto (t := 23) d_ED_clash_19 (by decide) ?_
      cases h
      exact zS_ireturn d_ED_clash_23 rfl rfl ⟨rfl, rfl⟩
