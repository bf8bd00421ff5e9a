theorem t_Dg_digest {D : va_G} {tt : ClassId × ClassId × ClassId} {a : Nat → Nat} {d N : Nat} (hd : 0 ≤ d) {x1 : Int32} {x2 : Int32} {x3 : Int32} {M : zMem} {z : Int32 × zMem} (h : f_Dg_digest N x1 x2 x3 M = some z) : zK (zEn D tt) zshp a mz_Dg_digest d [.ref (a 1), .int x1, .int x2, .int x3] M (zRi z) := by
  refine zK.enter (L := [some (.ref (a 1)), some (.int x1), some (.int x2), some (.int x3), none, none]) (by decide) rfl (Nat.le_of_ble_eq_true rfl) rfl ?_
  unfold f_Dg_digest at h
  refine zJ_iload_n (n := 1) (j := 1) (x := x1) d_Dg_digest_0 rfl rfl rfl ?_
  refine zJ_ldc (n := 3) (v := 73244475) d_Dg_digest_1 rfl (ldc_Dg_22 D tt) ?_
  refine zJ_imul (n := 4) d_Dg_digest_3 rfl ?_
  refine zJ_iload_n (n := 5) (j := 2) (x := x2) d_Dg_digest_4 rfl rfl rfl ?_
  refine zJ_iadd (n := 6) d_Dg_digest_5 rfl ?_
  obtain ⟨v6, hv6, h⟩ := zli h
  refine zS_istore (n := 8) (j := 4) (x' := v6) d_Dg_digest_6 rfl (Nat.le_of_ble_eq_true rfl) hv6 ?_
  refine zJ_iload (n := 10) (j := 4) (x := v6) d_Dg_digest_8 rfl rfl ?_
  refine zJ_iload (n := 12) (j := 4) (x := v6) d_Dg_digest_10 rfl rfl ?_
  refine zJ_bipush (n := 14) (v := 16) d_Dg_digest_12 rfl zcb_16 ?_
  refine zJ_iushr (n := 15) d_Dg_digest_14 rfl ?_
  refine zJ_ixor (n := 16) d_Dg_digest_15 rfl ?_
  refine zJ_ldc (n := 18) (v := 73244475) d_Dg_digest_16 rfl (ldc_Dg_22 D tt) ?_
  refine zJ_imul (n := 19) d_Dg_digest_18 rfl ?_
  refine zJ_iload_n (n := 20) (j := 3) (x := x3) d_Dg_digest_19 rfl rfl rfl ?_
  refine zJ_iadd (n := 21) d_Dg_digest_20 rfl ?_
  obtain ⟨v21, hv21, h⟩ := zli h
  refine zS_istore (n := 23) (j := 4) (x' := v21) d_Dg_digest_21 rfl (Nat.le_of_ble_eq_true rfl) hv21 ?_
  refine zJ_iload (n := 25) (j := 4) (x := v21) d_Dg_digest_23 rfl rfl ?_
  refine zJ_iload (n := 27) (j := 4) (x := v21) d_Dg_digest_25 rfl rfl ?_
  refine zJ_bipush (n := 29) (v := 16) d_Dg_digest_27 rfl zcb_16 ?_
  refine zJ_iushr (n := 30) d_Dg_digest_29 rfl ?_
  refine zJ_ixor (n := 31) d_Dg_digest_30 rfl ?_
  refine zJ_ldc (n := 33) (v := 73244475) d_Dg_digest_31 rfl (ldc_Dg_22 D tt) ?_
  refine zJ_imul (n := 34) d_Dg_digest_33 rfl ?_
  obtain ⟨v34, hv34, h⟩ := zli h
  refine zS_istore (n := 36) (j := 4) (x' := v34) d_Dg_digest_34 rfl (Nat.le_of_ble_eq_true rfl) hv34 ?_
  refine zJ_iload (n := 38) (j := 4) (x := v34) d_Dg_digest_36 rfl rfl ?_
  refine zJ_iload (n := 40) (j := 4) (x := v34) d_Dg_digest_38 rfl rfl ?_
  refine zJ_bipush (n := 42) (v := 16) d_Dg_digest_40 rfl zcb_16 ?_
  refine zJ_iushr (n := 43) d_Dg_digest_42 rfl ?_
  refine zJ_ixor (n := 44) d_Dg_digest_43 rfl ?_
  obtain ⟨v44, hv44, h⟩ := zli h
  refine zS_istore (n := 46) (j := 4) (x' := v44) d_Dg_digest_44 rfl (Nat.le_of_ble_eq_true rfl) hv44 ?_
  refine zJ_iload (n := 48) (j := 4) (x := v44) d_Dg_digest_46 rfl rfl ?_
  refine zJ_aload_n (n := 49) (j := 0) (x := a 1) d_Dg_digest_48 rfl rfl rfl ?_
  refine zS_geti (n := 52) (k0 := 1) (j := 0) d_Dg_digest_49 rfl (fl_Dg_18 D tt) rfl rfl ?_
  refine zJ_iushr (n := 53) d_Dg_digest_52 rfl ?_
  obtain ⟨v53, hv53, h⟩ := zli h
  refine zS_istore (n := 55) (j := 5) (x' := v53) d_Dg_digest_53 rfl (Nat.le_of_ble_eq_true rfl) hv53 ?_
  refine zJ_iload (n := 57) (j := 5) (x := v53) d_Dg_digest_55 rfl rfl ?_
  refine zJ_if_ne (t := 64) (n := 60) d_Dg_digest_57 (by decide) rfl (fun hc => ?_) (fun hc => ?_)
  · rw [if_neg hc] at h
    refine zJ_iload (n := 66) (j := 5) (x := v53) d_Dg_digest_64 rfl rfl ?_
    cases h
    exact zS_ireturn d_Dg_digest_66 rfl rfl ⟨rfl, rfl⟩
  · rw [if_pos hc] at h
    refine zJ_iconst (n := 61) (v := 1) d_Dg_digest_60 rfl zci_1 ?_
    refine zJ_goto (t := 66) d_Dg_digest_61 (by decide) ?_
    cases h
    exact zS_ireturn d_Dg_digest_66 rfl rfl ⟨rfl, rfl⟩
theorem t_ED_hash {D : va_G} {tt : ClassId × ClassId × ClassId} {a : Nat → Nat} {d N : Nat} (hd : 1 ≤ d) {x1 : Int32} {x2 : Int32} {x3 : Int32} {M : zMem} {z : Int32 × zMem} (h : f_ED_hash N x1 x2 x3 M = some z) : zK (zEn D tt) zshp a mz_ED_hash d [.ref (a 0), .int x1, .int x2, .int x3] M (zRi z) := by
  refine zK.enter (L := [some (.ref (a 0)), some (.int x1), some (.int x2), some (.int x3)]) (by decide) rfl (Nat.le_of_ble_eq_true rfl) rfl ?_
  unfold f_ED_hash at h
  refine zJ_aload_n (n := 1) (j := 0) (x := a 0) d_ED_hash_0 rfl rfl rfl ?_
  refine zS_getr (n := 4) (k0 := 0) (j := 0) (q := 1) d_ED_hash_1 rfl (fl_ED_12 D tt) rfl rfl ?_
  refine zJ_iload_n (n := 5) (j := 1) (x := x1) d_ED_hash_4 rfl rfl rfl ?_
  refine zJ_iload_n (n := 6) (j := 2) (x := x2) d_ED_hash_5 rfl rfl rfl ?_
  refine zJ_iload_n (n := 7) (j := 3) (x := x3) d_ED_hash_6 rfl rfl rfl ?_
  obtain ⟨q7, hq7, h⟩ := zbd h
  refine zS_callVi (n := 10) (k0 := 1) (avs := [.int x1, .int x2, .int x3]) (rest := []) (z := q7) (d' := d - 1) d_ED_hash_7 rfl (vk_ED_83 D tt) rfl rfl rfl (Nat.le_of_ble_eq_true rfl) (by omega) (t_Dg_digest (by omega) hq7) ?_
  cases h
  exact zS_ireturn d_ED_hash_10 rfl rfl ⟨rfl, rfl⟩
theorem t_ED_isName {D : va_G} {tt : ClassId × ClassId × ClassId} {a : Nat → Nat} {d N : Nat} (hd : 0 ≤ d) {x0 : Int32} {M : zMem} {z : Int32 × zMem} (h : f_ED_isName N x0 M = some z) : zK (zEn D tt) zshp a mz_ED_isName d [.int x0] M (zRi z) := by
  refine zK.enter (L := [some (.int x0)]) (by decide) rfl (Nat.le_of_ble_eq_true rfl) rfl ?_
  unfold f_ED_isName at h
  refine zJ_iload_n (n := 1) (j := 0) (x := x0) d_ED_isName_0 rfl rfl rfl ?_
  refine zJ_if_lt (t := 14) (n := 4) d_ED_isName_1 (by decide) rfl (fun hc => ?_) (fun hc => ?_)
  · rw [if_pos hc] at h
    refine zJ_iconst (n := 15) (v := 0) d_ED_isName_14 rfl zci_0 ?_
    cases h
    exact zS_ireturn d_ED_isName_15 rfl rfl ⟨rfl, rfl⟩
  · rw [if_neg hc] at h
    refine zJ_iload_n (n := 5) (j := 0) (x := x0) d_ED_isName_4 rfl rfl rfl ?_
    refine zJ_bipush (n := 7) (v := 64) d_ED_isName_5 rfl zcb_64 ?_
    refine zJ_icmp_ge (t := 14) (n := 10) d_ED_isName_7 (by decide) rfl (fun hc => ?_) (fun hc => ?_)
    · rw [if_pos hc] at h
      refine zJ_iconst (n := 15) (v := 0) d_ED_isName_14 rfl zci_0 ?_
      cases h
      exact zS_ireturn d_ED_isName_15 rfl rfl ⟨rfl, rfl⟩
    · rw [if_neg hc] at h
      refine zJ_iconst (n := 11) (v := 1) d_ED_isName_10 rfl zci_1 ?_
      refine zJ_goto (t := 15) d_ED_isName_11 (by decide) ?_
      cases h
      exact zS_ireturn d_ED_isName_15 rfl rfl ⟨rfl, rfl⟩
theorem t_ED_isKey {D : va_G} {tt : ClassId × ClassId × ClassId} {a : Nat → Nat} {d N : Nat} (hd : 0 ≤ d) {x0 : Int32} {M : zMem} {z : Int32 × zMem} (h : f_ED_isKey N x0 M = some z) : zK (zEn D tt) zshp a mz_ED_isKey d [.int x0] M (zRi z) := by
  refine zK.enter (L := [some (.int x0)]) (by decide) rfl (Nat.le_of_ble_eq_true rfl) rfl ?_
  unfold f_ED_isKey at h
  refine zJ_iload_n (n := 1) (j := 0) (x := x0) d_ED_isKey_0 rfl rfl rfl ?_
  refine zJ_iconst (n := 2) (v := 1) d_ED_isKey_1 rfl zci_1 ?_
  refine zJ_icmp_lt (t := 15) (n := 5) d_ED_isKey_2 (by decide) rfl (fun hc => ?_) (fun hc => ?_)
  · rw [if_pos hc] at h
    refine zJ_iconst (n := 16) (v := 0) d_ED_isKey_15 rfl zci_0 ?_
    cases h
    exact zS_ireturn d_ED_isKey_16 rfl rfl ⟨rfl, rfl⟩
  · rw [if_neg hc] at h
    refine zJ_iload_n (n := 6) (j := 0) (x := x0) d_ED_isKey_5 rfl rfl rfl ?_
    refine zJ_ldc (n := 8) (v := 1000000) d_ED_isKey_6 rfl (ldc_ED_217 D tt) ?_
    refine zJ_icmp_gt (t := 15) (n := 11) d_ED_isKey_8 (by decide) rfl (fun hc => ?_) (fun hc => ?_)
    · rw [if_pos hc] at h
      refine zJ_iconst (n := 16) (v := 0) d_ED_isKey_15 rfl zci_0 ?_
      cases h
      exact zS_ireturn d_ED_isKey_16 rfl rfl ⟨rfl, rfl⟩
    · rw [if_neg hc] at h
      refine zJ_iconst (n := 12) (v := 1) d_ED_isKey_11 rfl zci_1 ?_
      refine zJ_goto (t := 16) d_ED_isKey_12 (by decide) ?_
      cases h
      exact zS_ireturn d_ED_isKey_16 rfl rfl ⟨rfl, rfl⟩
theorem t_NM_give {D : va_G} {tt : ClassId × ClassId × ClassId} {a : Nat → Nat} {d N : Nat} (hd : 0 ≤ d) {x1 : Int32} {x2 : Int32} {M : zMem} {z : Int32 × zMem} (h : f_NM_give N x1 x2 M = some z) : zK (zEn D tt) zshp a mz_NM_give d [.ref (a 2), .int x1, .int x2] M (zRv z) := by
  refine zK.enter (L := [some (.ref (a 2)), some (.int x1), some (.int x2)]) (by decide) rfl (Nat.le_of_ble_eq_true rfl) rfl ?_
  unfold f_NM_give at h
  refine zJ_aload_n (n := 1) (j := 0) (x := a 2) d_NM_give_0 rfl rfl rfl ?_
  refine zS_getr (n := 4) (k0 := 2) (j := 1) (q := 4) d_NM_give_1 rfl (fl_NM_15 D tt) rfl rfl ?_
  refine zJ_iload_n (n := 5) (j := 1) (x := x1) d_NM_give_4 rfl rfl rfl ?_
  obtain ⟨g5, h⟩ := zgd h
  refine zS_iald (n := 6) (k0 := 4) d_NM_give_5 rfl rfl rfl rfl g5 ?_
  refine zJ_if_ne (t := 19) (n := 9) d_NM_give_6 (by decide) rfl (fun hc => ?_) (fun hc => ?_)
  · rw [if_neg hc] at h
    refine zJ_aload_n (n := 20) (j := 0) (x := a 2) d_NM_give_19 rfl rfl rfl ?_
    refine zS_getr (n := 23) (k0 := 2) (j := 1) (q := 4) d_NM_give_20 rfl (fl_NM_15 D tt) rfl rfl ?_
    refine zJ_iload_n (n := 24) (j := 1) (x := x1) d_NM_give_23 rfl rfl rfl ?_
    refine zJ_iload_n (n := 25) (j := 2) (x := x2) d_NM_give_24 rfl rfl rfl ?_
    obtain ⟨g25, h⟩ := zgd h
    obtain ⟨M25, hM25, h⟩ := zli h
    refine zS_iastN (n := 26) (k0 := 4) d_NM_give_25 rfl rfl rfl rfl g25 hM25 ?_
    cases h
    exact zS_return d_NM_give_26 rfl ⟨rfl, rfl⟩
  · rw [if_pos hc] at h
    refine zJ_aload_n (n := 10) (j := 0) (x := a 2) d_NM_give_9 rfl rfl rfl ?_
    refine zJ_dup (n := 11) d_NM_give_10 rfl rfl ?_
    refine zS_geti (n := 14) (k0 := 2) (j := 3) d_NM_give_11 rfl (fl_NM_18 D tt) rfl rfl ?_
    refine zJ_iconst (n := 15) (v := 1) d_NM_give_14 rfl zci_1 ?_
    refine zJ_iadd (n := 16) d_NM_give_15 rfl ?_
    obtain ⟨M16, hM16, h⟩ := zli h
    refine zS_putN (n := 19) (k0 := 2) (j := 3) d_NM_give_16 rfl (fl_NM_18 D tt) zty_NM rfl rfl rfl rfl rfl hM16 ?_
    refine zJ_aload_n (n := 20) (j := 0) (x := a 2) d_NM_give_19 rfl rfl rfl ?_
    refine zS_getr (n := 23) (k0 := 2) (j := 1) (q := 4) d_NM_give_20 rfl (fl_NM_15 D tt) rfl rfl ?_
    refine zJ_iload_n (n := 24) (j := 1) (x := x1) d_NM_give_23 rfl rfl rfl ?_
    refine zJ_iload_n (n := 25) (j := 2) (x := x2) d_NM_give_24 rfl rfl rfl ?_
    obtain ⟨g25, h⟩ := zgd h
    obtain ⟨M25, hM25, h⟩ := zli h
    refine zS_iastN (n := 26) (k0 := 4) d_NM_give_25 rfl rfl rfl rfl g25 hM25 ?_
    cases h
    exact zS_return d_NM_give_26 rfl ⟨rfl, rfl⟩
theorem t_ED_put {D : va_G} {tt : ClassId × ClassId × ClassId} {a : Nat → Nat} {d N : Nat} (hd : 1 ≤ d) {x1 : Int32} {x2 : Int32} {M : zMem} {z : Int32 × zMem} (h : f_ED_put N x1 x2 M = some z) : zK (zEn D tt) zshp a mz_ED_put d [.ref (a 0), .int x1, .int x2] M (zRi z) := by
  refine zK.enter (L := [some (.ref (a 0)), some (.int x1), some (.int x2)]) (by decide) rfl (Nat.le_of_ble_eq_true rfl) rfl ?_
  unfold f_ED_put at h
  refine zJ_aload_n (n := 1) (j := 0) (x := a 0) d_ED_put_0 rfl rfl rfl ?_
  refine zS_geti (n := 4) (k0 := 0) (j := 11) d_ED_put_1 rfl (fl_ED_87 D tt) rfl rfl ?_
  refine zJ_if_eq (t := 10) (n := 7) d_ED_put_4 (by decide) rfl (fun hc => ?_) (fun hc => ?_)
  · rw [if_pos hc] at h
    refine zJ_iload_n (n := 11) (j := 1) (x := x1) d_ED_put_10 rfl rfl rfl ?_
    obtain ⟨q11, hq11, h⟩ := zbd h
    refine zS_callSi (n := 14) (avs := [.int x1]) (rest := []) (z := q11) (d' := d - 1) d_ED_put_11 rfl (sk_ED_91 D tt) rfl rfl (Nat.le_of_ble_eq_true rfl) (by omega) (t_ED_isName (by omega) hq11) ?_
    refine zJ_if_eq (t := 24) (n := 17) d_ED_put_14 (by decide) rfl (fun hc => ?_) (fun hc => ?_)
    · rw [if_pos hc] at h
      refine zJ_iconst (n := 25) (v := -1) d_ED_put_24 rfl zci_m1 ?_
      cases h
      exact zS_ireturn d_ED_put_25 rfl rfl ⟨rfl, rfl⟩
    · rw [if_neg hc] at h
      refine zJ_iload_n (n := 18) (j := 2) (x := x2) d_ED_put_17 rfl rfl rfl ?_
      obtain ⟨q18, hq18, h⟩ := zbd h
      refine zS_callSi (n := 21) (avs := [.int x2]) (rest := []) (z := q18) (d' := d - 1) d_ED_put_18 rfl (sk_ED_95 D tt) rfl rfl (Nat.le_of_ble_eq_true rfl) (by omega) (t_ED_isKey (by omega) hq18) ?_
      refine zJ_if_ne (t := 26) (n := 24) d_ED_put_21 (by decide) rfl (fun hc => ?_) (fun hc => ?_)
      · rw [if_neg hc] at h
        refine zJ_aload_n (n := 27) (j := 0) (x := a 0) d_ED_put_26 rfl rfl rfl ?_
        refine zS_getr (n := 30) (k0 := 0) (j := 1) (q := 2) d_ED_put_27 rfl (fl_ED_21 D tt) rfl rfl ?_
        refine zJ_iload_n (n := 31) (j := 1) (x := x1) d_ED_put_30 rfl rfl rfl ?_
        refine zJ_iload_n (n := 32) (j := 2) (x := x2) d_ED_put_31 rfl rfl rfl ?_
        obtain ⟨q32, hq32, h⟩ := zbd h
        refine zS_callVv (n := 35) (k0 := 2) (avs := [.int x1, .int x2]) (rest := []) (z := q32) (d' := d - 1) d_ED_put_32 rfl (vk_ED_98 D tt) rfl rfl rfl (Nat.le_of_ble_eq_true rfl) (by omega) (t_NM_give (by omega) hq32) ?_
        refine zJ_aload_n (n := 36) (j := 0) (x := a 0) d_ED_put_35 rfl rfl rfl ?_
        refine zS_getr (n := 39) (k0 := 0) (j := 1) (q := 2) d_ED_put_36 rfl (fl_ED_21 D tt) rfl rfl ?_
        refine zS_geti (n := 42) (k0 := 2) (j := 3) d_ED_put_39 rfl (fl_ED_102 D tt) rfl rfl ?_
        cases h
        exact zS_ireturn d_ED_put_42 rfl rfl ⟨rfl, rfl⟩
      · rw [if_pos hc] at h
        refine zJ_iconst (n := 25) (v := -1) d_ED_put_24 rfl zci_m1 ?_
        cases h
        exact zS_ireturn d_ED_put_25 rfl rfl ⟨rfl, rfl⟩
  · rw [if_neg hc] at h
    refine zJ_bipush (n := 9) (v := -9) d_ED_put_7 rfl zcb_m9 ?_
    cases h
    exact zS_ireturn d_ED_put_9 rfl rfl ⟨rfl, rfl⟩
theorem t_ED_indexOf {D : va_G} {tt : ClassId × ClassId × ClassId} {a : Nat → Nat} {d N : Nat} (hd : 0 ≤ d) {x0 : Int32} {M : zMem} {z : Int32 × zMem} (h : f_ED_indexOf N x0 M = some z) : zK (zEn D tt) zshp a mz_ED_indexOf d [.int x0] M (zRi z) := by
  refine zK.enter (L := [some (.int x0)]) (by decide) rfl (Nat.le_of_ble_eq_true rfl) rfl ?_
  unfold f_ED_indexOf at h
  refine zJ_bipush (n := 2) (v := 37) d_ED_indexOf_0 rfl zcb_37 ?_
  refine zJ_iload_n (n := 3) (j := 0) (x := x0) d_ED_indexOf_2 rfl rfl rfl ?_
  refine zJ_imul (n := 4) d_ED_indexOf_3 rfl ?_
  refine zJ_bipush (n := 6) (v := 11) d_ED_indexOf_4 rfl zcb_11 ?_
  refine zJ_iadd (n := 7) d_ED_indexOf_6 rfl ?_
  refine zJ_bipush (n := 9) (v := 64) d_ED_indexOf_7 rfl zcb_64 ?_
  refine zJ_irem (n := 10) d_ED_indexOf_9 rfl (by decide) ?_
  cases h
  exact zS_ireturn d_ED_indexOf_10 rfl rfl ⟨rfl, rfl⟩
theorem t_NM_keyOf {D : va_G} {tt : ClassId × ClassId × ClassId} {a : Nat → Nat} {d N : Nat} (hd : 0 ≤ d) {x1 : Int32} {M : zMem} {z : Int32 × zMem} (h : f_NM_keyOf N x1 M = some z) : zK (zEn D tt) zshp a mz_NM_keyOf d [.ref (a 2), .int x1] M (zRi z) := by
  refine zK.enter (L := [some (.ref (a 2)), some (.int x1)]) (by decide) rfl (Nat.le_of_ble_eq_true rfl) rfl ?_
  unfold f_NM_keyOf at h
  refine zJ_aload_n (n := 1) (j := 0) (x := a 2) d_NM_keyOf_0 rfl rfl rfl ?_
  refine zS_getr (n := 4) (k0 := 2) (j := 1) (q := 4) d_NM_keyOf_1 rfl (fl_NM_15 D tt) rfl rfl ?_
  refine zJ_iload_n (n := 5) (j := 1) (x := x1) d_NM_keyOf_4 rfl rfl rfl ?_
  obtain ⟨g5, h⟩ := zgd h
  refine zS_iald (n := 6) (k0 := 4) d_NM_keyOf_5 rfl rfl rfl rfl g5 ?_
  refine zJ_if_eq (t := 18) (n := 9) d_NM_keyOf_6 (by decide) rfl (fun hc => ?_) (fun hc => ?_)
  · rw [if_pos hc] at h
    refine zJ_aload_n (n := 19) (j := 0) (x := a 2) d_NM_keyOf_18 rfl rfl rfl ?_
    refine zS_getr (n := 22) (k0 := 2) (j := 0) (q := 3) d_NM_keyOf_19 rfl (fl_NM_9 D tt) rfl rfl ?_
    refine zJ_iload_n (n := 23) (j := 1) (x := x1) d_NM_keyOf_22 rfl rfl rfl ?_
    obtain ⟨g23, h⟩ := zgd h
    refine zS_iald (n := 24) (k0 := 3) d_NM_keyOf_23 rfl rfl rfl rfl g23 ?_
    cases h
    exact zS_ireturn d_NM_keyOf_24 rfl rfl ⟨rfl, rfl⟩
  · rw [if_neg hc] at h
    refine zJ_aload_n (n := 10) (j := 0) (x := a 2) d_NM_keyOf_9 rfl rfl rfl ?_
    refine zS_getr (n := 13) (k0 := 2) (j := 1) (q := 4) d_NM_keyOf_10 rfl (fl_NM_15 D tt) rfl rfl ?_
    refine zJ_iload_n (n := 14) (j := 1) (x := x1) d_NM_keyOf_13 rfl rfl rfl ?_
    obtain ⟨g14, h⟩ := zgd h
    refine zS_iald (n := 15) (k0 := 4) d_NM_keyOf_14 rfl rfl rfl rfl g14 ?_
    refine zJ_goto (t := 24) d_NM_keyOf_15 (by decide) ?_
    cases h
    exact zS_ireturn d_NM_keyOf_24 rfl rfl ⟨rfl, rfl⟩
theorem t_NM_wasPut {D : va_G} {tt : ClassId × ClassId × ClassId} {a : Nat → Nat} {d N : Nat} (hd : 0 ≤ d) {x1 : Int32} {M : zMem} {z : Int32 × zMem} (h : f_NM_wasPut N x1 M = some z) : zK (zEn D tt) zshp a mz_NM_wasPut d [.ref (a 2), .int x1] M (zRi z) := by
  refine zK.enter (L := [some (.ref (a 2)), some (.int x1)]) (by decide) rfl (Nat.le_of_ble_eq_true rfl) rfl ?_
  unfold f_NM_wasPut at h
  refine zJ_aload_n (n := 1) (j := 0) (x := a 2) d_NM_wasPut_0 rfl rfl rfl ?_
  refine zS_getr (n := 4) (k0 := 2) (j := 1) (q := 4) d_NM_wasPut_1 rfl (fl_NM_15 D tt) rfl rfl ?_
  refine zJ_iload_n (n := 5) (j := 1) (x := x1) d_NM_wasPut_4 rfl rfl rfl ?_
  obtain ⟨g5, h⟩ := zgd h
  refine zS_iald (n := 6) (k0 := 4) d_NM_wasPut_5 rfl rfl rfl rfl g5 ?_
  refine zJ_if_eq (t := 13) (n := 9) d_NM_wasPut_6 (by decide) rfl (fun hc => ?_) (fun hc => ?_)
  · rw [if_pos hc] at h
    refine zJ_iconst (n := 14) (v := 0) d_NM_wasPut_13 rfl zci_0 ?_
    cases h
    exact zS_ireturn d_NM_wasPut_14 rfl rfl ⟨rfl, rfl⟩
  · rw [if_neg hc] at h
    refine zJ_iconst (n := 10) (v := 1) d_NM_wasPut_9 rfl zci_1 ?_
    refine zJ_goto (t := 14) d_NM_wasPut_10 (by decide) ?_
    cases h
    exact zS_ireturn d_NM_wasPut_14 rfl rfl ⟨rfl, rfl⟩
theorem t_Pl_countNames_b156 {D : va_G} {tt : ClassId × ClassId × ClassId} {a : Nat → Nat} {d N : Nat} (hd : 1 ≤ d) {z : Int32 × zMem} {k62 : Int32 → zMem → Option (Int32 × zMem)} (hk62 : ∀ (x2 : Int32) (o1 o3 o4 : Option Value) (M : zMem), k62 x2 M = some z → zS (zEn D tt) zshp a mz_Pl_countNames d zTr (zFs (zEn D tt) zshp a (zRv z)) 62 [some (.ref (a 12)), o1, some (.int x2), o3, o4] [] M) {x2 : Int32} {s1 : Int32} {s2 : Int32} {o1 : Option Value} {o3 : Option Value} {o4 : Option Value} {M : zMem} (h : f_Pl_countNames_b156 N k62 x2 s1 s2 M = some z) : zS (zEn D tt) zshp a mz_Pl_countNames d zTr (zFs (zEn D tt) zshp a (zRv z)) 156 [some (.ref (a 12)), o1, some (.int x2), o3, o4] [.int s2, .int s1, .ref (a 15)] M := by
  unfold f_Pl_countNames_b156 at h
  obtain ⟨g156, h⟩ := zgd h
  obtain ⟨gz156, h⟩ := zgd h
  obtain ⟨M156, hM156, h⟩ := zli h
  refine zS_zastN (n := 157) (k0 := 15) d_Pl_countNames_156 rfl rfl rfl rfl g156 (zbool_vp gz156) hM156 ?_
  obtain ⟨v157, hv157, h⟩ := zli h
  refine zS_iinc (n := 160) (j := 2) (x := x2) (v := -1) (x' := v157) d_Pl_countNames_157 rfl rfl zci_m1 (Nat.le_of_ble_eq_true rfl) hv157 ?_
  refine zJ_goto (t := 62) d_Pl_countNames_160 (by decide) ?_
  exact hk62 _ _ _ _ _ h
theorem t_Pl_countNames_b151 {D : va_G} {tt : ClassId × ClassId × ClassId} {a : Nat → Nat} {d N : Nat} (hd : 1 ≤ d) {z : Int32 × zMem} {k62 : Int32 → zMem → Option (Int32 × zMem)} (hk62 : ∀ (x2 : Int32) (o1 o3 o4 : Option Value) (M : zMem), k62 x2 M = some z → zS (zEn D tt) zshp a mz_Pl_countNames d zTr (zFs (zEn D tt) zshp a (zRv z)) 62 [some (.ref (a 12)), o1, some (.int x2), o3, o4] [] M) {x2 : Int32} {s1 : Int32} {o1 : Option Value} {o3 : Option Value} {o4 : Option Value} {M : zMem} (h : f_Pl_countNames_b151 N k62 x2 s1 M = some z) : zS (zEn D tt) zshp a mz_Pl_countNames d zTr (zFs (zEn D tt) zshp a (zRv z)) 151 [some (.ref (a 12)), o1, some (.int x2), o3, o4] [.int s1, .ref (a 15)] M := by
  unfold f_Pl_countNames_b151 at h
  refine zJ_iconst (n := 152) (v := 1) d_Pl_countNames_151 rfl zci_1 ?_
  refine zJ_goto (t := 156) d_Pl_countNames_152 (by decide) ?_
  exact t_Pl_countNames_b156 hd hk62 h
theorem t_Pl_countNames_b126 {D : va_G} {tt : ClassId × ClassId × ClassId} {a : Nat → Nat} {d N : Nat} (hd : 1 ≤ d) {z : Int32 × zMem} {k62 : Int32 → zMem → Option (Int32 × zMem)} (hk62 : ∀ (x2 : Int32) (o1 o3 o4 : Option Value) (M : zMem), k62 x2 M = some z → zS (zEn D tt) zshp a mz_Pl_countNames d zTr (zFs (zEn D tt) zshp a (zRv z)) 62 [some (.ref (a 12)), o1, some (.int x2), o3, o4] [] M) {x2 : Int32} {x3 : Int32} {x4 : Int32} {s1 : Int32} {s2 : Int32} {o1 : Option Value} {M : zMem} (h : f_Pl_countNames_b126 N k62 x2 x3 x4 s1 s2 M = some z) : zS (zEn D tt) zshp a mz_Pl_countNames d zTr (zFs (zEn D tt) zshp a (zRv z)) 126 [some (.ref (a 12)), o1, some (.int x2), some (.int x3), some (.int x4)] [.int s2, .int s1, .ref (a 14)] M := by
  unfold f_Pl_countNames_b126 at h
  obtain ⟨g126, h⟩ := zgd h
  obtain ⟨M126, hM126, h⟩ := zli h
  refine zS_iastN (n := 127) (k0 := 14) d_Pl_countNames_126 rfl rfl rfl rfl g126 hM126 ?_
  refine zJ_aload_n (n := 128) (j := 0) (x := a 12) d_Pl_countNames_127 rfl rfl rfl ?_
  refine zS_getr (n := 131) (k0 := 12) (j := 2) (q := 15) d_Pl_countNames_128 rfl (fl_Pl_18 D tt) rfl rfl ?_
  refine zJ_iload_n (n := 132) (j := 2) (x := x2) d_Pl_countNames_131 rfl rfl rfl ?_
  refine zJ_aload_n (n := 133) (j := 0) (x := a 12) d_Pl_countNames_132 rfl rfl rfl ?_
  refine zS_getr (n := 136) (k0 := 12) (j := 2) (q := 15) d_Pl_countNames_133 rfl (fl_Pl_18 D tt) rfl rfl ?_
  refine zJ_iload_n (n := 137) (j := 3) (x := x3) d_Pl_countNames_136 rfl rfl rfl ?_
  obtain ⟨g137, h⟩ := zgd h
  refine zS_zald (n := 138) (k0 := 15) d_Pl_countNames_137 rfl rfl rfl rfl g137 ?_
  refine zJ_if_ne (t := 151) (n := 141) d_Pl_countNames_138 (by decide) rfl (fun hc => ?_) (fun hc => ?_)
  · rw [if_neg hc] at h
    exact t_Pl_countNames_b151 hd hk62 h
  · rw [if_pos hc] at h
    refine zJ_aload_n (n := 142) (j := 0) (x := a 12) d_Pl_countNames_141 rfl rfl rfl ?_
    refine zS_getr (n := 145) (k0 := 12) (j := 2) (q := 15) d_Pl_countNames_142 rfl (fl_Pl_18 D tt) rfl rfl ?_
    refine zJ_iload (n := 147) (j := 4) (x := x4) d_Pl_countNames_145 rfl rfl ?_
    obtain ⟨g147, h⟩ := zgd h
    refine zS_zald (n := 148) (k0 := 15) d_Pl_countNames_147 rfl rfl rfl rfl g147 ?_
    refine zJ_if_eq (t := 155) (n := 151) d_Pl_countNames_148 (by decide) rfl (fun hc => ?_) (fun hc => ?_)
    · rw [if_pos hc] at h
      refine zJ_iconst (n := 156) (v := 0) d_Pl_countNames_155 rfl zci_0 ?_
      exact t_Pl_countNames_b156 hd hk62 h
    · rw [if_neg hc] at h
      exact t_Pl_countNames_b151 hd hk62 h
theorem t_Pl_countNames_l62 {D : va_G} {tt : ClassId × ClassId × ClassId} {a : Nat → Nat} {d N : Nat} (hd : 1 ≤ d) {z : Int32 × zMem} : ∀ (n : Nat), ∀ (x2 : Int32) (o1 o3 o4 : Option Value) (M : zMem), f_Pl_countNames_l62 N n x2 M = some z → zS (zEn D tt) zshp a mz_Pl_countNames d zTr (zFs (zEn D tt) zshp a (zRv z)) 62 [some (.ref (a 12)), o1, some (.int x2), o3, o4] [] M := by
  intro n
  induction n with
  | zero =>
    intro x2 o1 o3 o4 M h
    rw [f_Pl_countNames_l62] at h
    cases h
  | succ n ih =>
    intro x2 o1 o3 o4 M h
    rw [f_Pl_countNames_l62] at h
    refine zJ_iload_n (n := 63) (j := 2) (x := x2) d_Pl_countNames_62 rfl rfl rfl ?_
    refine zJ_iconst (n := 64) (v := 1) d_Pl_countNames_63 rfl zci_1 ?_
    refine zJ_icmp_lt (t := 163) (n := 67) d_Pl_countNames_64 (by decide) rfl (fun hc => ?_) (fun hc => ?_)
    · rw [if_pos hc] at h
      cases h
      exact zS_return d_Pl_countNames_163 rfl ⟨rfl, rfl⟩
    · rw [if_neg hc] at h
      refine zJ_iconst (n := 68) (v := 2) d_Pl_countNames_67 rfl zci_2 ?_
      refine zJ_iload_n (n := 69) (j := 2) (x := x2) d_Pl_countNames_68 rfl rfl rfl ?_
      refine zJ_imul (n := 70) d_Pl_countNames_69 rfl ?_
      obtain ⟨v70, hv70, h⟩ := zli h
      refine zS_istore_n (n := 71) (j := 3) (x' := v70) d_Pl_countNames_70 rfl rfl (Nat.le_of_ble_eq_true rfl) hv70 ?_
      refine zJ_iload_n (n := 72) (j := 3) (x := v70) d_Pl_countNames_71 rfl rfl rfl ?_
      refine zJ_iconst (n := 73) (v := 1) d_Pl_countNames_72 rfl zci_1 ?_
      refine zJ_iadd (n := 74) d_Pl_countNames_73 rfl ?_
      obtain ⟨v74, hv74, h⟩ := zli h
      refine zS_istore (n := 76) (j := 4) (x' := v74) d_Pl_countNames_74 rfl (Nat.le_of_ble_eq_true rfl) hv74 ?_
      refine zJ_aload_n (n := 77) (j := 0) (x := a 12) d_Pl_countNames_76 rfl rfl rfl ?_
      refine zS_getr (n := 80) (k0 := 12) (j := 0) (q := 13) d_Pl_countNames_77 rfl (fl_Pl_9 D tt) rfl rfl ?_
      refine zJ_iload_n (n := 81) (j := 2) (x := x2) d_Pl_countNames_80 rfl rfl rfl ?_
      refine zJ_aload_n (n := 82) (j := 0) (x := a 12) d_Pl_countNames_81 rfl rfl rfl ?_
      refine zS_getr (n := 85) (k0 := 12) (j := 0) (q := 13) d_Pl_countNames_82 rfl (fl_Pl_9 D tt) rfl rfl ?_
      refine zJ_iload_n (n := 86) (j := 3) (x := v70) d_Pl_countNames_85 rfl rfl rfl ?_
      obtain ⟨g86, h⟩ := zgd h
      refine zS_iald (n := 87) (k0 := 13) d_Pl_countNames_86 rfl rfl rfl rfl g86 ?_
      refine zJ_aload_n (n := 88) (j := 0) (x := a 12) d_Pl_countNames_87 rfl rfl rfl ?_
      refine zS_getr (n := 91) (k0 := 12) (j := 0) (q := 13) d_Pl_countNames_88 rfl (fl_Pl_9 D tt) rfl rfl ?_
      refine zJ_iload (n := 93) (j := 4) (x := v74) d_Pl_countNames_91 rfl rfl ?_
      obtain ⟨g93, h⟩ := zgd h
      refine zS_iald (n := 94) (k0 := 13) d_Pl_countNames_93 rfl rfl rfl rfl g93 ?_
      refine zJ_iadd (n := 95) d_Pl_countNames_94 rfl ?_
      obtain ⟨g95, h⟩ := zgd h
      obtain ⟨M95, hM95, h⟩ := zli h
      refine zS_iastN (n := 96) (k0 := 13) d_Pl_countNames_95 rfl rfl rfl rfl g95 hM95 ?_
      refine zJ_aload_n (n := 97) (j := 0) (x := a 12) d_Pl_countNames_96 rfl rfl rfl ?_
      refine zS_getr (n := 100) (k0 := 12) (j := 1) (q := 14) d_Pl_countNames_97 rfl (fl_Pl_15 D tt) rfl rfl ?_
      refine zJ_iload_n (n := 101) (j := 2) (x := x2) d_Pl_countNames_100 rfl rfl rfl ?_
      refine zJ_aload_n (n := 102) (j := 0) (x := a 12) d_Pl_countNames_101 rfl rfl rfl ?_
      refine zS_getr (n := 105) (k0 := 12) (j := 0) (q := 13) d_Pl_countNames_102 rfl (fl_Pl_9 D tt) rfl rfl ?_
      refine zJ_iload_n (n := 106) (j := 3) (x := v70) d_Pl_countNames_105 rfl rfl rfl ?_
      obtain ⟨g106, h⟩ := zgd h
      refine zS_iald (n := 107) (k0 := 13) d_Pl_countNames_106 rfl rfl rfl rfl g106 ?_
      refine zJ_if_le (t := 119) (n := 110) d_Pl_countNames_107 (by decide) rfl (fun hc => ?_) (fun hc => ?_)
      · rw [if_pos hc] at h
        refine zJ_aload_n (n := 120) (j := 0) (x := a 12) d_Pl_countNames_119 rfl rfl rfl ?_
        refine zS_getr (n := 123) (k0 := 12) (j := 1) (q := 14) d_Pl_countNames_120 rfl (fl_Pl_15 D tt) rfl rfl ?_
        refine zJ_iload (n := 125) (j := 4) (x := v74) d_Pl_countNames_123 rfl rfl ?_
        obtain ⟨g125, h⟩ := zgd h
        refine zS_iald (n := 126) (k0 := 14) d_Pl_countNames_125 rfl rfl rfl rfl g125 ?_
        exact t_Pl_countNames_b126 hd ih h
      · rw [if_neg hc] at h
        refine zJ_aload_n (n := 111) (j := 0) (x := a 12) d_Pl_countNames_110 rfl rfl rfl ?_
        refine zS_getr (n := 114) (k0 := 12) (j := 1) (q := 14) d_Pl_countNames_111 rfl (fl_Pl_15 D tt) rfl rfl ?_
        refine zJ_iload_n (n := 115) (j := 3) (x := v70) d_Pl_countNames_114 rfl rfl rfl ?_
        obtain ⟨g115, h⟩ := zgd h
        refine zS_iald (n := 116) (k0 := 14) d_Pl_countNames_115 rfl rfl rfl rfl g115 ?_
        refine zJ_goto (t := 126) d_Pl_countNames_116 (by decide) ?_
        exact t_Pl_countNames_b126 hd ih h
theorem t_Pl_countNames_b34 {D : va_G} {tt : ClassId × ClassId × ClassId} {a : Nat → Nat} {d N : Nat} (hd : 1 ≤ d) {z : Int32 × zMem} {k2 : Int32 → zMem → Option (Int32 × zMem)} (hk2 : ∀ (x2 : Int32) (o3 o4 : Option Value) (M : zMem), k2 x2 M = some z → zS (zEn D tt) zshp a mz_Pl_countNames d zTr (zFs (zEn D tt) zshp a (zRv z)) 2 [some (.ref (a 12)), some (.ref (a 2)), some (.int x2), o3, o4] [] M) {x2 : Int32} {x3 : Int32} {s1 : Int32} {s2 : Int32} {o4 : Option Value} {M : zMem} (h : f_Pl_countNames_b34 N k2 x2 x3 s1 s2 M = some z) : zS (zEn D tt) zshp a mz_Pl_countNames d zTr (zFs (zEn D tt) zshp a (zRv z)) 34 [some (.ref (a 12)), some (.ref (a 2)), some (.int x2), some (.int x3), o4] [.int s2, .int s1, .ref (a 13)] M := by
  unfold f_Pl_countNames_b34 at h
  obtain ⟨g34, h⟩ := zgd h
  obtain ⟨M34, hM34, h⟩ := zli h
  refine zS_iastN (n := 35) (k0 := 13) d_Pl_countNames_34 rfl rfl rfl rfl g34 hM34 ?_
  refine zJ_aload_n (n := 36) (j := 0) (x := a 12) d_Pl_countNames_35 rfl rfl rfl ?_
  refine zS_getr (n := 39) (k0 := 12) (j := 1) (q := 14) d_Pl_countNames_36 rfl (fl_Pl_15 D tt) rfl rfl ?_
  refine zJ_iload_n (n := 40) (j := 3) (x := x3) d_Pl_countNames_39 rfl rfl rfl ?_
  refine zJ_iload_n (n := 41) (j := 2) (x := x2) d_Pl_countNames_40 rfl rfl rfl ?_
  obtain ⟨g41, h⟩ := zgd h
  obtain ⟨M41, hM41, h⟩ := zli h
  refine zS_iastN (n := 42) (k0 := 14) d_Pl_countNames_41 rfl rfl rfl rfl g41 hM41 ?_
  refine zJ_aload_n (n := 43) (j := 0) (x := a 12) d_Pl_countNames_42 rfl rfl rfl ?_
  refine zS_getr (n := 46) (k0 := 12) (j := 2) (q := 15) d_Pl_countNames_43 rfl (fl_Pl_18 D tt) rfl rfl ?_
  refine zJ_iload_n (n := 47) (j := 3) (x := x3) d_Pl_countNames_46 rfl rfl rfl ?_
  refine zJ_aload_n (n := 48) (j := 1) (x := a 2) d_Pl_countNames_47 rfl rfl rfl ?_
  refine zJ_iload_n (n := 49) (j := 2) (x := x2) d_Pl_countNames_48 rfl rfl rfl ?_
  obtain ⟨q49, hq49, h⟩ := zbd h
  refine zS_callVi (n := 52) (k0 := 2) (avs := [.int x2]) (rest := [.int x3, .ref (a 15)]) (z := q49) (d' := d - 1) d_Pl_countNames_49 rfl (vk_Pl_53 D tt) rfl rfl rfl (Nat.le_of_ble_eq_true rfl) (by omega) (t_NM_wasPut (by omega) hq49) ?_
  obtain ⟨g52, h⟩ := zgd h
  obtain ⟨gz52, h⟩ := zgd h
  obtain ⟨M52, hM52, h⟩ := zli h
  refine zS_zastN (n := 53) (k0 := 15) d_Pl_countNames_52 rfl rfl rfl rfl g52 (zbool_vp gz52) hM52 ?_
  obtain ⟨v53, hv53, h⟩ := zli h
  refine zS_iinc (n := 56) (j := 2) (x := x2) (v := 1) (x' := v53) d_Pl_countNames_53 rfl rfl zci_1 (Nat.le_of_ble_eq_true rfl) hv53 ?_
  refine zJ_goto (t := 2) d_Pl_countNames_56 (by decide) ?_
  exact hk2 _ _ _ _ h
theorem t_Pl_countNames_l2 {D : va_G} {tt : ClassId × ClassId × ClassId} {a : Nat → Nat} {d N : Nat} (hd : 1 ≤ d) {z : Int32 × zMem} : ∀ (n : Nat), ∀ (x2 : Int32) (o3 o4 : Option Value) (M : zMem), f_Pl_countNames_l2 N n x2 M = some z → zS (zEn D tt) zshp a mz_Pl_countNames d zTr (zFs (zEn D tt) zshp a (zRv z)) 2 [some (.ref (a 12)), some (.ref (a 2)), some (.int x2), o3, o4] [] M := by
  intro n
  induction n with
  | zero =>
    intro x2 o3 o4 M h
    rw [f_Pl_countNames_l2] at h
    cases h
  | succ n ih =>
    intro x2 o3 o4 M h
    rw [f_Pl_countNames_l2] at h
    refine zJ_iload_n (n := 3) (j := 2) (x := x2) d_Pl_countNames_2 rfl rfl rfl ?_
    refine zJ_bipush (n := 5) (v := 64) d_Pl_countNames_3 rfl zcb_64 ?_
    refine zJ_icmp_ge (t := 59) (n := 8) d_Pl_countNames_5 (by decide) rfl (fun hc => ?_) (fun hc => ?_)
    · rw [if_pos hc] at h
      refine zJ_bipush (n := 61) (v := 63) d_Pl_countNames_59 rfl zcb_63 ?_
      refine zS_istore_n (n := 62) (j := 2) (x' := (63 : Int32)) d_Pl_countNames_61 rfl rfl (Nat.le_of_ble_eq_true rfl) rfl ?_
      exact t_Pl_countNames_l62 hd N _ _ _ _ _ h
    · rw [if_neg hc] at h
      refine zJ_bipush (n := 10) (v := 64) d_Pl_countNames_8 rfl zcb_64 ?_
      refine zJ_iload_n (n := 11) (j := 2) (x := x2) d_Pl_countNames_10 rfl rfl rfl ?_
      obtain ⟨q11, hq11, h⟩ := zbd h
      refine zS_callSi (n := 14) (avs := [.int x2]) (rest := [.int (64 : Int32)]) (z := q11) (d' := d - 1) d_Pl_countNames_11 rfl (sk_Pl_44 D tt) rfl rfl (Nat.le_of_ble_eq_true rfl) (by omega) (t_ED_indexOf (by omega) hq11) ?_
      refine zJ_iadd (n := 15) d_Pl_countNames_14 rfl ?_
      obtain ⟨v15, hv15, h⟩ := zli h
      refine zS_istore_n (n := 16) (j := 3) (x' := v15) d_Pl_countNames_15 rfl rfl (Nat.le_of_ble_eq_true rfl) hv15 ?_
      refine zJ_aload_n (n := 17) (j := 0) (x := a 12) d_Pl_countNames_16 rfl rfl rfl ?_
      refine zS_getr (n := 20) (k0 := 12) (j := 0) (q := 13) d_Pl_countNames_17 rfl (fl_Pl_9 D tt) rfl rfl ?_
      refine zJ_iload_n (n := 21) (j := 3) (x := v15) d_Pl_countNames_20 rfl rfl rfl ?_
      refine zJ_aload_n (n := 22) (j := 1) (x := a 2) d_Pl_countNames_21 rfl rfl rfl ?_
      refine zJ_iload_n (n := 23) (j := 2) (x := x2) d_Pl_countNames_22 rfl rfl rfl ?_
      obtain ⟨q23, hq23, h⟩ := zbd h
      refine zS_callVi (n := 26) (k0 := 2) (avs := [.int x2]) (rest := [.int v15, .ref (a 13)]) (z := q23) (d' := d - 1) d_Pl_countNames_23 rfl (vk_Pl_48 D tt) rfl rfl rfl (Nat.le_of_ble_eq_true rfl) (by omega) (t_NM_keyOf (by omega) hq23) ?_
      refine zJ_if_ne (t := 33) (n := 29) d_Pl_countNames_26 (by decide) rfl (fun hc => ?_) (fun hc => ?_)
      · rw [if_neg hc] at h
        refine zJ_iconst (n := 34) (v := 1) d_Pl_countNames_33 rfl zci_1 ?_
        exact t_Pl_countNames_b34 hd ih h
      · rw [if_pos hc] at h
        refine zJ_iconst (n := 30) (v := 0) d_Pl_countNames_29 rfl zci_0 ?_
        refine zJ_goto (t := 34) d_Pl_countNames_30 (by decide) ?_
        exact t_Pl_countNames_b34 hd ih h
theorem t_Pl_countNames {D : va_G} {tt : ClassId × ClassId × ClassId} {a : Nat → Nat} {d N : Nat} (hd : 1 ≤ d) {M : zMem} {z : Int32 × zMem} (h : f_Pl_countNames N M = some z) : zK (zEn D tt) zshp a mz_Pl_countNames d [.ref (a 12), .ref (a 2)] M (zRv z) := by
  refine zK.enter (L := [some (.ref (a 12)), some (.ref (a 2)), none, none, none]) (by decide) rfl (Nat.le_of_ble_eq_true rfl) rfl ?_
  unfold f_Pl_countNames at h
  refine zJ_iconst (n := 1) (v := 0) d_Pl_countNames_0 rfl zci_0 ?_
  refine zS_istore_n (n := 2) (j := 2) (x' := (0 : Int32)) d_Pl_countNames_1 rfl rfl (Nat.le_of_ble_eq_true rfl) rfl ?_
  exact t_Pl_countNames_l2 hd N _ _ _ _ h
theorem t_Pl_isInner {D : va_G} {tt : ClassId × ClassId × ClassId} {a : Nat → Nat} {d N : Nat} (hd : 0 ≤ d) {x1 : Int32} {M : zMem} {z : Int32 × zMem} (h : f_Pl_isInner N x1 M = some z) : zK (zEn D tt) zshp a mz_Pl_isInner d [.ref (a 12), .int x1] M (zRi z) := by
  refine zK.enter (L := [some (.ref (a 12)), some (.int x1)]) (by decide) rfl (Nat.le_of_ble_eq_true rfl) rfl ?_
  unfold f_Pl_isInner at h
  refine zJ_iload_n (n := 1) (j := 1) (x := x1) d_Pl_isInner_0 rfl rfl rfl ?_
  refine zJ_bipush (n := 3) (v := 64) d_Pl_isInner_1 rfl zcb_64 ?_
  refine zJ_icmp_ge (t := 20) (n := 6) d_Pl_isInner_3 (by decide) rfl (fun hc => ?_) (fun hc => ?_)
  · rw [if_pos hc] at h
    refine zJ_iconst (n := 21) (v := 0) d_Pl_isInner_20 rfl zci_0 ?_
    cases h
    exact zS_ireturn d_Pl_isInner_21 rfl rfl ⟨rfl, rfl⟩
  · rw [if_neg hc] at h
    refine zJ_aload_n (n := 7) (j := 0) (x := a 12) d_Pl_isInner_6 rfl rfl rfl ?_
    refine zS_getr (n := 10) (k0 := 12) (j := 0) (q := 13) d_Pl_isInner_7 rfl (fl_Pl_9 D tt) rfl rfl ?_
    refine zJ_iload_n (n := 11) (j := 1) (x := x1) d_Pl_isInner_10 rfl rfl rfl ?_
    obtain ⟨g11, h⟩ := zgd h
    refine zS_iald (n := 12) (k0 := 13) d_Pl_isInner_11 rfl rfl rfl rfl g11 ?_
    refine zJ_iconst (n := 13) (v := 1) d_Pl_isInner_12 rfl zci_1 ?_
    refine zJ_icmp_le (t := 20) (n := 16) d_Pl_isInner_13 (by decide) rfl (fun hc => ?_) (fun hc => ?_)
    · rw [if_pos hc] at h
      refine zJ_iconst (n := 21) (v := 0) d_Pl_isInner_20 rfl zci_0 ?_
      cases h
      exact zS_ireturn d_Pl_isInner_21 rfl rfl ⟨rfl, rfl⟩
    · rw [if_neg hc] at h
      refine zJ_iconst (n := 17) (v := 1) d_Pl_isInner_16 rfl zci_1 ?_
      refine zJ_goto (t := 21) d_Pl_isInner_17 (by decide) ?_
      cases h
      exact zS_ireturn d_Pl_isInner_21 rfl rfl ⟨rfl, rfl⟩
theorem t_Pl_isNode {D : va_G} {tt : ClassId × ClassId × ClassId} {a : Nat → Nat} {d N : Nat} (hd : 1 ≤ d) {x1 : Int32} {M : zMem} {z : Int32 × zMem} (h : f_Pl_isNode N x1 M = some z) : zK (zEn D tt) zshp a mz_Pl_isNode d [.ref (a 12), .int x1] M (zRi z) := by
  refine zK.enter (L := [some (.ref (a 12)), some (.int x1)]) (by decide) rfl (Nat.le_of_ble_eq_true rfl) rfl ?_
  unfold f_Pl_isNode at h
  refine zJ_aload_n (n := 1) (j := 0) (x := a 12) d_Pl_isNode_0 rfl rfl rfl ?_
  refine zS_getr (n := 4) (k0 := 12) (j := 0) (q := 13) d_Pl_isNode_1 rfl (fl_Pl_9 D tt) rfl rfl ?_
  refine zJ_iload_n (n := 5) (j := 1) (x := x1) d_Pl_isNode_4 rfl rfl rfl ?_
  obtain ⟨g5, h⟩ := zgd h
  refine zS_iald (n := 6) (k0 := 13) d_Pl_isNode_5 rfl rfl rfl rfl g5 ?_
  refine zJ_if_le (t := 28) (n := 9) d_Pl_isNode_6 (by decide) rfl (fun hc => ?_) (fun hc => ?_)
  · rw [if_pos hc] at h
    refine zJ_iconst (n := 29) (v := 0) d_Pl_isNode_28 rfl zci_0 ?_
    cases h
    exact zS_ireturn d_Pl_isNode_29 rfl rfl ⟨rfl, rfl⟩
  · rw [if_neg hc] at h
    refine zJ_iload_n (n := 10) (j := 1) (x := x1) d_Pl_isNode_9 rfl rfl rfl ?_
    refine zJ_iconst (n := 11) (v := 1) d_Pl_isNode_10 rfl zci_1 ?_
    refine zJ_icmp_eq (t := 24) (n := 14) d_Pl_isNode_11 (by decide) rfl (fun hc => ?_) (fun hc => ?_)
    · rw [if_pos hc] at h
      refine zJ_iconst (n := 25) (v := 1) d_Pl_isNode_24 rfl zci_1 ?_
      refine zJ_goto (t := 29) d_Pl_isNode_25 (by decide) ?_
      cases h
      exact zS_ireturn d_Pl_isNode_29 rfl rfl ⟨rfl, rfl⟩
    · rw [if_neg hc] at h
      refine zJ_aload_n (n := 15) (j := 0) (x := a 12) d_Pl_isNode_14 rfl rfl rfl ?_
      refine zJ_iload_n (n := 16) (j := 1) (x := x1) d_Pl_isNode_15 rfl rfl rfl ?_
      refine zJ_iconst (n := 17) (v := 2) d_Pl_isNode_16 rfl zci_2 ?_
      refine zJ_idiv (n := 18) d_Pl_isNode_17 rfl (by decide) ?_
      obtain ⟨q18, hq18, h⟩ := zbd h
      refine zS_callVi (n := 21) (k0 := 12) (avs := [.int (x1 / (2 : Int32))]) (rest := []) (z := q18) (d' := d - 1) d_Pl_isNode_18 rfl (vk_Pl_40 D tt) rfl rfl rfl (Nat.le_of_ble_eq_true rfl) (by omega) (t_Pl_isInner (by omega) hq18) ?_
      refine zJ_if_eq (t := 28) (n := 24) d_Pl_isNode_21 (by decide) rfl (fun hc => ?_) (fun hc => ?_)
      · rw [if_pos hc] at h
        refine zJ_iconst (n := 29) (v := 0) d_Pl_isNode_28 rfl zci_0 ?_
        cases h
        exact zS_ireturn d_Pl_isNode_29 rfl rfl ⟨rfl, rfl⟩
      · rw [if_neg hc] at h
        refine zJ_iconst (n := 25) (v := 1) d_Pl_isNode_24 rfl zci_1 ?_
        refine zJ_goto (t := 29) d_Pl_isNode_25 (by decide) ?_
        cases h
        exact zS_ireturn d_Pl_isNode_29 rfl rfl ⟨rfl, rfl⟩
theorem t_St_placeOfLeaf {D : va_G} {tt : ClassId × ClassId × ClassId} {a : Nat → Nat} {d N : Nat} (hd : 1 ≤ d) {x0 : Int32} {M : zMem} {z : Int32 × zMem} (h : f_St_placeOfLeaf N x0 M = some z) : zK (zEn D tt) zshp a mz_St_placeOfLeaf d [.int x0] M (zRi z) := by
  refine zK.enter (L := [some (.int x0)]) (by decide) rfl (Nat.le_of_ble_eq_true rfl) rfl ?_
  unfold f_St_placeOfLeaf at h
  refine zJ_bipush (n := 2) (v := 64) d_St_placeOfLeaf_0 rfl zcb_64 ?_
  refine zJ_iload_n (n := 3) (j := 0) (x := x0) d_St_placeOfLeaf_2 rfl rfl rfl ?_
  obtain ⟨q3, hq3, h⟩ := zbd h
  refine zS_callSi (n := 6) (avs := [.int x0]) (rest := [.int (64 : Int32)]) (z := q3) (d' := d - 1) d_St_placeOfLeaf_3 rfl (sk_St_42 D tt) rfl rfl (Nat.le_of_ble_eq_true rfl) (by omega) (t_ED_indexOf (by omega) hq3) ?_
  refine zJ_iadd (n := 7) d_St_placeOfLeaf_6 rfl ?_
  cases h
  exact zS_ireturn d_St_placeOfLeaf_7 rfl rfl ⟨rfl, rfl⟩
theorem t_Pl_settle {D : va_G} {tt : ClassId × ClassId × ClassId} {a : Nat → Nat} {d N : Nat} (hd : 2 ≤ d) {x1 : Int32} {M : zMem} {z : Int32 × zMem} (h : f_Pl_settle N x1 M = some z) : zK (zEn D tt) zshp a mz_Pl_settle d [.ref (a 12), .int x1, .ref (a 5)] M (zRv z) := by
  refine zK.enter (L := [some (.ref (a 12)), some (.int x1), some (.ref (a 5))]) (by decide) rfl (Nat.le_of_ble_eq_true rfl) rfl ?_
  unfold f_Pl_settle at h
  refine zJ_aload_n (n := 1) (j := 0) (x := a 12) d_Pl_settle_0 rfl rfl rfl ?_
  refine zJ_iload_n (n := 2) (j := 1) (x := x1) d_Pl_settle_1 rfl rfl rfl ?_
  obtain ⟨q2, hq2, h⟩ := zbd h
  refine zS_callVi (n := 5) (k0 := 12) (avs := [.int x1]) (rest := []) (z := q2) (d' := d - 1) d_Pl_settle_2 rfl (vk_Pl_56 D tt) rfl rfl rfl (Nat.le_of_ble_eq_true rfl) (by omega) (t_Pl_isNode (by omega) hq2) ?_
  refine zJ_if_ne (t := 18) (n := 8) d_Pl_settle_5 (by decide) rfl (fun hc => ?_) (fun hc => ?_)
  · rw [if_neg hc] at h
    refine zJ_aload_n (n := 19) (j := 0) (x := a 12) d_Pl_settle_18 rfl rfl rfl ?_
    refine zS_getr (n := 22) (k0 := 12) (j := 2) (q := 15) d_Pl_settle_19 rfl (fl_Pl_18 D tt) rfl rfl ?_
    refine zJ_iload_n (n := 23) (j := 1) (x := x1) d_Pl_settle_22 rfl rfl rfl ?_
    obtain ⟨g23, h⟩ := zgd h
    refine zS_zald (n := 24) (k0 := 15) d_Pl_settle_23 rfl rfl rfl rfl g23 ?_
    refine zJ_if_eq (t := 65) (n := 27) d_Pl_settle_24 (by decide) rfl (fun hc => ?_) (fun hc => ?_)
    · rw [if_pos hc] at h
      refine zJ_aload_n (n := 66) (j := 0) (x := a 12) d_Pl_settle_65 rfl rfl rfl ?_
      refine zJ_iload_n (n := 67) (j := 1) (x := x1) d_Pl_settle_66 rfl rfl rfl ?_
      obtain ⟨q67, hq67, h⟩ := zbd h
      refine zS_callVi (n := 70) (k0 := 12) (avs := [.int x1]) (rest := []) (z := q67) (d' := d - 1) d_Pl_settle_67 rfl (vk_Pl_40 D tt) rfl rfl rfl (Nat.le_of_ble_eq_true rfl) (by omega) (t_Pl_isInner (by omega) hq67) ?_
      refine zJ_if_eq (t := 88) (n := 73) d_Pl_settle_70 (by decide) rfl (fun hc => ?_) (fun hc => ?_)
      · rw [if_pos hc] at h
        refine zJ_aload_n (n := 89) (j := 0) (x := a 12) d_Pl_settle_88 rfl rfl rfl ?_
        refine zS_getr (n := 92) (k0 := 12) (j := 3) (q := 16) d_Pl_settle_89 rfl (fl_Pl_22 D tt) rfl rfl ?_
        refine zJ_iload_n (n := 93) (j := 1) (x := x1) d_Pl_settle_92 rfl rfl rfl ?_
        refine zJ_aload_n (n := 94) (j := 2) (x := a 5) d_Pl_settle_93 rfl rfl rfl ?_
        refine zS_getr (n := 97) (k0 := 5) (j := 6) (q := 11) d_Pl_settle_94 rfl (fl_Pl_64 D tt) rfl rfl ?_
        refine zJ_aload_n (n := 98) (j := 0) (x := a 12) d_Pl_settle_97 rfl rfl rfl ?_
        refine zS_getr (n := 101) (k0 := 12) (j := 1) (q := 14) d_Pl_settle_98 rfl (fl_Pl_15 D tt) rfl rfl ?_
        refine zJ_iload_n (n := 102) (j := 1) (x := x1) d_Pl_settle_101 rfl rfl rfl ?_
        obtain ⟨g102, h⟩ := zgd h
        refine zS_iald (n := 103) (k0 := 14) d_Pl_settle_102 rfl rfl rfl rfl g102 ?_
        obtain ⟨q103, hq103, h⟩ := zbd h
        refine zS_callSi (n := 106) (avs := [.int (q67.2 14 x1.toNatClampNeg)]) (rest := [.ref (a 11), .int x1, .ref (a 16)]) (z := q103) (d' := d - 1) d_Pl_settle_103 rfl (sk_Pl_67 D tt) rfl rfl (Nat.le_of_ble_eq_true rfl) (by omega) (t_St_placeOfLeaf (by omega) hq103) ?_
        obtain ⟨g106, h⟩ := zgd h
        refine zS_iald (n := 107) (k0 := 11) d_Pl_settle_106 rfl rfl rfl rfl g106 ?_
        obtain ⟨g107, h⟩ := zgd h
        obtain ⟨M107, hM107, h⟩ := zli h
        refine zS_iastN (n := 108) (k0 := 16) d_Pl_settle_107 rfl rfl rfl rfl g107 hM107 ?_
        cases h
        exact zS_return d_Pl_settle_108 rfl ⟨rfl, rfl⟩
      · rw [if_neg hc] at h
        refine zJ_aload_n (n := 74) (j := 0) (x := a 12) d_Pl_settle_73 rfl rfl rfl ?_
        refine zS_getr (n := 77) (k0 := 12) (j := 3) (q := 16) d_Pl_settle_74 rfl (fl_Pl_22 D tt) rfl rfl ?_
        refine zJ_iload_n (n := 78) (j := 1) (x := x1) d_Pl_settle_77 rfl rfl rfl ?_
        refine zJ_aload_n (n := 79) (j := 2) (x := a 5) d_Pl_settle_78 rfl rfl rfl ?_
        refine zS_getr (n := 82) (k0 := 5) (j := 6) (q := 11) d_Pl_settle_79 rfl (fl_Pl_64 D tt) rfl rfl ?_
        refine zJ_iload_n (n := 83) (j := 1) (x := x1) d_Pl_settle_82 rfl rfl rfl ?_
        obtain ⟨g83, h⟩ := zgd h
        refine zS_iald (n := 84) (k0 := 11) d_Pl_settle_83 rfl rfl rfl rfl g83 ?_
        obtain ⟨g84, h⟩ := zgd h
        obtain ⟨M84, hM84, h⟩ := zli h
        refine zS_iastN (n := 85) (k0 := 16) d_Pl_settle_84 rfl rfl rfl rfl g84 hM84 ?_
        refine zJ_goto (t := 108) d_Pl_settle_85 (by decide) ?_
        cases h
        exact zS_return d_Pl_settle_108 rfl ⟨rfl, rfl⟩
    · rw [if_neg hc] at h
      refine zJ_aload_n (n := 28) (j := 0) (x := a 12) d_Pl_settle_27 rfl rfl rfl ?_
      refine zS_getr (n := 31) (k0 := 12) (j := 3) (q := 16) d_Pl_settle_28 rfl (fl_Pl_22 D tt) rfl rfl ?_
      refine zJ_iload_n (n := 32) (j := 1) (x := x1) d_Pl_settle_31 rfl rfl rfl ?_
      refine zJ_aload_n (n := 33) (j := 2) (x := a 5) d_Pl_settle_32 rfl rfl rfl ?_
      refine zS_geti (n := 36) (k0 := 5) (j := 7) d_Pl_settle_33 rfl (fl_Pl_59 D tt) rfl rfl ?_
      refine zJ_aload_n (n := 37) (j := 0) (x := a 12) d_Pl_settle_36 rfl rfl rfl ?_
      refine zS_geti (n := 40) (k0 := 12) (j := 5) d_Pl_settle_37 rfl (fl_Pl_32 D tt) rfl rfl ?_
      refine zJ_iadd (n := 41) d_Pl_settle_40 rfl ?_
      obtain ⟨g41, h⟩ := zgd h
      obtain ⟨M41, hM41, h⟩ := zli h
      refine zS_iastN (n := 42) (k0 := 16) d_Pl_settle_41 rfl rfl rfl rfl g41 hM41 ?_
      refine zJ_aload_n (n := 43) (j := 0) (x := a 12) d_Pl_settle_42 rfl rfl rfl ?_
      refine zS_getr (n := 46) (k0 := 12) (j := 4) (q := 17) d_Pl_settle_43 rfl (fl_Pl_25 D tt) rfl rfl ?_
      refine zJ_aload_n (n := 47) (j := 0) (x := a 12) d_Pl_settle_46 rfl rfl rfl ?_
      refine zS_geti (n := 50) (k0 := 12) (j := 5) d_Pl_settle_47 rfl (fl_Pl_32 D tt) rfl rfl ?_
      refine zJ_iload_n (n := 51) (j := 1) (x := x1) d_Pl_settle_50 rfl rfl rfl ?_
      obtain ⟨g51, h⟩ := zgd h
      obtain ⟨M51, hM51, h⟩ := zli h
      refine zS_iastN (n := 52) (k0 := 17) d_Pl_settle_51 rfl rfl rfl rfl g51 hM51 ?_
      refine zJ_aload_n (n := 53) (j := 0) (x := a 12) d_Pl_settle_52 rfl rfl rfl ?_
      refine zJ_dup (n := 54) d_Pl_settle_53 rfl rfl ?_
      refine zS_geti (n := 57) (k0 := 12) (j := 5) d_Pl_settle_54 rfl (fl_Pl_32 D tt) rfl rfl ?_
      refine zJ_iconst (n := 58) (v := 1) d_Pl_settle_57 rfl zci_1 ?_
      refine zJ_iadd (n := 59) d_Pl_settle_58 rfl ?_
      obtain ⟨M59, hM59, h⟩ := zli h
      refine zS_putN (n := 62) (k0 := 12) (j := 5) d_Pl_settle_59 rfl (fl_Pl_32 D tt) zty_Pl rfl rfl rfl rfl rfl hM59 ?_
      refine zJ_goto (t := 108) d_Pl_settle_62 (by decide) ?_
      cases h
      exact zS_return d_Pl_settle_108 rfl ⟨rfl, rfl⟩
  · rw [if_pos hc] at h
    refine zJ_aload_n (n := 9) (j := 0) (x := a 12) d_Pl_settle_8 rfl rfl rfl ?_
    refine zS_getr (n := 12) (k0 := 12) (j := 3) (q := 16) d_Pl_settle_9 rfl (fl_Pl_22 D tt) rfl rfl ?_
    refine zJ_iload_n (n := 13) (j := 1) (x := x1) d_Pl_settle_12 rfl rfl rfl ?_
    refine zJ_iconst (n := 14) (v := -1) d_Pl_settle_13 rfl zci_m1 ?_
    obtain ⟨g14, h⟩ := zgd h
    obtain ⟨M14, hM14, h⟩ := zli h
    refine zS_iastN (n := 15) (k0 := 16) d_Pl_settle_14 rfl rfl rfl rfl g14 hM14 ?_
    refine zJ_goto (t := 108) d_Pl_settle_15 (by decide) ?_
    cases h
    exact zS_return d_Pl_settle_108 rfl ⟨rfl, rfl⟩
theorem t_Pl_draw_b67 {D : va_G} {tt : ClassId × ClassId × ClassId} {a : Nat → Nat} {d N : Nat} (hd : 3 ≤ d) {z : Int32 × zMem} {k12 : Int32 → zMem → Option (Int32 × zMem)} (hk12 : ∀ (x3 : Int32) (o1 o4 o5 : Option Value) (M : zMem), k12 x3 M = some z → zS (zEn D tt) zshp a mz_Pl_draw d zTr (zFs (zEn D tt) zshp a (zRv z)) 12 [some (.ref (a 12)), o1, some (.ref (a 5)), some (.int x3), o4, o5] [] M) {x3 : Int32} {o1 : Option Value} {o4 : Option Value} {o5 : Option Value} {M : zMem} (h : f_Pl_draw_b67 N k12 x3 M = some z) : zS (zEn D tt) zshp a mz_Pl_draw d zTr (zFs (zEn D tt) zshp a (zRv z)) 67 [some (.ref (a 12)), o1, some (.ref (a 5)), some (.int x3), o4, o5] [] M := by
  unfold f_Pl_draw_b67 at h
  obtain ⟨v67, hv67, h⟩ := zli h
  refine zS_iinc (n := 70) (j := 3) (x := x3) (v := 1) (x' := v67) d_Pl_draw_67 rfl rfl zci_1 (Nat.le_of_ble_eq_true rfl) hv67 ?_
  refine zJ_goto (t := 12) d_Pl_draw_70 (by decide) ?_
  exact hk12 _ _ _ _ _ h
theorem t_Pl_draw_l35 {D : va_G} {tt : ClassId × ClassId × ClassId} {a : Nat → Nat} {d N : Nat} (hd : 3 ≤ d) {z : Int32 × zMem} {k12 : Int32 → zMem → Option (Int32 × zMem)} (hk12 : ∀ (x3 : Int32) (o1 o4 o5 : Option Value) (M : zMem), k12 x3 M = some z → zS (zEn D tt) zshp a mz_Pl_draw d zTr (zFs (zEn D tt) zshp a (zRv z)) 12 [some (.ref (a 12)), o1, some (.ref (a 5)), some (.int x3), o4, o5] [] M) : ∀ (n : Nat), ∀ (x3 x4 x5 : Int32) (o1 : Option Value) (M : zMem), f_Pl_draw_l35 N k12 n x3 x4 x5 M = some z → zS (zEn D tt) zshp a mz_Pl_draw d zTr (zFs (zEn D tt) zshp a (zRv z)) 35 [some (.ref (a 12)), o1, some (.ref (a 5)), some (.int x3), some (.int x4), some (.int x5)] [] M := by
  intro n
  induction n with
  | zero =>
    intro x3 x4 x5 o1 M h
    rw [f_Pl_draw_l35] at h
    cases h
  | succ n ih =>
    intro x3 x4 x5 o1 M h
    rw [f_Pl_draw_l35] at h
    refine zJ_iload (n := 37) (j := 5) (x := x5) d_Pl_draw_35 rfl rfl ?_
    refine zJ_if_le (t := 67) (n := 40) d_Pl_draw_37 (by decide) rfl (fun hc => ?_) (fun hc => ?_)
    · rw [if_pos hc] at h
      exact t_Pl_draw_b67 hd hk12 h
    · rw [if_neg hc] at h
      refine zJ_iload (n := 42) (j := 4) (x := x4) d_Pl_draw_40 rfl rfl ?_
      refine zJ_iconst (n := 43) (v := 2) d_Pl_draw_42 rfl zci_2 ?_
      refine zJ_irem (n := 44) d_Pl_draw_43 rfl (by decide) ?_
      refine zJ_iconst (n := 45) (v := 1) d_Pl_draw_44 rfl zci_1 ?_
      refine zJ_icmp_ne (t := 67) (n := 48) d_Pl_draw_45 (by decide) rfl (fun hc => ?_) (fun hc => ?_)
      · rw [if_neg hc] at h
        exact t_Pl_draw_b67 hd hk12 h
      · rw [if_pos hc] at h
        refine zJ_iload (n := 50) (j := 4) (x := x4) d_Pl_draw_48 rfl rfl ?_
        refine zJ_iconst (n := 51) (v := 2) d_Pl_draw_50 rfl zci_2 ?_
        refine zJ_idiv (n := 52) d_Pl_draw_51 rfl (by decide) ?_
        obtain ⟨v52, hv52, h⟩ := zli h
        refine zS_istore (n := 54) (j := 4) (x' := v52) d_Pl_draw_52 rfl (Nat.le_of_ble_eq_true rfl) hv52 ?_
        refine zJ_aload_n (n := 55) (j := 0) (x := a 12) d_Pl_draw_54 rfl rfl rfl ?_
        refine zJ_iload (n := 57) (j := 4) (x := v52) d_Pl_draw_55 rfl rfl ?_
        refine zJ_aload_n (n := 58) (j := 2) (x := a 5) d_Pl_draw_57 rfl rfl rfl ?_
        obtain ⟨q58, hq58, h⟩ := zbd h
        refine zS_callVv (n := 61) (k0 := 12) (avs := [.int v52, .ref (a 5)]) (rest := []) (z := q58) (d' := d - 1) d_Pl_draw_58 rfl (vk_Pl_36 D tt) rfl rfl rfl (Nat.le_of_ble_eq_true rfl) (by omega) (t_Pl_settle (by omega) hq58) ?_
        obtain ⟨v61, hv61, h⟩ := zli h
        refine zS_iinc (n := 64) (j := 5) (x := x5) (v := -1) (x' := v61) d_Pl_draw_61 rfl rfl zci_m1 (Nat.le_of_ble_eq_true rfl) hv61 ?_
        refine zJ_goto (t := 35) d_Pl_draw_64 (by decide) ?_
        exact ih _ _ _ _ _ h
theorem t_Pl_draw_l12 {D : va_G} {tt : ClassId × ClassId × ClassId} {a : Nat → Nat} {d N : Nat} (hd : 3 ≤ d) {z : Int32 × zMem} : ∀ (n : Nat), ∀ (x3 : Int32) (o1 o4 o5 : Option Value) (M : zMem), f_Pl_draw_l12 N n x3 M = some z → zS (zEn D tt) zshp a mz_Pl_draw d zTr (zFs (zEn D tt) zshp a (zRv z)) 12 [some (.ref (a 12)), o1, some (.ref (a 5)), some (.int x3), o4, o5] [] M := by
  intro n
  induction n with
  | zero =>
    intro x3 o1 o4 o5 M h
    rw [f_Pl_draw_l12] at h
    cases h
  | succ n ih =>
    intro x3 o1 o4 o5 M h
    rw [f_Pl_draw_l12] at h
    refine zJ_iload_n (n := 13) (j := 3) (x := x3) d_Pl_draw_12 rfl rfl rfl ?_
    refine zJ_bipush (n := 15) (v := 64) d_Pl_draw_13 rfl zcb_64 ?_
    refine zJ_icmp_ge (t := 73) (n := 18) d_Pl_draw_15 (by decide) rfl (fun hc => ?_) (fun hc => ?_)
    · rw [if_pos hc] at h
      cases h
      exact zS_return d_Pl_draw_73 rfl ⟨rfl, rfl⟩
    · rw [if_neg hc] at h
      refine zJ_bipush (n := 20) (v := 64) d_Pl_draw_18 rfl zcb_64 ?_
      refine zJ_iload_n (n := 21) (j := 3) (x := x3) d_Pl_draw_20 rfl rfl rfl ?_
      refine zJ_iadd (n := 22) d_Pl_draw_21 rfl ?_
      obtain ⟨v22, hv22, h⟩ := zli h
      refine zS_istore (n := 24) (j := 4) (x' := v22) d_Pl_draw_22 rfl (Nat.le_of_ble_eq_true rfl) hv22 ?_
      refine zJ_aload_n (n := 25) (j := 0) (x := a 12) d_Pl_draw_24 rfl rfl rfl ?_
      refine zJ_iload (n := 27) (j := 4) (x := v22) d_Pl_draw_25 rfl rfl ?_
      refine zJ_aload_n (n := 28) (j := 2) (x := a 5) d_Pl_draw_27 rfl rfl rfl ?_
      obtain ⟨q28, hq28, h⟩ := zbd h
      refine zS_callVv (n := 31) (k0 := 12) (avs := [.int v22, .ref (a 5)]) (rest := []) (z := q28) (d' := d - 1) d_Pl_draw_28 rfl (vk_Pl_36 D tt) rfl rfl rfl (Nat.le_of_ble_eq_true rfl) (by omega) (t_Pl_settle (by omega) hq28) ?_
      refine zJ_bipush (n := 33) (v := 6) d_Pl_draw_31 rfl zcb_6 ?_
      refine zS_istore (n := 35) (j := 5) (x' := (6 : Int32)) d_Pl_draw_33 rfl (Nat.le_of_ble_eq_true rfl) rfl ?_
      exact t_Pl_draw_l35 hd ih N _ _ _ _ _ h
theorem t_Pl_draw {D : va_G} {tt : ClassId × ClassId × ClassId} {a : Nat → Nat} {d N : Nat} (hd : 3 ≤ d) {M : zMem} {z : Int32 × zMem} (h : f_Pl_draw N M = some z) : zK (zEn D tt) zshp a mz_Pl_draw d [.ref (a 12), .ref (a 2), .ref (a 5)] M (zRv z) := by
  refine zK.enter (L := [some (.ref (a 12)), some (.ref (a 2)), some (.ref (a 5)), none, none, none]) (by decide) rfl (Nat.le_of_ble_eq_true rfl) rfl ?_
  unfold f_Pl_draw at h
  refine zJ_aload_n (n := 1) (j := 0) (x := a 12) d_Pl_draw_0 rfl rfl rfl ?_
  refine zJ_aload_n (n := 2) (j := 1) (x := a 2) d_Pl_draw_1 rfl rfl rfl ?_
  obtain ⟨q2, hq2, h⟩ := zbd h
  refine zS_callVv (n := 5) (k0 := 12) (avs := [.ref (a 2)]) (rest := []) (z := q2) (d' := d - 1) d_Pl_draw_2 rfl (vk_Pl_28 D tt) rfl rfl rfl (Nat.le_of_ble_eq_true rfl) (by omega) (t_Pl_countNames (by omega) hq2) ?_
  refine zJ_aload_n (n := 6) (j := 0) (x := a 12) d_Pl_draw_5 rfl rfl rfl ?_
  refine zJ_iconst (n := 7) (v := 0) d_Pl_draw_6 rfl zci_0 ?_
  obtain ⟨M7, hM7, h⟩ := zli h
  refine zS_putN (n := 10) (k0 := 12) (j := 5) d_Pl_draw_7 rfl (fl_Pl_32 D tt) zty_Pl rfl rfl rfl rfl rfl hM7 ?_
  refine zJ_iconst (n := 11) (v := 0) d_Pl_draw_10 rfl zci_0 ?_
  refine zS_istore_n (n := 12) (j := 3) (x' := (0 : Int32)) d_Pl_draw_11 rfl rfl (Nat.le_of_ble_eq_true rfl) rfl ?_
  exact t_Pl_draw_l12 hd N _ _ _ _ _ h
theorem t_St_isBlock {D : va_G} {tt : ClassId × ClassId × ClassId} {a : Nat → Nat} {d N : Nat} (hd : 0 ≤ d) {x1 : Int32} {M : zMem} {z : Int32 × zMem} (h : f_St_isBlock N x1 M = some z) : zK (zEn D tt) zshp a mz_St_isBlock d [.ref (a 5), .int x1] M (zRi z) := by
  refine zK.enter (L := [some (.ref (a 5)), some (.int x1)]) (by decide) rfl (Nat.le_of_ble_eq_true rfl) rfl ?_
  unfold f_St_isBlock at h
  refine zJ_iload_n (n := 1) (j := 1) (x := x1) d_St_isBlock_0 rfl rfl rfl ?_
  refine zJ_if_lt (t := 16) (n := 4) d_St_isBlock_1 (by decide) rfl (fun hc => ?_) (fun hc => ?_)
  · rw [if_pos hc] at h
    refine zJ_iconst (n := 17) (v := 0) d_St_isBlock_16 rfl zci_0 ?_
    cases h
    exact zS_ireturn d_St_isBlock_17 rfl rfl ⟨rfl, rfl⟩
  · rw [if_neg hc] at h
    refine zJ_iload_n (n := 5) (j := 1) (x := x1) d_St_isBlock_4 rfl rfl rfl ?_
    refine zJ_aload_n (n := 6) (j := 0) (x := a 5) d_St_isBlock_5 rfl rfl rfl ?_
    refine zS_geti (n := 9) (k0 := 5) (j := 7) d_St_isBlock_6 rfl (fl_St_34 D tt) rfl rfl ?_
    refine zJ_icmp_ge (t := 16) (n := 12) d_St_isBlock_9 (by decide) rfl (fun hc => ?_) (fun hc => ?_)
    · rw [if_pos hc] at h
      refine zJ_iconst (n := 17) (v := 0) d_St_isBlock_16 rfl zci_0 ?_
      cases h
      exact zS_ireturn d_St_isBlock_17 rfl rfl ⟨rfl, rfl⟩
    · rw [if_neg hc] at h
      refine zJ_iconst (n := 13) (v := 1) d_St_isBlock_12 rfl zci_1 ?_
      refine zJ_goto (t := 17) d_St_isBlock_13 (by decide) ?_
      cases h
      exact zS_ireturn d_St_isBlock_17 rfl rfl ⟨rfl, rfl⟩
theorem t_St_digestOf {D : va_G} {tt : ClassId × ClassId × ClassId} {a : Nat → Nat} {d N : Nat} (hd : 1 ≤ d) {x1 : Int32} {M : zMem} {z : Int32 × zMem} (h : f_St_digestOf N x1 M = some z) : zK (zEn D tt) zshp a mz_St_digestOf d [.ref (a 5), .int x1] M (zRi z) := by
  refine zK.enter (L := [some (.ref (a 5)), some (.int x1)]) (by decide) rfl (Nat.le_of_ble_eq_true rfl) rfl ?_
  unfold f_St_digestOf at h
  refine zJ_aload_n (n := 1) (j := 0) (x := a 5) d_St_digestOf_0 rfl rfl rfl ?_
  refine zJ_iload_n (n := 2) (j := 1) (x := x1) d_St_digestOf_1 rfl rfl rfl ?_
  obtain ⟨q2, hq2, h⟩ := zbd h
  refine zS_callVi (n := 5) (k0 := 5) (avs := [.int x1]) (rest := []) (z := q2) (d' := d - 1) d_St_digestOf_2 rfl (vk_St_38 D tt) rfl rfl rfl (Nat.le_of_ble_eq_true rfl) (by omega) (t_St_isBlock (by omega) hq2) ?_
  refine zJ_if_eq (t := 17) (n := 8) d_St_digestOf_5 (by decide) rfl (fun hc => ?_) (fun hc => ?_)
  · rw [if_pos hc] at h
    refine zJ_iconst (n := 18) (v := 0) d_St_digestOf_17 rfl zci_0 ?_
    cases h
    exact zS_ireturn d_St_digestOf_18 rfl rfl ⟨rfl, rfl⟩
  · rw [if_neg hc] at h
    refine zJ_aload_n (n := 9) (j := 0) (x := a 5) d_St_digestOf_8 rfl rfl rfl ?_
    refine zS_getr (n := 12) (k0 := 5) (j := 4) (q := 9) d_St_digestOf_9 rfl (fl_St_21 D tt) rfl rfl ?_
    refine zJ_iload_n (n := 13) (j := 1) (x := x1) d_St_digestOf_12 rfl rfl rfl ?_
    obtain ⟨g13, h⟩ := zgd h
    refine zS_iald (n := 14) (k0 := 9) d_St_digestOf_13 rfl rfl rfl rfl g13 ?_
    refine zJ_goto (t := 18) d_St_digestOf_14 (by decide) ?_
    cases h
    exact zS_ireturn d_St_digestOf_18 rfl rfl ⟨rfl, rfl⟩
theorem t_St_append {D : va_G} {tt : ClassId × ClassId × ClassId} {a : Nat → Nat} {d N : Nat} (hd : 0 ≤ d) {x1 : Int32} {x2 : Int32} {x3 : Int32} {x4 : Int32} {x5 : Int32} {M : zMem} {z : Int32 × zMem} (h : f_St_append N x1 x2 x3 x4 x5 M = some z) : zK (zEn D tt) zshp a mz_St_append d [.ref (a 5), .int x1, .int x2, .int x3, .int x4, .int x5] M (zRv z) := by
  refine zK.enter (L := [some (.ref (a 5)), some (.int x1), some (.int x2), some (.int x3), some (.int x4), some (.int x5)]) (by decide) rfl (Nat.le_of_ble_eq_true rfl) rfl ?_
  unfold f_St_append at h
  refine zJ_aload_n (n := 1) (j := 0) (x := a 5) d_St_append_0 rfl rfl rfl ?_
  refine zS_geti (n := 4) (k0 := 5) (j := 7) d_St_append_1 rfl (fl_St_34 D tt) rfl rfl ?_
  refine zJ_sipush (n := 7) (v := 300) d_St_append_4 rfl zcs_300 ?_
  refine zJ_icmp_lt (t := 11) (n := 10) d_St_append_7 (by decide) rfl (fun hc => ?_) (fun hc => ?_)
  · rw [if_pos hc] at h
    refine zJ_aload_n (n := 12) (j := 0) (x := a 5) d_St_append_11 rfl rfl rfl ?_
    refine zS_getr (n := 15) (k0 := 5) (j := 1) (q := 6) d_St_append_12 rfl (fl_St_9 D tt) rfl rfl ?_
    refine zJ_aload_n (n := 16) (j := 0) (x := a 5) d_St_append_15 rfl rfl rfl ?_
    refine zS_geti (n := 19) (k0 := 5) (j := 7) d_St_append_16 rfl (fl_St_34 D tt) rfl rfl ?_
    refine zJ_iload_n (n := 20) (j := 1) (x := x1) d_St_append_19 rfl rfl rfl ?_
    obtain ⟨g20, h⟩ := zgd h
    obtain ⟨M20, hM20, h⟩ := zli h
    refine zS_iastN (n := 21) (k0 := 6) d_St_append_20 rfl rfl rfl rfl g20 hM20 ?_
    refine zJ_aload_n (n := 22) (j := 0) (x := a 5) d_St_append_21 rfl rfl rfl ?_
    refine zS_getr (n := 25) (k0 := 5) (j := 2) (q := 7) d_St_append_22 rfl (fl_St_15 D tt) rfl rfl ?_
    refine zJ_aload_n (n := 26) (j := 0) (x := a 5) d_St_append_25 rfl rfl rfl ?_
    refine zS_geti (n := 29) (k0 := 5) (j := 7) d_St_append_26 rfl (fl_St_34 D tt) rfl rfl ?_
    refine zJ_iload_n (n := 30) (j := 2) (x := x2) d_St_append_29 rfl rfl rfl ?_
    obtain ⟨g30, h⟩ := zgd h
    obtain ⟨M30, hM30, h⟩ := zli h
    refine zS_iastN (n := 31) (k0 := 7) d_St_append_30 rfl rfl rfl rfl g30 hM30 ?_
    refine zJ_aload_n (n := 32) (j := 0) (x := a 5) d_St_append_31 rfl rfl rfl ?_
    refine zS_getr (n := 35) (k0 := 5) (j := 3) (q := 8) d_St_append_32 rfl (fl_St_18 D tt) rfl rfl ?_
    refine zJ_aload_n (n := 36) (j := 0) (x := a 5) d_St_append_35 rfl rfl rfl ?_
    refine zS_geti (n := 39) (k0 := 5) (j := 7) d_St_append_36 rfl (fl_St_34 D tt) rfl rfl ?_
    refine zJ_iload_n (n := 40) (j := 3) (x := x3) d_St_append_39 rfl rfl rfl ?_
    obtain ⟨g40, h⟩ := zgd h
    obtain ⟨M40, hM40, h⟩ := zli h
    refine zS_iastN (n := 41) (k0 := 8) d_St_append_40 rfl rfl rfl rfl g40 hM40 ?_
    refine zJ_aload_n (n := 42) (j := 0) (x := a 5) d_St_append_41 rfl rfl rfl ?_
    refine zS_getr (n := 45) (k0 := 5) (j := 4) (q := 9) d_St_append_42 rfl (fl_St_21 D tt) rfl rfl ?_
    refine zJ_aload_n (n := 46) (j := 0) (x := a 5) d_St_append_45 rfl rfl rfl ?_
    refine zS_geti (n := 49) (k0 := 5) (j := 7) d_St_append_46 rfl (fl_St_34 D tt) rfl rfl ?_
    refine zJ_iload (n := 51) (j := 4) (x := x4) d_St_append_49 rfl rfl ?_
    obtain ⟨g51, h⟩ := zgd h
    obtain ⟨M51, hM51, h⟩ := zli h
    refine zS_iastN (n := 52) (k0 := 9) d_St_append_51 rfl rfl rfl rfl g51 hM51 ?_
    refine zJ_aload_n (n := 53) (j := 0) (x := a 5) d_St_append_52 rfl rfl rfl ?_
    refine zS_getr (n := 56) (k0 := 5) (j := 5) (q := 10) d_St_append_53 rfl (fl_St_24 D tt) rfl rfl ?_
    refine zJ_aload_n (n := 57) (j := 0) (x := a 5) d_St_append_56 rfl rfl rfl ?_
    refine zS_geti (n := 60) (k0 := 5) (j := 7) d_St_append_57 rfl (fl_St_34 D tt) rfl rfl ?_
    refine zJ_iload (n := 62) (j := 5) (x := x5) d_St_append_60 rfl rfl ?_
    obtain ⟨g62, h⟩ := zgd h
    obtain ⟨M62, hM62, h⟩ := zli h
    refine zS_iastN (n := 63) (k0 := 10) d_St_append_62 rfl rfl rfl rfl g62 hM62 ?_
    refine zJ_aload_n (n := 64) (j := 0) (x := a 5) d_St_append_63 rfl rfl rfl ?_
    refine zJ_dup (n := 65) d_St_append_64 rfl rfl ?_
    refine zS_geti (n := 68) (k0 := 5) (j := 7) d_St_append_65 rfl (fl_St_34 D tt) rfl rfl ?_
    refine zJ_iconst (n := 69) (v := 1) d_St_append_68 rfl zci_1 ?_
    refine zJ_iadd (n := 70) d_St_append_69 rfl ?_
    obtain ⟨M70, hM70, h⟩ := zli h
    refine zS_putN (n := 73) (k0 := 5) (j := 7) d_St_append_70 rfl (fl_St_34 D tt) zty_St rfl rfl rfl rfl rfl hM70 ?_
    cases h
    exact zS_return d_St_append_73 rfl ⟨rfl, rfl⟩
  · rw [if_neg hc] at h
    cases h
    exact zS_return d_St_append_10 rfl ⟨rfl, rfl⟩
theorem t_St_writeInner {D : va_G} {tt : ClassId × ClassId × ClassId} {a : Nat → Nat} {d N : Nat} (hd : 2 ≤ d) {x1 : Int32} {x2 : Int32} {x3 : Int32} {M : zMem} {z : Int32 × zMem} (h : f_St_writeInner N x1 x2 x3 M = some z) : zK (zEn D tt) zshp a mz_St_writeInner d [.ref (a 5), .int x1, .int x2, .int x3] M (zRv z) := by
  refine zK.enter (L := [some (.ref (a 5)), some (.int x1), some (.int x2), some (.int x3), none]) (by decide) rfl (Nat.le_of_ble_eq_true rfl) rfl ?_
  unfold f_St_writeInner at h
  refine zJ_aload_n (n := 1) (j := 0) (x := a 5) d_St_writeInner_0 rfl rfl rfl ?_
  refine zS_getr (n := 4) (k0 := 5) (j := 0) (q := 1) d_St_writeInner_1 rfl (fl_St_30 D tt) rfl rfl ?_
  refine zJ_iconst (n := 5) (v := 2) d_St_writeInner_4 rfl zci_2 ?_
  refine zJ_aload_n (n := 6) (j := 0) (x := a 5) d_St_writeInner_5 rfl rfl rfl ?_
  refine zJ_iload_n (n := 7) (j := 2) (x := x2) d_St_writeInner_6 rfl rfl rfl ?_
  obtain ⟨q7, hq7, h⟩ := zbd h
  refine zS_callVi (n := 10) (k0 := 5) (avs := [.int x2]) (rest := [.int (2 : Int32), .ref (a 1)]) (z := q7) (d' := d - 1) d_St_writeInner_7 rfl (vk_St_59 D tt) rfl rfl rfl (Nat.le_of_ble_eq_true rfl) (by omega) (t_St_digestOf (by omega) hq7) ?_
  refine zJ_aload_n (n := 11) (j := 0) (x := a 5) d_St_writeInner_10 rfl rfl rfl ?_
  refine zJ_iload_n (n := 12) (j := 3) (x := x3) d_St_writeInner_11 rfl rfl rfl ?_
  obtain ⟨q12, hq12, h⟩ := zbd h
  refine zS_callVi (n := 15) (k0 := 5) (avs := [.int x3]) (rest := [.int q7.1, .int (2 : Int32), .ref (a 1)]) (z := q12) (d' := d - 1) d_St_writeInner_12 rfl (vk_St_59 D tt) rfl rfl rfl (Nat.le_of_ble_eq_true rfl) (by omega) (t_St_digestOf (by omega) hq12) ?_
  obtain ⟨q15, hq15, h⟩ := zbd h
  refine zS_callVi (n := 18) (k0 := 1) (avs := [.int (2 : Int32), .int q7.1, .int q12.1]) (rest := []) (z := q15) (d' := d - 1) d_St_writeInner_15 rfl (vk_St_46 D tt) rfl rfl rfl (Nat.le_of_ble_eq_true rfl) (by omega) (t_Dg_digest (by omega) hq15) ?_
  refine zS_istore (n := 20) (j := 4) (x' := q15.1) d_St_writeInner_18 rfl (Nat.le_of_ble_eq_true rfl) rfl ?_
  refine zJ_aload_n (n := 21) (j := 0) (x := a 5) d_St_writeInner_20 rfl rfl rfl ?_
  refine zJ_iconst (n := 22) (v := 2) d_St_writeInner_21 rfl zci_2 ?_
  refine zJ_iload_n (n := 23) (j := 2) (x := x2) d_St_writeInner_22 rfl rfl rfl ?_
  refine zJ_iload_n (n := 24) (j := 3) (x := x3) d_St_writeInner_23 rfl rfl rfl ?_
  refine zJ_iload (n := 26) (j := 4) (x := q15.1) d_St_writeInner_24 rfl rfl ?_
  refine zJ_iload_n (n := 27) (j := 1) (x := x1) d_St_writeInner_26 rfl rfl rfl ?_
  obtain ⟨q27, hq27, h⟩ := zbd h
  refine zS_callVv (n := 30) (k0 := 5) (avs := [.int (2 : Int32), .int x2, .int x3, .int q15.1, .int x1]) (rest := []) (z := q27) (d' := d - 1) d_St_writeInner_27 rfl (vk_St_55 D tt) rfl rfl rfl (Nat.le_of_ble_eq_true rfl) (by omega) (t_St_append (by omega) hq27) ?_
  cases h
  exact zS_return d_St_writeInner_30 rfl ⟨rfl, rfl⟩
theorem t_St_writeLeaf {D : va_G} {tt : ClassId × ClassId × ClassId} {a : Nat → Nat} {d N : Nat} (hd : 2 ≤ d) {x1 : Int32} {x2 : Int32} {M : zMem} {z : Int32 × zMem} (h : f_St_writeLeaf N x1 x2 M = some z) : zK (zEn D tt) zshp a mz_St_writeLeaf d [.ref (a 5), .int x1, .int x2] M (zRv z) := by
  refine zK.enter (L := [some (.ref (a 5)), some (.int x1), some (.int x2), none]) (by decide) rfl (Nat.le_of_ble_eq_true rfl) rfl ?_
  unfold f_St_writeLeaf at h
  refine zJ_aload_n (n := 1) (j := 0) (x := a 5) d_St_writeLeaf_0 rfl rfl rfl ?_
  refine zS_getr (n := 4) (k0 := 5) (j := 0) (q := 1) d_St_writeLeaf_1 rfl (fl_St_30 D tt) rfl rfl ?_
  refine zJ_iconst (n := 5) (v := 1) d_St_writeLeaf_4 rfl zci_1 ?_
  refine zJ_iload_n (n := 6) (j := 1) (x := x1) d_St_writeLeaf_5 rfl rfl rfl ?_
  refine zJ_iload_n (n := 7) (j := 2) (x := x2) d_St_writeLeaf_6 rfl rfl rfl ?_
  obtain ⟨q7, hq7, h⟩ := zbd h
  refine zS_callVi (n := 10) (k0 := 1) (avs := [.int (1 : Int32), .int x1, .int x2]) (rest := []) (z := q7) (d' := d - 1) d_St_writeLeaf_7 rfl (vk_St_46 D tt) rfl rfl rfl (Nat.le_of_ble_eq_true rfl) (by omega) (t_Dg_digest (by omega) hq7) ?_
  refine zS_istore_n (n := 11) (j := 3) (x' := q7.1) d_St_writeLeaf_10 rfl rfl (Nat.le_of_ble_eq_true rfl) rfl ?_
  refine zJ_aload_n (n := 12) (j := 0) (x := a 5) d_St_writeLeaf_11 rfl rfl rfl ?_
  refine zJ_iconst (n := 13) (v := 1) d_St_writeLeaf_12 rfl zci_1 ?_
  refine zJ_iload_n (n := 14) (j := 1) (x := x1) d_St_writeLeaf_13 rfl rfl rfl ?_
  refine zJ_iload_n (n := 15) (j := 2) (x := x2) d_St_writeLeaf_14 rfl rfl rfl ?_
  refine zJ_iload_n (n := 16) (j := 3) (x := q7.1) d_St_writeLeaf_15 rfl rfl rfl ?_
  refine zJ_iload_n (n := 17) (j := 1) (x := x1) d_St_writeLeaf_16 rfl rfl rfl ?_
  obtain ⟨q17, hq17, h⟩ := zbd h
  refine zS_callSi (n := 20) (avs := [.int x1]) (rest := [.int q7.1, .int x2, .int x1, .int (1 : Int32), .ref (a 5)]) (z := q17) (d' := d - 1) d_St_writeLeaf_17 rfl (sk_St_52 D tt) rfl rfl (Nat.le_of_ble_eq_true rfl) (by omega) (t_St_placeOfLeaf (by omega) hq17) ?_
  obtain ⟨q20, hq20, h⟩ := zbd h
  refine zS_callVv (n := 23) (k0 := 5) (avs := [.int (1 : Int32), .int x1, .int x2, .int q7.1, .int q17.1]) (rest := []) (z := q20) (d' := d - 1) d_St_writeLeaf_20 rfl (vk_St_55 D tt) rfl rfl rfl (Nat.le_of_ble_eq_true rfl) (by omega) (t_St_append (by omega) hq20) ?_
  cases h
  exact zS_return d_St_writeLeaf_23 rfl ⟨rfl, rfl⟩
theorem t_ED_writeNode {D : va_G} {tt : ClassId × ClassId × ClassId} {a : Nat → Nat} {d N : Nat} (hd : 3 ≤ d) {x1 : Int32} {M : zMem} {z : Int32 × zMem} (h : f_ED_writeNode N x1 M = some z) : zK (zEn D tt) zshp a mz_ED_writeNode d [.ref (a 0), .int x1] M (zRv z) := by
  refine zK.enter (L := [some (.ref (a 0)), some (.int x1), none]) (by decide) rfl (Nat.le_of_ble_eq_true rfl) rfl ?_
  unfold f_ED_writeNode at h
  refine zJ_aload_n (n := 1) (j := 0) (x := a 0) d_ED_writeNode_0 rfl rfl rfl ?_
  refine zS_getr (n := 4) (k0 := 0) (j := 3) (q := 12) d_ED_writeNode_1 rfl (fl_ED_37 D tt) rfl rfl ?_
  refine zJ_iload_n (n := 5) (j := 1) (x := x1) d_ED_writeNode_4 rfl rfl rfl ?_
  obtain ⟨q5, hq5, h⟩ := zbd h
  refine zS_callVi (n := 8) (k0 := 12) (avs := [.int x1]) (rest := []) (z := q5) (d' := d - 1) d_ED_writeNode_5 rfl (vk_ED_218 D tt) rfl rfl rfl (Nat.le_of_ble_eq_true rfl) (by omega) (t_Pl_isInner (by omega) hq5) ?_
  refine zJ_if_eq (t := 46) (n := 11) d_ED_writeNode_8 (by decide) rfl (fun hc => ?_) (fun hc => ?_)
  · rw [if_pos hc] at h
    refine zJ_aload_n (n := 47) (j := 0) (x := a 0) d_ED_writeNode_46 rfl rfl rfl ?_
    refine zS_getr (n := 50) (k0 := 0) (j := 3) (q := 12) d_ED_writeNode_47 rfl (fl_ED_37 D tt) rfl rfl ?_
    refine zS_getr (n := 53) (k0 := 12) (j := 1) (q := 14) d_ED_writeNode_50 rfl (fl_ED_228 D tt) rfl rfl ?_
    refine zJ_iload_n (n := 54) (j := 1) (x := x1) d_ED_writeNode_53 rfl rfl rfl ?_
    obtain ⟨g54, h⟩ := zgd h
    refine zS_iald (n := 55) (k0 := 14) d_ED_writeNode_54 rfl rfl rfl rfl g54 ?_
    obtain ⟨v55, hv55, h⟩ := zli h
    refine zS_istore_n (n := 56) (j := 2) (x' := v55) d_ED_writeNode_55 rfl rfl (Nat.le_of_ble_eq_true rfl) hv55 ?_
    refine zJ_aload_n (n := 57) (j := 0) (x := a 0) d_ED_writeNode_56 rfl rfl rfl ?_
    refine zS_getr (n := 60) (k0 := 0) (j := 2) (q := 5) d_ED_writeNode_57 rfl (fl_ED_30 D tt) rfl rfl ?_
    refine zJ_iload_n (n := 61) (j := 2) (x := v55) d_ED_writeNode_60 rfl rfl rfl ?_
    refine zJ_aload_n (n := 62) (j := 0) (x := a 0) d_ED_writeNode_61 rfl rfl rfl ?_
    refine zS_getr (n := 65) (k0 := 0) (j := 1) (q := 2) d_ED_writeNode_62 rfl (fl_ED_21 D tt) rfl rfl ?_
    refine zJ_iload_n (n := 66) (j := 2) (x := v55) d_ED_writeNode_65 rfl rfl rfl ?_
    obtain ⟨q66, hq66, h⟩ := zbd h
    refine zS_callVi (n := 69) (k0 := 2) (avs := [.int v55]) (rest := [.int v55, .ref (a 5)]) (z := q66) (d' := d - 1) d_ED_writeNode_66 rfl (vk_ED_231 D tt) rfl rfl rfl (Nat.le_of_ble_eq_true rfl) (by omega) (t_NM_keyOf (by omega) hq66) ?_
    obtain ⟨q69, hq69, h⟩ := zbd h
    refine zS_callVv (n := 72) (k0 := 5) (avs := [.int v55, .int q66.1]) (rest := []) (z := q69) (d' := d - 1) d_ED_writeNode_69 rfl (vk_ED_235 D tt) rfl rfl rfl (Nat.le_of_ble_eq_true rfl) (by omega) (t_St_writeLeaf (by omega) hq69) ?_
    cases h
    exact zS_return d_ED_writeNode_72 rfl ⟨rfl, rfl⟩
  · rw [if_neg hc] at h
    refine zJ_aload_n (n := 12) (j := 0) (x := a 0) d_ED_writeNode_11 rfl rfl rfl ?_
    refine zS_getr (n := 15) (k0 := 0) (j := 2) (q := 5) d_ED_writeNode_12 rfl (fl_ED_30 D tt) rfl rfl ?_
    refine zJ_iload_n (n := 16) (j := 1) (x := x1) d_ED_writeNode_15 rfl rfl rfl ?_
    refine zJ_aload_n (n := 17) (j := 0) (x := a 0) d_ED_writeNode_16 rfl rfl rfl ?_
    refine zS_getr (n := 20) (k0 := 0) (j := 3) (q := 12) d_ED_writeNode_17 rfl (fl_ED_37 D tt) rfl rfl ?_
    refine zS_getr (n := 23) (k0 := 12) (j := 3) (q := 16) d_ED_writeNode_20 rfl (fl_ED_221 D tt) rfl rfl ?_
    refine zJ_iconst (n := 24) (v := 2) d_ED_writeNode_23 rfl zci_2 ?_
    refine zJ_iload_n (n := 25) (j := 1) (x := x1) d_ED_writeNode_24 rfl rfl rfl ?_
    refine zJ_imul (n := 26) d_ED_writeNode_25 rfl ?_
    obtain ⟨g26, h⟩ := zgd h
    refine zS_iald (n := 27) (k0 := 16) d_ED_writeNode_26 rfl rfl rfl rfl g26 ?_
    refine zJ_aload_n (n := 28) (j := 0) (x := a 0) d_ED_writeNode_27 rfl rfl rfl ?_
    refine zS_getr (n := 31) (k0 := 0) (j := 3) (q := 12) d_ED_writeNode_28 rfl (fl_ED_37 D tt) rfl rfl ?_
    refine zS_getr (n := 34) (k0 := 12) (j := 3) (q := 16) d_ED_writeNode_31 rfl (fl_ED_221 D tt) rfl rfl ?_
    refine zJ_iconst (n := 35) (v := 2) d_ED_writeNode_34 rfl zci_2 ?_
    refine zJ_iload_n (n := 36) (j := 1) (x := x1) d_ED_writeNode_35 rfl rfl rfl ?_
    refine zJ_imul (n := 37) d_ED_writeNode_36 rfl ?_
    refine zJ_iconst (n := 38) (v := 1) d_ED_writeNode_37 rfl zci_1 ?_
    refine zJ_iadd (n := 39) d_ED_writeNode_38 rfl ?_
    obtain ⟨g39, h⟩ := zgd h
    refine zS_iald (n := 40) (k0 := 16) d_ED_writeNode_39 rfl rfl rfl rfl g39 ?_
    obtain ⟨q40, hq40, h⟩ := zbd h
    refine zS_callVv (n := 43) (k0 := 5) (avs := [.int x1, .int (q5.2 16 ((2 : Int32) * x1).toNatClampNeg), .int (q5.2 16 (((2 : Int32) * x1) + (1 : Int32)).toNatClampNeg)]) (rest := []) (z := q40) (d' := d - 1) d_ED_writeNode_40 rfl (vk_ED_224 D tt) rfl rfl rfl (Nat.le_of_ble_eq_true rfl) (by omega) (t_St_writeInner (by omega) hq40) ?_
    refine zJ_goto (t := 72) d_ED_writeNode_43 (by decide) ?_
    cases h
    exact zS_return d_ED_writeNode_72 rfl ⟨rfl, rfl⟩
theorem t_NM_dropOpen_l2 {D : va_G} {tt : ClassId × ClassId × ClassId} {a : Nat → Nat} {d N : Nat} (hd : 0 ≤ d) {z : Int32 × zMem} : ∀ (n : Nat), ∀ (x1 : Int32) (M : zMem), f_NM_dropOpen_l2 N n x1 M = some z → zS (zEn D tt) zshp a mz_NM_dropOpen d zTr (zFs (zEn D tt) zshp a (zRv z)) 2 [some (.ref (a 2)), some (.int x1)] [] M := by
  intro n
  induction n with
  | zero =>
    intro x1 M h
    rw [f_NM_dropOpen_l2] at h
    cases h
  | succ n ih =>
    intro x1 M h
    rw [f_NM_dropOpen_l2] at h
    refine zJ_iload_n (n := 3) (j := 1) (x := x1) d_NM_dropOpen_2 rfl rfl rfl ?_
    refine zJ_bipush (n := 5) (v := 64) d_NM_dropOpen_3 rfl zcb_64 ?_
    refine zJ_icmp_ge (t := 21) (n := 8) d_NM_dropOpen_5 (by decide) rfl (fun hc => ?_) (fun hc => ?_)
    · rw [if_pos hc] at h
      refine zJ_aload_n (n := 22) (j := 0) (x := a 2) d_NM_dropOpen_21 rfl rfl rfl ?_
      refine zJ_iconst (n := 23) (v := 0) d_NM_dropOpen_22 rfl zci_0 ?_
      obtain ⟨M23, hM23, h⟩ := zli h
      refine zS_putN (n := 26) (k0 := 2) (j := 3) d_NM_dropOpen_23 rfl (fl_NM_18 D tt) zty_NM rfl rfl rfl rfl rfl hM23 ?_
      cases h
      exact zS_return d_NM_dropOpen_26 rfl ⟨rfl, rfl⟩
    · rw [if_neg hc] at h
      refine zJ_aload_n (n := 9) (j := 0) (x := a 2) d_NM_dropOpen_8 rfl rfl rfl ?_
      refine zS_getr (n := 12) (k0 := 2) (j := 1) (q := 4) d_NM_dropOpen_9 rfl (fl_NM_15 D tt) rfl rfl ?_
      refine zJ_iload_n (n := 13) (j := 1) (x := x1) d_NM_dropOpen_12 rfl rfl rfl ?_
      refine zJ_iconst (n := 14) (v := 0) d_NM_dropOpen_13 rfl zci_0 ?_
      obtain ⟨g14, h⟩ := zgd h
      obtain ⟨M14, hM14, h⟩ := zli h
      refine zS_iastN (n := 15) (k0 := 4) d_NM_dropOpen_14 rfl rfl rfl rfl g14 hM14 ?_
      obtain ⟨v15, hv15, h⟩ := zli h
      refine zS_iinc (n := 18) (j := 1) (x := x1) (v := 1) (x' := v15) d_NM_dropOpen_15 rfl rfl zci_1 (Nat.le_of_ble_eq_true rfl) hv15 ?_
      refine zJ_goto (t := 2) d_NM_dropOpen_18 (by decide) ?_
      exact ih _ _ h
theorem t_NM_dropOpen {D : va_G} {tt : ClassId × ClassId × ClassId} {a : Nat → Nat} {d N : Nat} (hd : 0 ≤ d) {M : zMem} {z : Int32 × zMem} (h : f_NM_dropOpen N M = some z) : zK (zEn D tt) zshp a mz_NM_dropOpen d [.ref (a 2)] M (zRv z) := by
  refine zK.enter (L := [some (.ref (a 2)), none]) (by decide) rfl (Nat.le_of_ble_eq_true rfl) rfl ?_
  unfold f_NM_dropOpen at h
  refine zJ_iconst (n := 1) (v := 0) d_NM_dropOpen_0 rfl zci_0 ?_
  refine zS_istore_n (n := 2) (j := 1) (x' := (0 : Int32)) d_NM_dropOpen_1 rfl rfl (Nat.le_of_ble_eq_true rfl) rfl ?_
  exact t_NM_dropOpen_l2 hd N _ _ h
theorem t_ED_burnFuse {D : va_G} {tt : ClassId × ClassId × ClassId} {a : Nat → Nat} {d N : Nat} (hd : 1 ≤ d) {M : zMem} {z : Int32 × zMem} (h : f_ED_burnFuse N M = some z) : zK (zEn D tt) zshp a mz_ED_burnFuse d [.ref (a 0)] M (zRv z) := by
  refine zK.enter (L := [some (.ref (a 0))]) (by decide) rfl (Nat.le_of_ble_eq_true rfl) rfl ?_
  unfold f_ED_burnFuse at h
  refine zJ_aload_n (n := 1) (j := 0) (x := a 0) d_ED_burnFuse_0 rfl rfl rfl ?_
  refine zS_geti (n := 4) (k0 := 0) (j := 12) d_ED_burnFuse_1 rfl (fl_ED_129 D tt) rfl rfl ?_
  refine zJ_if_ne (t := 8) (n := 7) d_ED_burnFuse_4 (by decide) rfl (fun hc => ?_) (fun hc => ?_)
  · rw [if_neg hc] at h
    refine zJ_aload_n (n := 9) (j := 0) (x := a 0) d_ED_burnFuse_8 rfl rfl rfl ?_
    refine zJ_dup (n := 10) d_ED_burnFuse_9 rfl rfl ?_
    refine zS_geti (n := 13) (k0 := 0) (j := 12) d_ED_burnFuse_10 rfl (fl_ED_129 D tt) rfl rfl ?_
    refine zJ_iconst (n := 14) (v := 1) d_ED_burnFuse_13 rfl zci_1 ?_
    refine zJ_isub (n := 15) d_ED_burnFuse_14 rfl ?_
    obtain ⟨M15, hM15, h⟩ := zli h
    refine zS_putN (n := 18) (k0 := 0) (j := 12) d_ED_burnFuse_15 rfl (fl_ED_129 D tt) zty_ED rfl rfl rfl rfl rfl hM15 ?_
    refine zJ_aload_n (n := 19) (j := 0) (x := a 0) d_ED_burnFuse_18 rfl rfl rfl ?_
    refine zS_geti (n := 22) (k0 := 0) (j := 12) d_ED_burnFuse_19 rfl (fl_ED_129 D tt) rfl rfl ?_
    refine zJ_if_ne (t := 37) (n := 25) d_ED_burnFuse_22 (by decide) rfl (fun hc => ?_) (fun hc => ?_)
    · rw [if_neg hc] at h
      cases h
      exact zS_return d_ED_burnFuse_37 rfl ⟨rfl, rfl⟩
    · rw [if_pos hc] at h
      refine zJ_aload_n (n := 26) (j := 0) (x := a 0) d_ED_burnFuse_25 rfl rfl rfl ?_
      refine zJ_iconst (n := 27) (v := 1) d_ED_burnFuse_26 rfl zci_1 ?_
      obtain ⟨M27, hM27, h⟩ := zli h
      refine zS_putN (n := 30) (k0 := 0) (j := 11) d_ED_burnFuse_27 rfl (fl_ED_87 D tt) zty_ED rfl rfl rfl rfl rfl hM27 ?_
      refine zJ_aload_n (n := 31) (j := 0) (x := a 0) d_ED_burnFuse_30 rfl rfl rfl ?_
      refine zS_getr (n := 34) (k0 := 0) (j := 1) (q := 2) d_ED_burnFuse_31 rfl (fl_ED_21 D tt) rfl rfl ?_
      obtain ⟨q34, hq34, h⟩ := zbd h
      refine zS_callVv (n := 37) (k0 := 2) (avs := []) (rest := []) (z := q34) (d' := d - 1) d_ED_burnFuse_34 rfl (vk_ED_250 D tt) rfl rfl rfl (Nat.le_of_ble_eq_true rfl) (by omega) (t_NM_dropOpen (by omega) hq34) ?_
      cases h
      exact zS_return d_ED_burnFuse_37 rfl ⟨rfl, rfl⟩
  · rw [if_pos hc] at h
    cases h
    exact zS_return d_ED_burnFuse_7 rfl ⟨rfl, rfl⟩
theorem t_St_writeCheckpoint_l5 {D : va_G} {tt : ClassId × ClassId × ClassId} {a : Nat → Nat} {d N : Nat} (hd : 1 ≤ d) {z : Int32 × zMem} : ∀ (n : Nat), ∀ (x1 x2 x3 : Int32) (M : zMem), f_St_writeCheckpoint_l5 N n x1 x2 x3 M = some z → zS (zEn D tt) zshp a mz_St_writeCheckpoint d zTr (zFs (zEn D tt) zshp a (zRv z)) 5 [some (.ref (a 5)), some (.int x1), some (.int x2), some (.int x3)] [] M := by
  intro n
  induction n with
  | zero =>
    intro x1 x2 x3 M h
    rw [f_St_writeCheckpoint_l5] at h
    cases h
  | succ n ih =>
    intro x1 x2 x3 M h
    rw [f_St_writeCheckpoint_l5] at h
    refine zJ_iload_n (n := 6) (j := 3) (x := x3) d_St_writeCheckpoint_5 rfl rfl rfl ?_
    refine zJ_aload_n (n := 7) (j := 0) (x := a 5) d_St_writeCheckpoint_6 rfl rfl rfl ?_
    refine zS_geti (n := 10) (k0 := 5) (j := 7) d_St_writeCheckpoint_7 rfl (fl_St_34 D tt) rfl rfl ?_
    refine zJ_icmp_ge (t := 31) (n := 13) d_St_writeCheckpoint_10 (by decide) rfl (fun hc => ?_) (fun hc => ?_)
    · rw [if_pos hc] at h
      refine zJ_aload_n (n := 32) (j := 0) (x := a 5) d_St_writeCheckpoint_31 rfl rfl rfl ?_
      refine zJ_iconst (n := 33) (v := 3) d_St_writeCheckpoint_32 rfl zci_3 ?_
      refine zJ_iload_n (n := 34) (j := 1) (x := x1) d_St_writeCheckpoint_33 rfl rfl rfl ?_
      refine zJ_iload_n (n := 35) (j := 2) (x := x2) d_St_writeCheckpoint_34 rfl rfl rfl ?_
      refine zJ_iconst (n := 36) (v := 0) d_St_writeCheckpoint_35 rfl zci_0 ?_
      refine zJ_iconst (n := 37) (v := 0) d_St_writeCheckpoint_36 rfl zci_0 ?_
      obtain ⟨q37, hq37, h⟩ := zbd h
      refine zS_callVv (n := 40) (k0 := 5) (avs := [.int (3 : Int32), .int x1, .int x2, .int (0 : Int32), .int (0 : Int32)]) (rest := []) (z := q37) (d' := d - 1) d_St_writeCheckpoint_37 rfl (vk_St_55 D tt) rfl rfl rfl (Nat.le_of_ble_eq_true rfl) (by omega) (t_St_append (by omega) hq37) ?_
      refine zJ_aload_n (n := 41) (j := 0) (x := a 5) d_St_writeCheckpoint_40 rfl rfl rfl ?_
      refine zJ_aload_n (n := 42) (j := 0) (x := a 5) d_St_writeCheckpoint_41 rfl rfl rfl ?_
      refine zS_geti (n := 45) (k0 := 5) (j := 7) d_St_writeCheckpoint_42 rfl (fl_St_34 D tt) rfl rfl ?_
      obtain ⟨M45, hM45, h⟩ := zli h
      refine zS_putN (n := 48) (k0 := 5) (j := 8) d_St_writeCheckpoint_45 rfl (fl_St_62 D tt) zty_St rfl rfl rfl rfl rfl hM45 ?_
      cases h
      exact zS_return d_St_writeCheckpoint_48 rfl ⟨rfl, rfl⟩
    · rw [if_neg hc] at h
      refine zJ_aload_n (n := 14) (j := 0) (x := a 5) d_St_writeCheckpoint_13 rfl rfl rfl ?_
      refine zS_getr (n := 17) (k0 := 5) (j := 6) (q := 11) d_St_writeCheckpoint_14 rfl (fl_St_27 D tt) rfl rfl ?_
      refine zJ_aload_n (n := 18) (j := 0) (x := a 5) d_St_writeCheckpoint_17 rfl rfl rfl ?_
      refine zS_getr (n := 21) (k0 := 5) (j := 5) (q := 10) d_St_writeCheckpoint_18 rfl (fl_St_24 D tt) rfl rfl ?_
      refine zJ_iload_n (n := 22) (j := 3) (x := x3) d_St_writeCheckpoint_21 rfl rfl rfl ?_
      obtain ⟨g22, h⟩ := zgd h
      refine zS_iald (n := 23) (k0 := 10) d_St_writeCheckpoint_22 rfl rfl rfl rfl g22 ?_
      refine zJ_iload_n (n := 24) (j := 3) (x := x3) d_St_writeCheckpoint_23 rfl rfl rfl ?_
      obtain ⟨g24, h⟩ := zgd h
      obtain ⟨M24, hM24, h⟩ := zli h
      refine zS_iastN (n := 25) (k0 := 11) d_St_writeCheckpoint_24 rfl rfl rfl rfl g24 hM24 ?_
      obtain ⟨v25, hv25, h⟩ := zli h
      refine zS_iinc (n := 28) (j := 3) (x := x3) (v := 1) (x' := v25) d_St_writeCheckpoint_25 rfl rfl zci_1 (Nat.le_of_ble_eq_true rfl) hv25 ?_
      refine zJ_goto (t := 5) d_St_writeCheckpoint_28 (by decide) ?_
      exact ih _ _ _ _ h
theorem t_St_writeCheckpoint {D : va_G} {tt : ClassId × ClassId × ClassId} {a : Nat → Nat} {d N : Nat} (hd : 1 ≤ d) {x1 : Int32} {x2 : Int32} {M : zMem} {z : Int32 × zMem} (h : f_St_writeCheckpoint N x1 x2 M = some z) : zK (zEn D tt) zshp a mz_St_writeCheckpoint d [.ref (a 5), .int x1, .int x2] M (zRv z) := by
  refine zK.enter (L := [some (.ref (a 5)), some (.int x1), some (.int x2), none]) (by decide) rfl (Nat.le_of_ble_eq_true rfl) rfl ?_
  unfold f_St_writeCheckpoint at h
  refine zJ_aload_n (n := 1) (j := 0) (x := a 5) d_St_writeCheckpoint_0 rfl rfl rfl ?_
  refine zS_geti (n := 4) (k0 := 5) (j := 8) d_St_writeCheckpoint_1 rfl (fl_St_62 D tt) rfl rfl ?_
  obtain ⟨v4, hv4, h⟩ := zli h
  refine zS_istore_n (n := 5) (j := 3) (x' := v4) d_St_writeCheckpoint_4 rfl rfl (Nat.le_of_ble_eq_true rfl) hv4 ?_
  exact t_St_writeCheckpoint_l5 hd N _ _ _ _ h
theorem t_Hi_rowDigest_b118 {D : va_G} {tt : ClassId × ClassId × ClassId} {a : Nat → Nat} {d N : Nat} (hd : 1 ≤ d) {z : Int32 × zMem} {k35 : Int32 → zMem → Option (Int32 × zMem)} (hk35 : ∀ (x3 : Int32) (o1 o2 o4 o5 : Option Value) (M : zMem), k35 x3 M = some z → zS (zEn D tt) zshp a mz_Hi_rowDigest d zTr (zFs (zEn D tt) zshp a (zRi z)) 35 [some (.ref (a 18)), o1, o2, some (.int x3), o4, o5] [] M) {x3 : Int32} {x4 : Int32} {o1 : Option Value} {o2 : Option Value} {o5 : Option Value} {M : zMem} (h : f_Hi_rowDigest_b118 N k35 x3 x4 M = some z) : zS (zEn D tt) zshp a mz_Hi_rowDigest d zTr (zFs (zEn D tt) zshp a (zRi z)) 118 [some (.ref (a 18)), o1, o2, some (.int x3), some (.int x4), o5] [] M := by
  unfold f_Hi_rowDigest_b118 at h
  refine zJ_iload_n (n := 119) (j := 3) (x := x3) d_Hi_rowDigest_118 rfl rfl rfl ?_
  refine zJ_iload (n := 121) (j := 4) (x := x4) d_Hi_rowDigest_119 rfl rfl ?_
  refine zJ_isub (n := 122) d_Hi_rowDigest_121 rfl ?_
  obtain ⟨v122, hv122, h⟩ := zli h
  refine zS_istore_n (n := 123) (j := 3) (x' := v122) d_Hi_rowDigest_122 rfl rfl (Nat.le_of_ble_eq_true rfl) hv122 ?_
  refine zJ_goto (t := 35) d_Hi_rowDigest_123 (by decide) ?_
  exact hk35 _ _ _ _ _ _ h
theorem t_Hi_rowDigest_l48 {D : va_G} {tt : ClassId × ClassId × ClassId} {a : Nat → Nat} {d N : Nat} (hd : 1 ≤ d) {z : Int32 × zMem} {k35 : Int32 → zMem → Option (Int32 × zMem)} (hk35 : ∀ (x3 : Int32) (o1 o2 o4 o5 : Option Value) (M : zMem), k35 x3 M = some z → zS (zEn D tt) zshp a mz_Hi_rowDigest d zTr (zFs (zEn D tt) zshp a (zRi z)) 35 [some (.ref (a 18)), o1, o2, some (.int x3), o4, o5] [] M) : ∀ (n : Nat), ∀ (x3 x4 x5 : Int32) (o1 o2 : Option Value) (M : zMem), f_Hi_rowDigest_l48 N k35 n x3 x4 x5 M = some z → zS (zEn D tt) zshp a mz_Hi_rowDigest d zTr (zFs (zEn D tt) zshp a (zRi z)) 48 [some (.ref (a 18)), o1, o2, some (.int x3), some (.int x4), some (.int x5)] [] M := by
  intro n
  induction n with
  | zero =>
    intro x3 x4 x5 o1 o2 M h
    rw [f_Hi_rowDigest_l48] at h
    cases h
  | succ n ih =>
    intro x3 x4 x5 o1 o2 M h
    rw [f_Hi_rowDigest_l48] at h
    refine zJ_iload (n := 50) (j := 5) (x := x5) d_Hi_rowDigest_48 rfl rfl ?_
    refine zJ_iload (n := 52) (j := 4) (x := x4) d_Hi_rowDigest_50 rfl rfl ?_
    refine zJ_icmp_ge (t := 96) (n := 55) d_Hi_rowDigest_52 (by decide) rfl (fun hc => ?_) (fun hc => ?_)
    · rw [if_pos hc] at h
      refine zJ_iload_n (n := 97) (j := 3) (x := x3) d_Hi_rowDigest_96 rfl rfl rfl ?_
      refine zJ_iconst (n := 98) (v := 2) d_Hi_rowDigest_97 rfl zci_2 ?_
      refine zJ_irem (n := 99) d_Hi_rowDigest_98 rfl (by decide) ?_
      refine zJ_iconst (n := 100) (v := 1) d_Hi_rowDigest_99 rfl zci_1 ?_
      refine zJ_icmp_ne (t := 118) (n := 103) d_Hi_rowDigest_100 (by decide) rfl (fun hc => ?_) (fun hc => ?_)
      · rw [if_neg hc] at h
        exact t_Hi_rowDigest_b118 hd hk35 h
      · rw [if_pos hc] at h
        refine zJ_aload_n (n := 104) (j := 0) (x := a 18) d_Hi_rowDigest_103 rfl rfl rfl ?_
        refine zS_getr (n := 107) (k0 := 18) (j := 5) (q := 23) d_Hi_rowDigest_104 rfl (fl_Hi_24 D tt) rfl rfl ?_
        refine zJ_iload (n := 109) (j := 4) (x := x4) d_Hi_rowDigest_107 rfl rfl ?_
        refine zJ_aload_n (n := 110) (j := 0) (x := a 18) d_Hi_rowDigest_109 rfl rfl rfl ?_
        refine zS_getr (n := 113) (k0 := 18) (j := 5) (q := 23) d_Hi_rowDigest_110 rfl (fl_Hi_24 D tt) rfl rfl ?_
        refine zJ_iload_n (n := 114) (j := 3) (x := x3) d_Hi_rowDigest_113 rfl rfl rfl ?_
        refine zJ_iconst (n := 115) (v := 1) d_Hi_rowDigest_114 rfl zci_1 ?_
        refine zJ_isub (n := 116) d_Hi_rowDigest_115 rfl ?_
        obtain ⟨g116, h⟩ := zgd h
        refine zS_iald (n := 117) (k0 := 23) d_Hi_rowDigest_116 rfl rfl rfl rfl g116 ?_
        obtain ⟨g117, h⟩ := zgd h
        obtain ⟨M117, hM117, h⟩ := zli h
        refine zS_iastN (n := 118) (k0 := 23) d_Hi_rowDigest_117 rfl rfl rfl rfl g117 hM117 ?_
        exact t_Hi_rowDigest_b118 hd hk35 h
    · rw [if_neg hc] at h
      refine zJ_aload_n (n := 56) (j := 0) (x := a 18) d_Hi_rowDigest_55 rfl rfl rfl ?_
      refine zS_getr (n := 59) (k0 := 18) (j := 5) (q := 23) d_Hi_rowDigest_56 rfl (fl_Hi_24 D tt) rfl rfl ?_
      refine zJ_iload (n := 61) (j := 5) (x := x5) d_Hi_rowDigest_59 rfl rfl ?_
      refine zJ_aload_n (n := 62) (j := 0) (x := a 18) d_Hi_rowDigest_61 rfl rfl rfl ?_
      refine zS_getr (n := 65) (k0 := 18) (j := 0) (q := 1) d_Hi_rowDigest_62 rfl (fl_Hi_27 D tt) rfl rfl ?_
      refine zJ_iconst (n := 66) (v := 4) d_Hi_rowDigest_65 rfl zci_4 ?_
      refine zJ_aload_n (n := 67) (j := 0) (x := a 18) d_Hi_rowDigest_66 rfl rfl rfl ?_
      refine zS_getr (n := 70) (k0 := 18) (j := 5) (q := 23) d_Hi_rowDigest_67 rfl (fl_Hi_24 D tt) rfl rfl ?_
      refine zJ_iconst (n := 71) (v := 2) d_Hi_rowDigest_70 rfl zci_2 ?_
      refine zJ_iload (n := 73) (j := 5) (x := x5) d_Hi_rowDigest_71 rfl rfl ?_
      refine zJ_imul (n := 74) d_Hi_rowDigest_73 rfl ?_
      obtain ⟨g74, h⟩ := zgd h
      refine zS_iald (n := 75) (k0 := 23) d_Hi_rowDigest_74 rfl rfl rfl rfl g74 ?_
      refine zJ_aload_n (n := 76) (j := 0) (x := a 18) d_Hi_rowDigest_75 rfl rfl rfl ?_
      refine zS_getr (n := 79) (k0 := 18) (j := 5) (q := 23) d_Hi_rowDigest_76 rfl (fl_Hi_24 D tt) rfl rfl ?_
      refine zJ_iconst (n := 80) (v := 2) d_Hi_rowDigest_79 rfl zci_2 ?_
      refine zJ_iload (n := 82) (j := 5) (x := x5) d_Hi_rowDigest_80 rfl rfl ?_
      refine zJ_imul (n := 83) d_Hi_rowDigest_82 rfl ?_
      refine zJ_iconst (n := 84) (v := 1) d_Hi_rowDigest_83 rfl zci_1 ?_
      refine zJ_iadd (n := 85) d_Hi_rowDigest_84 rfl ?_
      obtain ⟨g85, h⟩ := zgd h
      refine zS_iald (n := 86) (k0 := 23) d_Hi_rowDigest_85 rfl rfl rfl rfl g85 ?_
      obtain ⟨q86, hq86, h⟩ := zbd h
      refine zS_callVi (n := 89) (k0 := 1) (avs := [.int (4 : Int32), .int (M 23 ((2 : Int32) * x5).toNatClampNeg), .int (M 23 (((2 : Int32) * x5) + (1 : Int32)).toNatClampNeg)]) (rest := [.int x5, .ref (a 23)]) (z := q86) (d' := d - 1) d_Hi_rowDigest_86 rfl (vk_Hi_35 D tt) rfl rfl rfl (Nat.le_of_ble_eq_true rfl) (by omega) (t_Dg_digest (by omega) hq86) ?_
      obtain ⟨g89, h⟩ := zgd h
      obtain ⟨M89, hM89, h⟩ := zli h
      refine zS_iastN (n := 90) (k0 := 23) d_Hi_rowDigest_89 rfl rfl rfl rfl g89 hM89 ?_
      obtain ⟨v90, hv90, h⟩ := zli h
      refine zS_iinc (n := 93) (j := 5) (x := x5) (v := 1) (x' := v90) d_Hi_rowDigest_90 rfl rfl zci_1 (Nat.le_of_ble_eq_true rfl) hv90 ?_
      refine zJ_goto (t := 48) d_Hi_rowDigest_93 (by decide) ?_
      exact ih _ _ _ _ _ _ h
theorem t_Hi_rowDigest_l35 {D : va_G} {tt : ClassId × ClassId × ClassId} {a : Nat → Nat} {d N : Nat} (hd : 1 ≤ d) {z : Int32 × zMem} : ∀ (n : Nat), ∀ (x3 : Int32) (o1 o2 o4 o5 : Option Value) (M : zMem), f_Hi_rowDigest_l35 N n x3 M = some z → zS (zEn D tt) zshp a mz_Hi_rowDigest d zTr (zFs (zEn D tt) zshp a (zRi z)) 35 [some (.ref (a 18)), o1, o2, some (.int x3), o4, o5] [] M := by
  intro n
  induction n with
  | zero =>
    intro x3 o1 o2 o4 o5 M h
    rw [f_Hi_rowDigest_l35] at h
    cases h
  | succ n ih =>
    intro x3 o1 o2 o4 o5 M h
    rw [f_Hi_rowDigest_l35] at h
    refine zJ_iload_n (n := 36) (j := 3) (x := x3) d_Hi_rowDigest_35 rfl rfl rfl ?_
    refine zJ_iconst (n := 37) (v := 1) d_Hi_rowDigest_36 rfl zci_1 ?_
    refine zJ_icmp_le (t := 126) (n := 40) d_Hi_rowDigest_37 (by decide) rfl (fun hc => ?_) (fun hc => ?_)
    · rw [if_pos hc] at h
      refine zJ_aload_n (n := 127) (j := 0) (x := a 18) d_Hi_rowDigest_126 rfl rfl rfl ?_
      refine zS_getr (n := 130) (k0 := 18) (j := 5) (q := 23) d_Hi_rowDigest_127 rfl (fl_Hi_24 D tt) rfl rfl ?_
      refine zJ_iconst (n := 131) (v := 0) d_Hi_rowDigest_130 rfl zci_0 ?_
      refine zS_iald (n := 132) (k0 := 23) (jj := 0) d_Hi_rowDigest_131 rfl rfl rfl (by decide) (by decide) ?_
      cases h
      exact zS_ireturn d_Hi_rowDigest_132 rfl rfl ⟨rfl, rfl⟩
    · rw [if_neg hc] at h
      refine zJ_iload_n (n := 41) (j := 3) (x := x3) d_Hi_rowDigest_40 rfl rfl rfl ?_
      refine zJ_iconst (n := 42) (v := 2) d_Hi_rowDigest_41 rfl zci_2 ?_
      refine zJ_idiv (n := 43) d_Hi_rowDigest_42 rfl (by decide) ?_
      obtain ⟨v43, hv43, h⟩ := zli h
      refine zS_istore (n := 45) (j := 4) (x' := v43) d_Hi_rowDigest_43 rfl (Nat.le_of_ble_eq_true rfl) hv43 ?_
      refine zJ_iconst (n := 46) (v := 0) d_Hi_rowDigest_45 rfl zci_0 ?_
      refine zS_istore (n := 48) (j := 5) (x' := (0 : Int32)) d_Hi_rowDigest_46 rfl (Nat.le_of_ble_eq_true rfl) rfl ?_
      exact t_Hi_rowDigest_l48 hd ih N _ _ _ _ _ _ h
theorem t_Hi_rowDigest_l7 {D : va_G} {tt : ClassId × ClassId × ClassId} {a : Nat → Nat} {d N : Nat} (hd : 1 ≤ d) {z : Int32 × zMem} : ∀ (n : Nat), ∀ (x1 x3 x4 : Int32) (o2 o5 : Option Value) (M : zMem), f_Hi_rowDigest_l7 N n x1 x3 x4 M = some z → zS (zEn D tt) zshp a mz_Hi_rowDigest d zTr (zFs (zEn D tt) zshp a (zRi z)) 7 [some (.ref (a 18)), some (.int x1), o2, some (.int x3), some (.int x4), o5] [] M := by
  intro n
  induction n with
  | zero =>
    intro x1 x3 x4 o2 o5 M h
    rw [f_Hi_rowDigest_l7] at h
    cases h
  | succ n ih =>
    intro x1 x3 x4 o2 o5 M h
    rw [f_Hi_rowDigest_l7] at h
    refine zJ_iload (n := 9) (j := 4) (x := x4) d_Hi_rowDigest_7 rfl rfl ?_
    refine zJ_iload_n (n := 10) (j := 3) (x := x3) d_Hi_rowDigest_9 rfl rfl rfl ?_
    refine zJ_icmp_ge (t := 35) (n := 13) d_Hi_rowDigest_10 (by decide) rfl (fun hc => ?_) (fun hc => ?_)
    · rw [if_pos hc] at h
      exact t_Hi_rowDigest_l35 hd N _ _ _ _ _ _ h
    · rw [if_neg hc] at h
      refine zJ_aload_n (n := 14) (j := 0) (x := a 18) d_Hi_rowDigest_13 rfl rfl rfl ?_
      refine zS_getr (n := 17) (k0 := 18) (j := 5) (q := 23) d_Hi_rowDigest_14 rfl (fl_Hi_24 D tt) rfl rfl ?_
      refine zJ_iload (n := 19) (j := 4) (x := x4) d_Hi_rowDigest_17 rfl rfl ?_
      refine zJ_aload_n (n := 20) (j := 0) (x := a 18) d_Hi_rowDigest_19 rfl rfl rfl ?_
      refine zS_getr (n := 23) (k0 := 18) (j := 3) (q := 21) d_Hi_rowDigest_20 rfl (fl_Hi_18 D tt) rfl rfl ?_
      refine zJ_iload_n (n := 24) (j := 1) (x := x1) d_Hi_rowDigest_23 rfl rfl rfl ?_
      refine zJ_iload (n := 26) (j := 4) (x := x4) d_Hi_rowDigest_24 rfl rfl ?_
      refine zJ_iadd (n := 27) d_Hi_rowDigest_26 rfl ?_
      obtain ⟨g27, h⟩ := zgd h
      refine zS_iald (n := 28) (k0 := 21) d_Hi_rowDigest_27 rfl rfl rfl rfl g27 ?_
      obtain ⟨g28, h⟩ := zgd h
      obtain ⟨M28, hM28, h⟩ := zli h
      refine zS_iastN (n := 29) (k0 := 23) d_Hi_rowDigest_28 rfl rfl rfl rfl g28 hM28 ?_
      obtain ⟨v29, hv29, h⟩ := zli h
      refine zS_iinc (n := 32) (j := 4) (x := x4) (v := 1) (x' := v29) d_Hi_rowDigest_29 rfl rfl zci_1 (Nat.le_of_ble_eq_true rfl) hv29 ?_
      refine zJ_goto (t := 7) d_Hi_rowDigest_32 (by decide) ?_
      exact ih _ _ _ _ _ _ h
theorem t_Hi_rowDigest {D : va_G} {tt : ClassId × ClassId × ClassId} {a : Nat → Nat} {d N : Nat} (hd : 1 ≤ d) {x1 : Int32} {x2 : Int32} {M : zMem} {z : Int32 × zMem} (h : f_Hi_rowDigest N x1 x2 M = some z) : zK (zEn D tt) zshp a mz_Hi_rowDigest d [.ref (a 18), .int x1, .int x2] M (zRi z) := by
  refine zK.enter (L := [some (.ref (a 18)), some (.int x1), some (.int x2), none, none, none]) (by decide) rfl (Nat.le_of_ble_eq_true rfl) rfl ?_
  unfold f_Hi_rowDigest at h
  refine zJ_iload_n (n := 1) (j := 2) (x := x2) d_Hi_rowDigest_0 rfl rfl rfl ?_
  refine zJ_iload_n (n := 2) (j := 1) (x := x1) d_Hi_rowDigest_1 rfl rfl rfl ?_
  refine zJ_isub (n := 3) d_Hi_rowDigest_2 rfl ?_
  obtain ⟨v3, hv3, h⟩ := zli h
  refine zS_istore_n (n := 4) (j := 3) (x' := v3) d_Hi_rowDigest_3 rfl rfl (Nat.le_of_ble_eq_true rfl) hv3 ?_
  refine zJ_iconst (n := 5) (v := 0) d_Hi_rowDigest_4 rfl zci_0 ?_
  refine zS_istore (n := 7) (j := 4) (x' := (0 : Int32)) d_Hi_rowDigest_5 rfl (Nat.le_of_ble_eq_true rfl) rfl ?_
  exact t_Hi_rowDigest_l7 hd N _ _ _ _ _ _ h
