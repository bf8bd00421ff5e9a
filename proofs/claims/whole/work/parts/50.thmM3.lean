theorem t_Mo_clash {D : va_G} {tt : ClassId × ClassId × ClassId} {a : Nat → Nat} {d N : Nat} (hd : 0 ≤ d) {x1 : Int32} {M : zMem} {z : Int32 × zMem} (h : f_Mo_clash N x1 M = some z) : zK (zEn D tt) zshp a mz_Mo_clash d [.ref (a 45), .int x1] M (zRi z) := by
  refine zK.enter (L := [some (.ref (a 45)), some (.int x1)]) (by decide) rfl (Nat.le_of_ble_eq_true rfl) rfl ?_
  unfold f_Mo_clash at h
  refine zJ_iload_n (n := 1) (j := 1) (x := x1) d_Mo_clash_0 rfl rfl rfl ?_
  refine zJ_if_lt (t := 9) (n := 4) d_Mo_clash_1 (by decide) rfl (fun hc => ?_) (fun hc => ?_)
  · rw [if_pos hc] at h
    refine zJ_iconst (n := 10) (v := 0) d_Mo_clash_9 rfl zci_0 ?_
    refine zJ_goto (t := 19) d_Mo_clash_10 (by decide) ?_
    cases h
    exact zS_ireturn d_Mo_clash_19 rfl rfl ⟨rfl, rfl⟩
  · rw [if_neg hc] at h
    refine zJ_iload_n (n := 5) (j := 1) (x := x1) d_Mo_clash_4 rfl rfl rfl ?_
    refine zJ_iconst (n := 6) (v := 5) d_Mo_clash_5 rfl zci_5 ?_
    refine zJ_icmp_le (t := 13) (n := 9) d_Mo_clash_6 (by decide) rfl (fun hc => ?_) (fun hc => ?_)
    · rw [if_pos hc] at h
      refine zJ_aload_n (n := 14) (j := 0) (x := a 45) d_Mo_clash_13 rfl rfl rfl ?_
      refine zS_getr (n := 17) (k0 := 45) (j := 36) (q := 70) d_Mo_clash_14 rfl (fl_Mo_83 D tt) rfl rfl ?_
      refine zJ_iload_n (n := 18) (j := 1) (x := x1) d_Mo_clash_17 rfl rfl rfl ?_
      obtain ⟨g18, h⟩ := zgd h
      refine zS_iald (n := 19) (k0 := 70) d_Mo_clash_18 rfl rfl rfl rfl g18 ?_
      cases h
      exact zS_ireturn d_Mo_clash_19 rfl rfl ⟨rfl, rfl⟩
    · rw [if_neg hc] at h
      refine zJ_iconst (n := 10) (v := 0) d_Mo_clash_9 rfl zci_0 ?_
      refine zJ_goto (t := 19) d_Mo_clash_10 (by decide) ?_
      cases h
      exact zS_ireturn d_Mo_clash_19 rfl rfl ⟨rfl, rfl⟩
theorem t_Mo_block {D : va_G} {tt : ClassId × ClassId × ClassId} {a : Nat → Nat} {d N : Nat} (hd : 0 ≤ d) {x1 : Int32} {x2 : Int32} {M : zMem} {z : Int32 × zMem} (h : f_Mo_block N x1 x2 M = some z) : zK (zEn D tt) zshp a mz_Mo_block d [.ref (a 45), .int x1, .int x2] M (zRi z) := by
  refine zK.enter (L := [some (.ref (a 45)), some (.int x1), some (.int x2)]) (by decide) rfl (Nat.le_of_ble_eq_true rfl) rfl ?_
  unfold f_Mo_block at h
  refine zJ_iload_n (n := 1) (j := 1) (x := x1) d_Mo_block_0 rfl rfl rfl ?_
  refine zJ_if_lt (t := 12) (n := 4) d_Mo_block_1 (by decide) rfl (fun hc => ?_) (fun hc => ?_)
  · rw [if_pos hc] at h
    refine zJ_bipush (n := 14) (v := -2) d_Mo_block_12 rfl zcb_m2 ?_
    cases h
    exact zS_ireturn d_Mo_block_14 rfl rfl ⟨rfl, rfl⟩
  · rw [if_neg hc] at h
    refine zJ_iload_n (n := 5) (j := 1) (x := x1) d_Mo_block_4 rfl rfl rfl ?_
    refine zJ_aload_n (n := 6) (j := 0) (x := a 45) d_Mo_block_5 rfl rfl rfl ?_
    refine zS_geti (n := 9) (k0 := 45) (j := 9) d_Mo_block_6 rfl (fl_Mo_121 D tt) rfl rfl ?_
    refine zJ_icmp_lt (t := 15) (n := 12) d_Mo_block_9 (by decide) rfl (fun hc => ?_) (fun hc => ?_)
    · rw [if_pos hc] at h
      refine zJ_iload_n (n := 16) (j := 2) (x := x2) d_Mo_block_15 rfl rfl rfl ?_
      refine zJ_if_ne (t := 28) (n := 19) d_Mo_block_16 (by decide) rfl (fun hc => ?_) (fun hc => ?_)
      · rw [if_neg hc] at h
        refine zJ_iload_n (n := 29) (j := 2) (x := x2) d_Mo_block_28 rfl rfl rfl ?_
        refine zJ_iconst (n := 30) (v := 1) d_Mo_block_29 rfl zci_1 ?_
        refine zJ_icmp_ne (t := 42) (n := 33) d_Mo_block_30 (by decide) rfl (fun hc => ?_) (fun hc => ?_)
        · rw [if_neg hc] at h
          refine zJ_iload_n (n := 43) (j := 2) (x := x2) d_Mo_block_42 rfl rfl rfl ?_
          refine zJ_iconst (n := 44) (v := 2) d_Mo_block_43 rfl zci_2 ?_
          refine zJ_icmp_ne (t := 56) (n := 47) d_Mo_block_44 (by decide) rfl (fun hc => ?_) (fun hc => ?_)
          · rw [if_neg hc] at h
            refine zJ_bipush (n := 58) (v := -2) d_Mo_block_56 rfl zcb_m2 ?_
            cases h
            exact zS_ireturn d_Mo_block_58 rfl rfl ⟨rfl, rfl⟩
          · rw [if_pos hc] at h
            refine zJ_aload_n (n := 48) (j := 0) (x := a 45) d_Mo_block_47 rfl rfl rfl ?_
            refine zS_getr (n := 51) (k0 := 45) (j := 12) (q := 55) d_Mo_block_48 rfl (fl_Mo_38 D tt) rfl rfl ?_
            refine zJ_iload_n (n := 52) (j := 1) (x := x1) d_Mo_block_51 rfl rfl rfl ?_
            obtain ⟨g52, h⟩ := zgd h
            refine zS_iald (n := 53) (k0 := 55) d_Mo_block_52 rfl rfl rfl rfl g52 ?_
            refine zJ_goto (t := 58) d_Mo_block_53 (by decide) ?_
            cases h
            exact zS_ireturn d_Mo_block_58 rfl rfl ⟨rfl, rfl⟩
        · rw [if_pos hc] at h
          refine zJ_aload_n (n := 34) (j := 0) (x := a 45) d_Mo_block_33 rfl rfl rfl ?_
          refine zS_getr (n := 37) (k0 := 45) (j := 11) (q := 54) d_Mo_block_34 rfl (fl_Mo_35 D tt) rfl rfl ?_
          refine zJ_iload_n (n := 38) (j := 1) (x := x1) d_Mo_block_37 rfl rfl rfl ?_
          obtain ⟨g38, h⟩ := zgd h
          refine zS_iald (n := 39) (k0 := 54) d_Mo_block_38 rfl rfl rfl rfl g38 ?_
          refine zJ_goto (t := 58) d_Mo_block_39 (by decide) ?_
          cases h
          exact zS_ireturn d_Mo_block_58 rfl rfl ⟨rfl, rfl⟩
      · rw [if_pos hc] at h
        refine zJ_aload_n (n := 20) (j := 0) (x := a 45) d_Mo_block_19 rfl rfl rfl ?_
        refine zS_getr (n := 23) (k0 := 45) (j := 10) (q := 53) d_Mo_block_20 rfl (fl_Mo_32 D tt) rfl rfl ?_
        refine zJ_iload_n (n := 24) (j := 1) (x := x1) d_Mo_block_23 rfl rfl rfl ?_
        obtain ⟨g24, h⟩ := zgd h
        refine zS_iald (n := 25) (k0 := 53) d_Mo_block_24 rfl rfl rfl rfl g24 ?_
        refine zJ_goto (t := 58) d_Mo_block_25 (by decide) ?_
        cases h
        exact zS_ireturn d_Mo_block_58 rfl rfl ⟨rfl, rfl⟩
    · rw [if_neg hc] at h
      refine zJ_bipush (n := 14) (v := -2) d_Mo_block_12 rfl zcb_m2 ?_
      cases h
      exact zS_ireturn d_Mo_block_14 rfl rfl ⟨rfl, rfl⟩
theorem t_Mo_size_b43 {D : va_G} {tt : ClassId × ClassId × ClassId} {a : Nat → Nat} {d N : Nat} (hd : 1 ≤ d) {z : Int32 × zMem} {k4 : Int32 → Int32 → Int32 → zMem → Option (Int32 × zMem)} (hk4 : ∀ (x1 x2 x3 : Int32) (M : zMem), k4 x1 x2 x3 M = some z → zS (zEn D tt) zshp a mz_Mo_size d zTr (zFs (zEn D tt) zshp a (zRi z)) 4 [some (.ref (a 45)), some (.int x1), some (.int x2), some (.int x3)] [] M) {x1 : Int32} {x3 : Int32} {s0 : Int32} {o2 : Option Value} {M : zMem} (h : f_Mo_size_b43 N k4 x1 x3 s0 M = some z) : zS (zEn D tt) zshp a mz_Mo_size d zTr (zFs (zEn D tt) zshp a (zRi z)) 43 [some (.ref (a 45)), some (.int x1), o2, some (.int x3)] [.int s0] M := by
  unfold f_Mo_size_b43 at h
  refine zS_istore_n (n := 44) (j := 2) (x' := s0) d_Mo_size_43 rfl rfl (Nat.le_of_ble_eq_true rfl) rfl ?_
  obtain ⟨v44, hv44, h⟩ := zli h
  refine zS_iinc (n := 47) (j := 3) (x := x3) (v := 1) (x' := v44) d_Mo_size_44 rfl rfl zci_1 (Nat.le_of_ble_eq_true rfl) hv44 ?_
  refine zJ_goto (t := 4) d_Mo_size_47 (by decide) ?_
  exact hk4 _ _ _ _ h
theorem t_Mo_size_b42 {D : va_G} {tt : ClassId × ClassId × ClassId} {a : Nat → Nat} {d N : Nat} (hd : 1 ≤ d) {z : Int32 × zMem} {k4 : Int32 → Int32 → Int32 → zMem → Option (Int32 × zMem)} (hk4 : ∀ (x1 x2 x3 : Int32) (M : zMem), k4 x1 x2 x3 M = some z → zS (zEn D tt) zshp a mz_Mo_size d zTr (zFs (zEn D tt) zshp a (zRi z)) 4 [some (.ref (a 45)), some (.int x1), some (.int x2), some (.int x3)] [] M) {x1 : Int32} {x2 : Int32} {x3 : Int32} {M : zMem} (h : f_Mo_size_b42 N k4 x1 x2 x3 M = some z) : zS (zEn D tt) zshp a mz_Mo_size d zTr (zFs (zEn D tt) zshp a (zRi z)) 42 [some (.ref (a 45)), some (.int x1), some (.int x2), some (.int x3)] [] M := by
  unfold f_Mo_size_b42 at h
  refine zJ_iload_n (n := 43) (j := 2) (x := x2) d_Mo_size_42 rfl rfl rfl ?_
  exact t_Mo_size_b43 hd hk4 h
theorem t_Mo_size_l4 {D : va_G} {tt : ClassId × ClassId × ClassId} {a : Nat → Nat} {d N : Nat} (hd : 1 ≤ d) {z : Int32 × zMem} : ∀ (n : Nat), ∀ (x1 x2 x3 : Int32) (M : zMem), f_Mo_size_l4 N n x1 x2 x3 M = some z → zS (zEn D tt) zshp a mz_Mo_size d zTr (zFs (zEn D tt) zshp a (zRi z)) 4 [some (.ref (a 45)), some (.int x1), some (.int x2), some (.int x3)] [] M := by
  intro n
  induction n with
  | zero =>
    intro x1 x2 x3 M h
    rw [f_Mo_size_l4] at h
    cases h
  | succ n ih =>
    intro x1 x2 x3 M h
    rw [f_Mo_size_l4] at h
    refine zJ_iload_n (n := 5) (j := 3) (x := x3) d_Mo_size_4 rfl rfl rfl ?_
    refine zJ_bipush (n := 7) (v := 64) d_Mo_size_5 rfl zcb_64 ?_
    refine zJ_icmp_ge (t := 50) (n := 10) d_Mo_size_7 (by decide) rfl (fun hc => ?_) (fun hc => ?_)
    · rw [if_pos hc] at h
      refine zJ_iload_n (n := 51) (j := 1) (x := x1) d_Mo_size_50 rfl rfl rfl ?_
      by_cases hc0 : x1 = 0
      · rw [if_pos hc0] at h
        refine zJ_tableIn (t := 92) d_Mo_size_51 (by rw [hc0]; decide) (by rw [hc0]; decide) (by rw [hc0]; rfl) (by decide) ?_
        refine zJ_aload_n (n := 93) (j := 0) (x := a 45) d_Mo_size_92 rfl rfl rfl ?_
        refine zS_geti (n := 96) (k0 := 45) (j := 4) d_Mo_size_93 rfl (fl_Mo_145 D tt) rfl rfl ?_
        cases h
        exact zS_ireturn d_Mo_size_96 rfl rfl ⟨rfl, rfl⟩
      · rw [if_neg hc0] at h
        by_cases hc1 : x1 = 1
        · rw [if_pos hc1] at h
          refine zJ_tableIn (t := 97) d_Mo_size_51 (by rw [hc1]; decide) (by rw [hc1]; decide) (by rw [hc1]; rfl) (by decide) ?_
          refine zJ_aload_n (n := 98) (j := 0) (x := a 45) d_Mo_size_97 rfl rfl rfl ?_
          refine zS_geti (n := 101) (k0 := 45) (j := 9) d_Mo_size_98 rfl (fl_Mo_121 D tt) rfl rfl ?_
          cases h
          exact zS_ireturn d_Mo_size_101 rfl rfl ⟨rfl, rfl⟩
        · rw [if_neg hc1] at h
          by_cases hc2 : x1 = 2
          · rw [if_pos hc2] at h
            refine zJ_tableIn (t := 102) d_Mo_size_51 (by rw [hc2]; decide) (by rw [hc2]; decide) (by rw [hc2]; rfl) (by decide) ?_
            refine zJ_aload_n (n := 103) (j := 0) (x := a 45) d_Mo_size_102 rfl rfl rfl ?_
            obtain ⟨q103, hq103, h⟩ := zbd h
            refine zS_callVi (n := 106) (k0 := 45) (avs := []) (rest := []) (z := q103) (d' := d - 1) d_Mo_size_103 rfl (vk_Mo_117 D tt) rfl rfl rfl (Nat.le_of_ble_eq_true rfl) (by omega) (t_Mo_names (by omega) hq103) ?_
            cases h
            exact zS_ireturn d_Mo_size_106 rfl rfl ⟨rfl, rfl⟩
          · rw [if_neg hc2] at h
            by_cases hc3 : x1 = 3
            · rw [if_pos hc3] at h
              refine zJ_tableIn (t := 107) d_Mo_size_51 (by rw [hc3]; decide) (by rw [hc3]; decide) (by rw [hc3]; rfl) (by decide) ?_
              refine zJ_iload_n (n := 108) (j := 2) (x := x2) d_Mo_size_107 rfl rfl rfl ?_
              cases h
              exact zS_ireturn d_Mo_size_108 rfl rfl ⟨rfl, rfl⟩
            · rw [if_neg hc3] at h
              by_cases hc4 : x1 = 4
              · rw [if_pos hc4] at h
                refine zJ_tableIn (t := 109) d_Mo_size_51 (by rw [hc4]; decide) (by rw [hc4]; decide) (by rw [hc4]; rfl) (by decide) ?_
                refine zJ_aload_n (n := 110) (j := 0) (x := a 45) d_Mo_size_109 rfl rfl rfl ?_
                refine zS_geti (n := 113) (k0 := 45) (j := 21) d_Mo_size_110 rfl (fl_Mo_191 D tt) rfl rfl ?_
                cases h
                exact zS_ireturn d_Mo_size_113 rfl rfl ⟨rfl, rfl⟩
              · rw [if_neg hc4] at h
                by_cases hc5 : x1 = 5
                · rw [if_pos hc5] at h
                  refine zJ_tableIn (t := 114) d_Mo_size_51 (by rw [hc5]; decide) (by rw [hc5]; decide) (by rw [hc5]; rfl) (by decide) ?_
                  refine zJ_aload_n (n := 115) (j := 0) (x := a 45) d_Mo_size_114 rfl rfl rfl ?_
                  refine zS_geti (n := 118) (k0 := 45) (j := 22) d_Mo_size_115 rfl (fl_Mo_181 D tt) rfl rfl ?_
                  cases h
                  exact zS_ireturn d_Mo_size_118 rfl rfl ⟨rfl, rfl⟩
                · rw [if_neg hc5] at h
                  by_cases hc6 : x1 = 6
                  · rw [if_pos hc6] at h
                    refine zJ_tableIn (t := 119) d_Mo_size_51 (by rw [hc6]; decide) (by rw [hc6]; decide) (by rw [hc6]; rfl) (by decide) ?_
                    refine zJ_aload_n (n := 120) (j := 0) (x := a 45) d_Mo_size_119 rfl rfl rfl ?_
                    refine zS_geti (n := 123) (k0 := 45) (j := 18) d_Mo_size_120 rfl (fl_Mo_106 D tt) rfl rfl ?_
                    refine zJ_if_eq (t := 130) (n := 126) d_Mo_size_123 (by decide) rfl (fun hc => ?_) (fun hc => ?_)
                    · rw [if_pos hc] at h
                      refine zJ_iconst (n := 131) (v := 0) d_Mo_size_130 rfl zci_0 ?_
                      cases h
                      exact zS_ireturn d_Mo_size_131 rfl rfl ⟨rfl, rfl⟩
                    · rw [if_neg hc] at h
                      refine zJ_iconst (n := 127) (v := 1) d_Mo_size_126 rfl zci_1 ?_
                      refine zJ_goto (t := 131) d_Mo_size_127 (by decide) ?_
                      cases h
                      exact zS_ireturn d_Mo_size_131 rfl rfl ⟨rfl, rfl⟩
                  · rw [if_neg hc6] at h
                    have hout : x1.toInt < 0 ∨ 6 < x1.toInt := by
                      have w0 := lv_neT hc0 (show (0 : Int32).toInt = 0 by decide)
                      have w1 := lv_neT hc1 (show (1 : Int32).toInt = 1 by decide)
                      have w2 := lv_neT hc2 (show (2 : Int32).toInt = 2 by decide)
                      have w3 := lv_neT hc3 (show (3 : Int32).toInt = 3 by decide)
                      have w4 := lv_neT hc4 (show (4 : Int32).toInt = 4 by decide)
                      have w5 := lv_neT hc5 (show (5 : Int32).toInt = 5 by decide)
                      have w6 := lv_neT hc6 (show (6 : Int32).toInt = 6 by decide)
                      omega
                    refine zJ_tableOut (t := 132) d_Mo_size_51 hout (by decide) ?_
                    refine zJ_iconst (n := 133) (v := -1) d_Mo_size_132 rfl zci_m1 ?_
                    cases h
                    exact zS_ireturn d_Mo_size_133 rfl rfl ⟨rfl, rfl⟩
    · rw [if_neg hc] at h
      refine zJ_aload_n (n := 11) (j := 0) (x := a 45) d_Mo_size_10 rfl rfl rfl ?_
      refine zS_geti (n := 14) (k0 := 45) (j := 4) d_Mo_size_11 rfl (fl_Mo_145 D tt) rfl rfl ?_
      refine zJ_if_le (t := 42) (n := 17) d_Mo_size_14 (by decide) rfl (fun hc => ?_) (fun hc => ?_)
      · rw [if_pos hc] at h
        exact t_Mo_size_b42 hd ih h
      · rw [if_neg hc] at h
        refine zJ_aload_n (n := 18) (j := 0) (x := a 45) d_Mo_size_17 rfl rfl rfl ?_
        refine zS_getr (n := 21) (k0 := 45) (j := 1) (q := 46) d_Mo_size_18 rfl (fl_Mo_7 D tt) rfl rfl ?_
        refine zJ_bipush (n := 23) (v := 64) d_Mo_size_21 rfl zcb_64 ?_
        refine zJ_aload_n (n := 24) (j := 0) (x := a 45) d_Mo_size_23 rfl rfl rfl ?_
        refine zS_geti (n := 27) (k0 := 45) (j := 4) d_Mo_size_24 rfl (fl_Mo_145 D tt) rfl rfl ?_
        refine zJ_iconst (n := 28) (v := 1) d_Mo_size_27 rfl zci_1 ?_
        refine zJ_isub (n := 29) d_Mo_size_28 rfl ?_
        refine zJ_imul (n := 30) d_Mo_size_29 rfl ?_
        refine zJ_iload_n (n := 31) (j := 3) (x := x3) d_Mo_size_30 rfl rfl rfl ?_
        refine zJ_iadd (n := 32) d_Mo_size_31 rfl ?_
        obtain ⟨g32, h⟩ := zgd h
        refine zS_iald (n := 33) (k0 := 46) d_Mo_size_32 rfl rfl rfl rfl g32 ?_
        refine zJ_if_eq (t := 42) (n := 36) d_Mo_size_33 (by decide) rfl (fun hc => ?_) (fun hc => ?_)
        · rw [if_pos hc] at h
          exact t_Mo_size_b42 hd ih h
        · rw [if_neg hc] at h
          refine zJ_iload_n (n := 37) (j := 2) (x := x2) d_Mo_size_36 rfl rfl rfl ?_
          refine zJ_iconst (n := 38) (v := 1) d_Mo_size_37 rfl zci_1 ?_
          refine zJ_iadd (n := 39) d_Mo_size_38 rfl ?_
          refine zJ_goto (t := 43) d_Mo_size_39 (by decide) ?_
          exact t_Mo_size_b43 hd ih h
theorem t_Mo_size {D : va_G} {tt : ClassId × ClassId × ClassId} {a : Nat → Nat} {d N : Nat} (hd : 1 ≤ d) {x1 : Int32} {M : zMem} {z : Int32 × zMem} (h : f_Mo_size N x1 M = some z) : zK (zEn D tt) zshp a mz_Mo_size d [.ref (a 45), .int x1] M (zRi z) := by
  refine zK.enter (L := [some (.ref (a 45)), some (.int x1), none, none]) (by decide) rfl (Nat.le_of_ble_eq_true rfl) rfl ?_
  unfold f_Mo_size at h
  refine zJ_iconst (n := 1) (v := 0) d_Mo_size_0 rfl zci_0 ?_
  refine zS_istore_n (n := 2) (j := 2) (x' := (0 : Int32)) d_Mo_size_1 rfl rfl (Nat.le_of_ble_eq_true rfl) rfl ?_
  refine zJ_iconst (n := 3) (v := 0) d_Mo_size_2 rfl zci_0 ?_
  refine zS_istore_n (n := 4) (j := 3) (x' := (0 : Int32)) d_Mo_size_3 rfl rfl (Nat.le_of_ble_eq_true rfl) rfl ?_
  exact t_Mo_size_l4 hd N _ _ _ _ h
