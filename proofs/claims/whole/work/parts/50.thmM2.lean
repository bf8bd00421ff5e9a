theorem t_Mo_formed_b163 {D : va_G} {tt : ClassId × ClassId × ClassId} {a : Nat → Nat} {d N : Nat} (hd : 2 ≤ d) {z : Int32 × zMem} {k131 : Int32 → Int32 → Int32 → Int32 → Int32 → zMem → Option (Int32 × zMem)} (hk131 : ∀ (x2 x3 x4 x6 x7 : Int32) (o0 o1 o5 : Option Value) (M : zMem), k131 x2 x3 x4 x6 x7 M = some z → zS (zEn D tt) zshp a mz_Mo_formed d zTr (zFs (zEn D tt) zshp a (zRi z)) 131 [o0, o1, some (.int x2), some (.int x3), some (.int x4), o5, some (.int x6), some (.int x7)] [] M) {x2 : Int32} {x3 : Int32} {x4 : Int32} {x7 : Int32} {s0 : Int32} {o0 : Option Value} {o1 : Option Value} {o5 : Option Value} {o6 : Option Value} {M : zMem} (h : f_Mo_formed_b163 N k131 x2 x3 x4 x7 s0 M = some z) : zS (zEn D tt) zshp a mz_Mo_formed d zTr (zFs (zEn D tt) zshp a (zRi z)) 163 [o0, o1, some (.int x2), some (.int x3), some (.int x4), o5, o6, some (.int x7)] [.int s0] M := by
  unfold f_Mo_formed_b163 at h
  refine zS_istore (n := 165) (j := 6) (x' := s0) d_Mo_formed_163 rfl (Nat.le_of_ble_eq_true rfl) rfl ?_
  obtain ⟨v165, hv165, h⟩ := zli h
  refine zS_iinc (n := 168) (j := 7) (x := x7) (v := 1) (x' := v165) d_Mo_formed_165 rfl rfl zci_1 (Nat.le_of_ble_eq_true rfl) hv165 ?_
  refine zJ_goto (t := 131) d_Mo_formed_168 (by decide) ?_
  exact hk131 _ _ _ _ _ _ _ _ _ h
theorem t_Mo_formed_l131 {D : va_G} {tt : ClassId × ClassId × ClassId} {a : Nat → Nat} {d N : Nat} (hd : 2 ≤ d) {z : Int32 × zMem} : ∀ (n : Nat), ∀ (x2 x3 x4 x6 x7 : Int32) (o0 o1 o5 : Option Value) (M : zMem), f_Mo_formed_l131 N n x2 x3 x4 x6 x7 M = some z → zS (zEn D tt) zshp a mz_Mo_formed d zTr (zFs (zEn D tt) zshp a (zRi z)) 131 [o0, o1, some (.int x2), some (.int x3), some (.int x4), o5, some (.int x6), some (.int x7)] [] M := by
  intro n
  induction n with
  | zero =>
    intro x2 x3 x4 x6 x7 o0 o1 o5 M h
    rw [f_Mo_formed_l131] at h
    cases h
  | succ n ih =>
    intro x2 x3 x4 x6 x7 o0 o1 o5 M h
    rw [f_Mo_formed_l131] at h
    refine zJ_iload (n := 133) (j := 7) (x := x7) d_Mo_formed_131 rfl rfl ?_
    refine zJ_iload_n (n := 134) (j := 3) (x := x3) d_Mo_formed_133 rfl rfl rfl ?_
    refine zJ_icmp_ge (t := 171) (n := 137) d_Mo_formed_134 (by decide) rfl (fun hc => ?_) (fun hc => ?_)
    · rw [if_pos hc] at h
      refine zJ_iload (n := 173) (j := 6) (x := x6) d_Mo_formed_171 rfl rfl ?_
      obtain ⟨gz, h⟩ := zgd h
      cases h
      exact zS_ireturn d_Mo_formed_173 rfl (zbool_nar gz) ⟨rfl, rfl⟩
    · rw [if_neg hc] at h
      refine zJ_iload (n := 139) (j := 6) (x := x6) d_Mo_formed_137 rfl rfl ?_
      refine zJ_if_eq (t := 171) (n := 142) d_Mo_formed_139 (by decide) rfl (fun hc => ?_) (fun hc => ?_)
      · rw [if_pos hc] at h
        refine zJ_iload (n := 173) (j := 6) (x := x6) d_Mo_formed_171 rfl rfl ?_
        obtain ⟨gz, h⟩ := zgd h
        cases h
        exact zS_ireturn d_Mo_formed_173 rfl (zbool_nar gz) ⟨rfl, rfl⟩
      · rw [if_neg hc] at h
        refine zJ_iload (n := 144) (j := 4) (x := x4) d_Mo_formed_142 rfl rfl ?_
        refine zJ_iload (n := 146) (j := 7) (x := x7) d_Mo_formed_144 rfl rfl ?_
        obtain ⟨q146, hq146, h⟩ := zbd h
        refine zS_callSi (n := 149) (avs := [.int x4, .int x7]) (rest := []) (z := q146) (d' := d - 1) d_Mo_formed_146 rfl (sk_Mo_174 D tt) rfl rfl (Nat.le_of_ble_eq_true rfl) (by omega) (t_Mo_bit (by omega) hq146) ?_
        refine zJ_iload_n (n := 150) (j := 2) (x := x2) d_Mo_formed_149 rfl rfl rfl ?_
        refine zJ_iload (n := 152) (j := 7) (x := x7) d_Mo_formed_150 rfl rfl ?_
        obtain ⟨q152, hq152, h⟩ := zbd h
        refine zS_callSi (n := 155) (avs := [.int x2, .int x7]) (rest := [.int q146.1]) (z := q152) (d' := d - 1) d_Mo_formed_152 rfl (sk_Mo_174 D tt) rfl rfl (Nat.le_of_ble_eq_true rfl) (by omega) (t_Mo_bit (by omega) hq152) ?_
        refine zJ_icmp_ne (t := 162) (n := 158) d_Mo_formed_155 (by decide) rfl (fun hc => ?_) (fun hc => ?_)
        · rw [if_neg hc] at h
          refine zJ_iconst (n := 163) (v := 0) d_Mo_formed_162 rfl zci_0 ?_
          exact t_Mo_formed_b163 hd ih h
        · rw [if_pos hc] at h
          refine zJ_iconst (n := 159) (v := 1) d_Mo_formed_158 rfl zci_1 ?_
          refine zJ_goto (t := 163) d_Mo_formed_159 (by decide) ?_
          exact t_Mo_formed_b163 hd ih h
theorem t_Mo_formed_b126 {D : va_G} {tt : ClassId × ClassId × ClassId} {a : Nat → Nat} {d N : Nat} (hd : 2 ≤ d) {z : Int32 × zMem} {x2 : Int32} {x3 : Int32} {x4 : Int32} {s0 : Int32} {o0 : Option Value} {o1 : Option Value} {o5 : Option Value} {o6 : Option Value} {o7 : Option Value} {M : zMem} (h : f_Mo_formed_b126 N x2 x3 x4 s0 M = some z) : zS (zEn D tt) zshp a mz_Mo_formed d zTr (zFs (zEn D tt) zshp a (zRi z)) 126 [o0, o1, some (.int x2), some (.int x3), some (.int x4), o5, o6, o7] [.int s0] M := by
  unfold f_Mo_formed_b126 at h
  refine zS_istore (n := 128) (j := 6) (x' := s0) d_Mo_formed_126 rfl (Nat.le_of_ble_eq_true rfl) rfl ?_
  refine zJ_iconst (n := 129) (v := 0) d_Mo_formed_128 rfl zci_0 ?_
  refine zS_istore (n := 131) (j := 7) (x' := (0 : Int32)) d_Mo_formed_129 rfl (Nat.le_of_ble_eq_true rfl) rfl ?_
  exact t_Mo_formed_l131 hd N _ _ _ _ _ _ _ _ _ h
theorem t_Mo_formed_b125 {D : va_G} {tt : ClassId × ClassId × ClassId} {a : Nat → Nat} {d N : Nat} (hd : 2 ≤ d) {z : Int32 × zMem} {x2 : Int32} {x3 : Int32} {x4 : Int32} {o0 : Option Value} {o1 : Option Value} {o5 : Option Value} {o6 : Option Value} {o7 : Option Value} {M : zMem} (h : f_Mo_formed_b125 N x2 x3 x4 M = some z) : zS (zEn D tt) zshp a mz_Mo_formed d zTr (zFs (zEn D tt) zshp a (zRi z)) 125 [o0, o1, some (.int x2), some (.int x3), some (.int x4), o5, o6, o7] [] M := by
  unfold f_Mo_formed_b125 at h
  refine zJ_iconst (n := 126) (v := 0) d_Mo_formed_125 rfl zci_0 ?_
  exact t_Mo_formed_b126 hd h
theorem t_Mo_formed {D : va_G} {tt : ClassId × ClassId × ClassId} {a : Nat → Nat} {d N : Nat} (hd : 2 ≤ d) {x1 : Int32} {x2 : Int32} {M : zMem} {z : Int32 × zMem} (h : f_Mo_formed N x1 x2 M = some z) : zK (zEn D tt) zshp a mz_Mo_formed d [.ref (a 45), .int x1, .int x2] M (zRi z) := by
  refine zK.enter (L := [some (.ref (a 45)), some (.int x1), some (.int x2), none, none, none, none, none]) (by decide) rfl (Nat.le_of_ble_eq_true rfl) rfl ?_
  unfold f_Mo_formed at h
  refine zJ_iload_n (n := 1) (j := 1) (x := x1) d_Mo_formed_0 rfl rfl rfl ?_
  refine zJ_if_lt (t := 26) (n := 4) d_Mo_formed_1 (by decide) rfl (fun hc => ?_) (fun hc => ?_)
  · rw [if_pos hc] at h
    refine zJ_iconst (n := 27) (v := 0) d_Mo_formed_26 rfl zci_0 ?_
    cases h
    exact zS_ireturn d_Mo_formed_27 rfl rfl ⟨rfl, rfl⟩
  · rw [if_neg hc] at h
    refine zJ_iload_n (n := 5) (j := 1) (x := x1) d_Mo_formed_4 rfl rfl rfl ?_
    refine zJ_iconst (n := 6) (v := 3) d_Mo_formed_5 rfl zci_3 ?_
    refine zJ_icmp_gt (t := 26) (n := 9) d_Mo_formed_6 (by decide) rfl (fun hc => ?_) (fun hc => ?_)
    · rw [if_pos hc] at h
      refine zJ_iconst (n := 27) (v := 0) d_Mo_formed_26 rfl zci_0 ?_
      cases h
      exact zS_ireturn d_Mo_formed_27 rfl rfl ⟨rfl, rfl⟩
    · rw [if_neg hc] at h
      refine zJ_iload_n (n := 10) (j := 2) (x := x2) d_Mo_formed_9 rfl rfl rfl ?_
      obtain ⟨q10, hq10, h⟩ := zbd h
      refine zS_callSi (n := 13) (avs := [.int x2]) (rest := []) (z := q10) (d' := d - 1) d_Mo_formed_10 rfl (sk_Mo_110 D tt) rfl rfl (Nat.le_of_ble_eq_true rfl) (by omega) (t_Mo_isName (by omega) hq10) ?_
      refine zJ_if_eq (t := 26) (n := 16) d_Mo_formed_13 (by decide) rfl (fun hc => ?_) (fun hc => ?_)
      · rw [if_pos hc] at h
        refine zJ_iconst (n := 27) (v := 0) d_Mo_formed_26 rfl zci_0 ?_
        cases h
        exact zS_ireturn d_Mo_formed_27 rfl rfl ⟨rfl, rfl⟩
      · rw [if_neg hc] at h
        refine zJ_aload_n (n := 17) (j := 0) (x := a 45) d_Mo_formed_16 rfl rfl rfl ?_
        refine zS_getr (n := 20) (k0 := 45) (j := 20) (q := 61) d_Mo_formed_17 rfl (fl_Mo_56 D tt) rfl rfl ?_
        refine zJ_iload_n (n := 21) (j := 1) (x := x1) d_Mo_formed_20 rfl rfl rfl ?_
        obtain ⟨g21, h⟩ := zgd h
        refine zS_iald (n := 22) (k0 := 61) d_Mo_formed_21 rfl rfl rfl rfl g21 ?_
        refine zJ_iconst (n := 23) (v := 3) d_Mo_formed_22 rfl zci_3 ?_
        refine zJ_icmp_ge (t := 28) (n := 26) d_Mo_formed_23 (by decide) rfl (fun hc => ?_) (fun hc => ?_)
        · rw [if_pos hc] at h
          refine zJ_aload_n (n := 29) (j := 0) (x := a 45) d_Mo_formed_28 rfl rfl rfl ?_
          refine zS_getr (n := 32) (k0 := 45) (j := 19) (q := 60) d_Mo_formed_29 rfl (fl_Mo_53 D tt) rfl rfl ?_
          refine zJ_bipush (n := 34) (v := 30) d_Mo_formed_32 rfl zcb_30 ?_
          refine zJ_iload_n (n := 35) (j := 1) (x := x1) d_Mo_formed_34 rfl rfl rfl ?_
          refine zJ_imul (n := 36) d_Mo_formed_35 rfl ?_
          obtain ⟨g36, h⟩ := zgd h
          refine zS_iald (n := 37) (k0 := 60) d_Mo_formed_36 rfl rfl rfl rfl g36 ?_
          obtain ⟨v37, hv37, h⟩ := zli h
          refine zS_istore_n (n := 38) (j := 3) (x' := v37) d_Mo_formed_37 rfl rfl (Nat.le_of_ble_eq_true rfl) hv37 ?_
          refine zJ_aload_n (n := 39) (j := 0) (x := a 45) d_Mo_formed_38 rfl rfl rfl ?_
          refine zS_getr (n := 42) (k0 := 45) (j := 19) (q := 60) d_Mo_formed_39 rfl (fl_Mo_53 D tt) rfl rfl ?_
          refine zJ_bipush (n := 44) (v := 30) d_Mo_formed_42 rfl zcb_30 ?_
          refine zJ_iload_n (n := 45) (j := 1) (x := x1) d_Mo_formed_44 rfl rfl rfl ?_
          refine zJ_imul (n := 46) d_Mo_formed_45 rfl ?_
          refine zJ_iconst (n := 47) (v := 1) d_Mo_formed_46 rfl zci_1 ?_
          refine zJ_iadd (n := 48) d_Mo_formed_47 rfl ?_
          obtain ⟨g48, h⟩ := zgd h
          refine zS_iald (n := 49) (k0 := 60) d_Mo_formed_48 rfl rfl rfl rfl g48 ?_
          obtain ⟨v49, hv49, h⟩ := zli h
          refine zS_istore (n := 51) (j := 4) (x' := v49) d_Mo_formed_49 rfl (Nat.le_of_ble_eq_true rfl) hv49 ?_
          refine zJ_aload_n (n := 52) (j := 0) (x := a 45) d_Mo_formed_51 rfl rfl rfl ?_
          refine zS_getr (n := 55) (k0 := 45) (j := 19) (q := 60) d_Mo_formed_52 rfl (fl_Mo_53 D tt) rfl rfl ?_
          refine zJ_bipush (n := 57) (v := 30) d_Mo_formed_55 rfl zcb_30 ?_
          refine zJ_iload_n (n := 58) (j := 1) (x := x1) d_Mo_formed_57 rfl rfl rfl ?_
          refine zJ_imul (n := 59) d_Mo_formed_58 rfl ?_
          refine zJ_iconst (n := 60) (v := 2) d_Mo_formed_59 rfl zci_2 ?_
          refine zJ_iadd (n := 61) d_Mo_formed_60 rfl ?_
          obtain ⟨g61, h⟩ := zgd h
          refine zS_iald (n := 62) (k0 := 60) d_Mo_formed_61 rfl rfl rfl rfl g61 ?_
          obtain ⟨v62, hv62, h⟩ := zli h
          refine zS_istore (n := 64) (j := 5) (x' := v62) d_Mo_formed_62 rfl (Nat.le_of_ble_eq_true rfl) hv62 ?_
          refine zJ_iload_n (n := 65) (j := 3) (x := v37) d_Mo_formed_64 rfl rfl rfl ?_
          refine zJ_if_lt (t := 86) (n := 68) d_Mo_formed_65 (by decide) rfl (fun hc => ?_) (fun hc => ?_)
          · rw [if_pos hc] at h
            refine zJ_iconst (n := 87) (v := 0) d_Mo_formed_86 rfl zci_0 ?_
            cases h
            exact zS_ireturn d_Mo_formed_87 rfl rfl ⟨rfl, rfl⟩
          · rw [if_neg hc] at h
            refine zJ_iload_n (n := 69) (j := 3) (x := v37) d_Mo_formed_68 rfl rfl rfl ?_
            refine zJ_bipush (n := 71) (v := 6) d_Mo_formed_69 rfl zcb_6 ?_
            refine zJ_icmp_gt (t := 86) (n := 74) d_Mo_formed_71 (by decide) rfl (fun hc => ?_) (fun hc => ?_)
            · rw [if_pos hc] at h
              refine zJ_iconst (n := 87) (v := 0) d_Mo_formed_86 rfl zci_0 ?_
              cases h
              exact zS_ireturn d_Mo_formed_87 rfl rfl ⟨rfl, rfl⟩
            · rw [if_neg hc] at h
              refine zJ_aload_n (n := 75) (j := 0) (x := a 45) d_Mo_formed_74 rfl rfl rfl ?_
              refine zS_getr (n := 78) (k0 := 45) (j := 20) (q := 61) d_Mo_formed_75 rfl (fl_Mo_56 D tt) rfl rfl ?_
              refine zJ_iload_n (n := 79) (j := 1) (x := x1) d_Mo_formed_78 rfl rfl rfl ?_
              obtain ⟨g79, h⟩ := zgd h
              refine zS_iald (n := 80) (k0 := 61) d_Mo_formed_79 rfl rfl rfl rfl g79 ?_
              refine zJ_iconst (n := 81) (v := 3) d_Mo_formed_80 rfl zci_3 ?_
              refine zJ_iload_n (n := 82) (j := 3) (x := v37) d_Mo_formed_81 rfl rfl rfl ?_
              refine zJ_iadd (n := 83) d_Mo_formed_82 rfl ?_
              refine zJ_icmp_eq (t := 88) (n := 86) d_Mo_formed_83 (by decide) rfl (fun hc => ?_) (fun hc => ?_)
              · rw [if_pos hc] at h
                refine zJ_iload (n := 90) (j := 4) (x := v49) d_Mo_formed_88 rfl rfl ?_
                refine zJ_iconst (n := 91) (v := -1) d_Mo_formed_90 rfl zci_m1 ?_
                refine zJ_icmp_ne (t := 105) (n := 94) d_Mo_formed_91 (by decide) rfl (fun hc => ?_) (fun hc => ?_)
                · rw [if_neg hc] at h
                  refine zJ_iload (n := 107) (j := 4) (x := v49) d_Mo_formed_105 rfl rfl ?_
                  obtain ⟨q107, hq107, h⟩ := zbd h
                  refine zS_callSi (n := 110) (avs := [.int v49]) (rest := []) (z := q107) (d' := d - 1) d_Mo_formed_107 rfl (sk_Mo_110 D tt) rfl rfl (Nat.le_of_ble_eq_true rfl) (by omega) (t_Mo_isName (by omega) hq107) ?_
                  refine zJ_if_eq (t := 125) (n := 113) d_Mo_formed_110 (by decide) rfl (fun hc => ?_) (fun hc => ?_)
                  · rw [if_pos hc] at h
                    exact t_Mo_formed_b125 hd h
                  · rw [if_neg hc] at h
                    refine zJ_iload (n := 115) (j := 5) (x := v62) d_Mo_formed_113 rfl rfl ?_
                    obtain ⟨q115, hq115, h⟩ := zbd h
                    refine zS_callSi (n := 118) (avs := [.int v62]) (rest := []) (z := q115) (d' := d - 1) d_Mo_formed_115 rfl (sk_Mo_114 D tt) rfl rfl (Nat.le_of_ble_eq_true rfl) (by omega) (t_Mo_isKey (by omega) hq115) ?_
                    refine zJ_if_eq (t := 125) (n := 121) d_Mo_formed_118 (by decide) rfl (fun hc => ?_) (fun hc => ?_)
                    · rw [if_pos hc] at h
                      exact t_Mo_formed_b125 hd h
                    · rw [if_neg hc] at h
                      refine zJ_iconst (n := 122) (v := 1) d_Mo_formed_121 rfl zci_1 ?_
                      refine zJ_goto (t := 126) d_Mo_formed_122 (by decide) ?_
                      exact t_Mo_formed_b126 hd h
                · rw [if_pos hc] at h
                  refine zJ_iload (n := 96) (j := 5) (x := v62) d_Mo_formed_94 rfl rfl ?_
                  refine zJ_if_ne (t := 103) (n := 99) d_Mo_formed_96 (by decide) rfl (fun hc => ?_) (fun hc => ?_)
                  · rw [if_neg hc] at h
                    refine zJ_iconst (n := 104) (v := 0) d_Mo_formed_103 rfl zci_0 ?_
                    cases h
                    exact zS_ireturn d_Mo_formed_104 rfl rfl ⟨rfl, rfl⟩
                  · rw [if_pos hc] at h
                    refine zJ_iconst (n := 100) (v := 1) d_Mo_formed_99 rfl zci_1 ?_
                    refine zJ_goto (t := 104) d_Mo_formed_100 (by decide) ?_
                    cases h
                    exact zS_ireturn d_Mo_formed_104 rfl rfl ⟨rfl, rfl⟩
              · rw [if_neg hc] at h
                refine zJ_iconst (n := 87) (v := 0) d_Mo_formed_86 rfl zci_0 ?_
                cases h
                exact zS_ireturn d_Mo_formed_87 rfl rfl ⟨rfl, rfl⟩
        · rw [if_neg hc] at h
          refine zJ_iconst (n := 27) (v := 0) d_Mo_formed_26 rfl zci_0 ?_
          cases h
          exact zS_ireturn d_Mo_formed_27 rfl rfl ⟨rfl, rfl⟩
theorem t_Mo_accepted_b206 {D : va_G} {tt : ClassId × ClassId × ClassId} {a : Nat → Nat} {d N : Nat} (hd : 3 ≤ d) {z : Int32 × zMem} {k123 : Int32 → Int32 → Int32 → Int32 → Int32 → Int32 → zMem → Option (Int32 × zMem)} (hk123 : ∀ (x1 x2 x3 x4 x7 x8 : Int32) (o5 o6 o9 : Option Value) (M : zMem), k123 x1 x2 x3 x4 x7 x8 M = some z → zS (zEn D tt) zshp a mz_Mo_accepted d zTr (zFs (zEn D tt) zshp a (zRi z)) 123 [some (.ref (a 45)), some (.int x1), some (.int x2), some (.int x3), some (.int x4), o5, o6, some (.int x7), some (.int x8), o9] [] M) {x1 : Int32} {x2 : Int32} {x3 : Int32} {x4 : Int32} {x8 : Int32} {s1 : Int32} {s2 : Int32} {o5 : Option Value} {o6 : Option Value} {o7 : Option Value} {o9 : Option Value} {M : zMem} (h : f_Mo_accepted_b206 N k123 x1 x2 x3 x4 x8 s1 s2 M = some z) : zS (zEn D tt) zshp a mz_Mo_accepted d zTr (zFs (zEn D tt) zshp a (zRi z)) 206 [some (.ref (a 45)), some (.int x1), some (.int x2), some (.int x3), some (.int x4), o5, o6, o7, some (.int x8), o9] [.int s2, .int s1, .ref (a 69)] M := by
  unfold f_Mo_accepted_b206 at h
  obtain ⟨g206, h⟩ := zgd h
  obtain ⟨M206, hM206, h⟩ := zli h
  refine zS_iastN (n := 207) (k0 := 69) d_Mo_accepted_206 rfl rfl rfl rfl g206 hM206 ?_
  refine zJ_aload_n (n := 208) (j := 0) (x := a 45) d_Mo_accepted_207 rfl rfl rfl ?_
  refine zJ_iconst (n := 209) (v := 2) d_Mo_accepted_208 rfl zci_2 ?_
  refine zJ_aload_n (n := 210) (j := 0) (x := a 45) d_Mo_accepted_209 rfl rfl rfl ?_
  refine zS_getr (n := 213) (k0 := 45) (j := 34) (q := 68) d_Mo_accepted_210 rfl (fl_Mo_77 D tt) rfl rfl ?_
  refine zJ_iload (n := 215) (j := 4) (x := x4) d_Mo_accepted_213 rfl rfl ?_
  refine zJ_iload (n := 217) (j := 8) (x := x8) d_Mo_accepted_215 rfl rfl ?_
  refine zJ_iadd (n := 218) d_Mo_accepted_217 rfl ?_
  obtain ⟨g218, h⟩ := zgd h
  refine zS_iald (n := 219) (k0 := 68) d_Mo_accepted_218 rfl rfl rfl rfl g218 ?_
  refine zJ_aload_n (n := 220) (j := 0) (x := a 45) d_Mo_accepted_219 rfl rfl rfl ?_
  refine zS_getr (n := 223) (k0 := 45) (j := 35) (q := 69) d_Mo_accepted_220 rfl (fl_Mo_80 D tt) rfl rfl ?_
  refine zJ_iload (n := 225) (j := 4) (x := x4) d_Mo_accepted_223 rfl rfl ?_
  refine zJ_iload (n := 227) (j := 8) (x := x8) d_Mo_accepted_225 rfl rfl ?_
  refine zJ_iadd (n := 228) d_Mo_accepted_227 rfl ?_
  obtain ⟨g228, h⟩ := zgd h
  refine zS_iald (n := 229) (k0 := 69) d_Mo_accepted_228 rfl rfl rfl rfl g228 ?_
  obtain ⟨q229, hq229, h⟩ := zbd h
  refine zS_callVi (n := 232) (k0 := 45) (avs := [.int (2 : Int32), .int (M206 68 (x4 + x8).toNatClampNeg), .int (M206 69 (x4 + x8).toNatClampNeg)]) (rest := []) (z := q229) (d' := d - 1) d_Mo_accepted_229 rfl (vk_Mo_102 D tt) rfl rfl rfl (Nat.le_of_ble_eq_true rfl) (by omega) (t_Mo_hash (by omega) hq229) ?_
  refine zS_istore (n := 234) (j := 7) (x' := q229.1) d_Mo_accepted_232 rfl (Nat.le_of_ble_eq_true rfl) rfl ?_
  obtain ⟨v234, hv234, h⟩ := zli h
  refine zS_iinc (n := 237) (j := 8) (x := x8) (v := -1) (x' := v234) d_Mo_accepted_234 rfl rfl zci_m1 (Nat.le_of_ble_eq_true rfl) hv234 ?_
  refine zJ_goto (t := 123) d_Mo_accepted_237 (by decide) ?_
  exact hk123 _ _ _ _ _ _ _ _ _ _ h
theorem t_Mo_accepted_b180 {D : va_G} {tt : ClassId × ClassId × ClassId} {a : Nat → Nat} {d N : Nat} (hd : 3 ≤ d) {z : Int32 × zMem} {k123 : Int32 → Int32 → Int32 → Int32 → Int32 → Int32 → zMem → Option (Int32 × zMem)} (hk123 : ∀ (x1 x2 x3 x4 x7 x8 : Int32) (o5 o6 o9 : Option Value) (M : zMem), k123 x1 x2 x3 x4 x7 x8 M = some z → zS (zEn D tt) zshp a mz_Mo_accepted d zTr (zFs (zEn D tt) zshp a (zRi z)) 123 [some (.ref (a 45)), some (.int x1), some (.int x2), some (.int x3), some (.int x4), o5, o6, some (.int x7), some (.int x8), o9] [] M) {x1 : Int32} {x2 : Int32} {x3 : Int32} {x4 : Int32} {x7 : Int32} {x8 : Int32} {x9 : Int32} {s1 : Int32} {s2 : Int32} {o5 : Option Value} {o6 : Option Value} {M : zMem} (h : f_Mo_accepted_b180 N k123 x1 x2 x3 x4 x7 x8 x9 s1 s2 M = some z) : zS (zEn D tt) zshp a mz_Mo_accepted d zTr (zFs (zEn D tt) zshp a (zRi z)) 180 [some (.ref (a 45)), some (.int x1), some (.int x2), some (.int x3), some (.int x4), o5, o6, some (.int x7), some (.int x8), some (.int x9)] [.int s2, .int s1, .ref (a 68)] M := by
  unfold f_Mo_accepted_b180 at h
  obtain ⟨g180, h⟩ := zgd h
  obtain ⟨M180, hM180, h⟩ := zli h
  refine zS_iastN (n := 181) (k0 := 68) d_Mo_accepted_180 rfl rfl rfl rfl g180 hM180 ?_
  refine zJ_aload_n (n := 182) (j := 0) (x := a 45) d_Mo_accepted_181 rfl rfl rfl ?_
  refine zS_getr (n := 185) (k0 := 45) (j := 35) (q := 69) d_Mo_accepted_182 rfl (fl_Mo_80 D tt) rfl rfl ?_
  refine zJ_iload (n := 187) (j := 4) (x := x4) d_Mo_accepted_185 rfl rfl ?_
  refine zJ_iload (n := 189) (j := 8) (x := x8) d_Mo_accepted_187 rfl rfl ?_
  refine zJ_iadd (n := 190) d_Mo_accepted_189 rfl ?_
  refine zJ_iload_n (n := 191) (j := 2) (x := x2) d_Mo_accepted_190 rfl rfl rfl ?_
  refine zJ_iload (n := 193) (j := 8) (x := x8) d_Mo_accepted_191 rfl rfl ?_
  obtain ⟨q193, hq193, h⟩ := zbd h
  refine zS_callSi (n := 196) (avs := [.int x2, .int x8]) (rest := [.int (x4 + x8), .ref (a 69)]) (z := q193) (d' := d - 1) d_Mo_accepted_193 rfl (sk_Mo_174 D tt) rfl rfl (Nat.le_of_ble_eq_true rfl) (by omega) (t_Mo_bit (by omega) hq193) ?_
  refine zJ_if_ne (t := 204) (n := 199) d_Mo_accepted_196 (by decide) rfl (fun hc => ?_) (fun hc => ?_)
  · rw [if_neg hc] at h
    refine zJ_iload (n := 206) (j := 7) (x := x7) d_Mo_accepted_204 rfl rfl ?_
    exact t_Mo_accepted_b206 hd hk123 h
  · rw [if_pos hc] at h
    refine zJ_iload (n := 201) (j := 9) (x := x9) d_Mo_accepted_199 rfl rfl ?_
    refine zJ_goto (t := 206) d_Mo_accepted_201 (by decide) ?_
    exact t_Mo_accepted_b206 hd hk123 h
theorem t_Mo_accepted_l123 {D : va_G} {tt : ClassId × ClassId × ClassId} {a : Nat → Nat} {d N : Nat} (hd : 3 ≤ d) {z : Int32 × zMem} : ∀ (n : Nat), ∀ (x1 x2 x3 x4 x7 x8 : Int32) (o5 o6 o9 : Option Value) (M : zMem), f_Mo_accepted_l123 N n x1 x2 x3 x4 x7 x8 M = some z → zS (zEn D tt) zshp a mz_Mo_accepted d zTr (zFs (zEn D tt) zshp a (zRi z)) 123 [some (.ref (a 45)), some (.int x1), some (.int x2), some (.int x3), some (.int x4), o5, o6, some (.int x7), some (.int x8), o9] [] M := by
  intro n
  induction n with
  | zero =>
    intro x1 x2 x3 x4 x7 x8 o5 o6 o9 M h
    rw [f_Mo_accepted_l123] at h
    cases h
  | succ n ih =>
    intro x1 x2 x3 x4 x7 x8 o5 o6 o9 M h
    rw [f_Mo_accepted_l123] at h
    refine zJ_iload (n := 125) (j := 8) (x := x8) d_Mo_accepted_123 rfl rfl ?_
    refine zJ_if_lt (t := 240) (n := 128) d_Mo_accepted_125 (by decide) rfl (fun hc => ?_) (fun hc => ?_)
    · rw [if_pos hc] at h
      refine zJ_iload (n := 242) (j := 7) (x := x7) d_Mo_accepted_240 rfl rfl ?_
      refine zJ_iload_n (n := 243) (j := 3) (x := x3) d_Mo_accepted_242 rfl rfl rfl ?_
      refine zJ_icmp_ne (t := 250) (n := 246) d_Mo_accepted_243 (by decide) rfl (fun hc => ?_) (fun hc => ?_)
      · rw [if_neg hc] at h
        refine zJ_iconst (n := 251) (v := 0) d_Mo_accepted_250 rfl zci_0 ?_
        cases h
        exact zS_ireturn d_Mo_accepted_251 rfl rfl ⟨rfl, rfl⟩
      · rw [if_pos hc] at h
        refine zJ_iconst (n := 247) (v := 1) d_Mo_accepted_246 rfl zci_1 ?_
        refine zJ_goto (t := 251) d_Mo_accepted_247 (by decide) ?_
        cases h
        exact zS_ireturn d_Mo_accepted_251 rfl rfl ⟨rfl, rfl⟩
    · rw [if_neg hc] at h
      refine zJ_aload_n (n := 129) (j := 0) (x := a 45) d_Mo_accepted_128 rfl rfl rfl ?_
      refine zS_getr (n := 132) (k0 := 45) (j := 19) (q := 60) d_Mo_accepted_129 rfl (fl_Mo_53 D tt) rfl rfl ?_
      refine zJ_bipush (n := 134) (v := 30) d_Mo_accepted_132 rfl zcb_30 ?_
      refine zJ_iload_n (n := 135) (j := 1) (x := x1) d_Mo_accepted_134 rfl rfl rfl ?_
      refine zJ_imul (n := 136) d_Mo_accepted_135 rfl ?_
      refine zJ_iconst (n := 137) (v := 3) d_Mo_accepted_136 rfl zci_3 ?_
      refine zJ_iadd (n := 138) d_Mo_accepted_137 rfl ?_
      refine zJ_iload (n := 140) (j := 8) (x := x8) d_Mo_accepted_138 rfl rfl ?_
      refine zJ_iadd (n := 141) d_Mo_accepted_140 rfl ?_
      obtain ⟨g141, h⟩ := zgd h
      refine zS_iald (n := 142) (k0 := 60) d_Mo_accepted_141 rfl rfl rfl rfl g141 ?_
      obtain ⟨v142, hv142, h⟩ := zli h
      refine zS_istore (n := 144) (j := 9) (x' := v142) d_Mo_accepted_142 rfl (Nat.le_of_ble_eq_true rfl) hv142 ?_
      refine zJ_aload_n (n := 145) (j := 0) (x := a 45) d_Mo_accepted_144 rfl rfl rfl ?_
      refine zS_getr (n := 148) (k0 := 45) (j := 33) (q := 67) d_Mo_accepted_145 rfl (fl_Mo_74 D tt) rfl rfl ?_
      refine zJ_iload (n := 150) (j := 4) (x := x4) d_Mo_accepted_148 rfl rfl ?_
      refine zJ_iload (n := 152) (j := 8) (x := x8) d_Mo_accepted_150 rfl rfl ?_
      refine zJ_iadd (n := 153) d_Mo_accepted_152 rfl ?_
      refine zJ_iconst (n := 154) (v := 2) d_Mo_accepted_153 rfl zci_2 ?_
      obtain ⟨g154, h⟩ := zgd h
      obtain ⟨M154, hM154, h⟩ := zli h
      refine zS_iastN (n := 155) (k0 := 67) d_Mo_accepted_154 rfl rfl rfl rfl g154 hM154 ?_
      refine zJ_aload_n (n := 156) (j := 0) (x := a 45) d_Mo_accepted_155 rfl rfl rfl ?_
      refine zS_getr (n := 159) (k0 := 45) (j := 34) (q := 68) d_Mo_accepted_156 rfl (fl_Mo_77 D tt) rfl rfl ?_
      refine zJ_iload (n := 161) (j := 4) (x := x4) d_Mo_accepted_159 rfl rfl ?_
      refine zJ_iload (n := 163) (j := 8) (x := x8) d_Mo_accepted_161 rfl rfl ?_
      refine zJ_iadd (n := 164) d_Mo_accepted_163 rfl ?_
      refine zJ_iload_n (n := 165) (j := 2) (x := x2) d_Mo_accepted_164 rfl rfl rfl ?_
      refine zJ_iload (n := 167) (j := 8) (x := x8) d_Mo_accepted_165 rfl rfl ?_
      obtain ⟨q167, hq167, h⟩ := zbd h
      refine zS_callSi (n := 170) (avs := [.int x2, .int x8]) (rest := [.int (x4 + x8), .ref (a 68)]) (z := q167) (d' := d - 1) d_Mo_accepted_167 rfl (sk_Mo_174 D tt) rfl rfl (Nat.le_of_ble_eq_true rfl) (by omega) (t_Mo_bit (by omega) hq167) ?_
      refine zJ_if_ne (t := 178) (n := 173) d_Mo_accepted_170 (by decide) rfl (fun hc => ?_) (fun hc => ?_)
      · rw [if_neg hc] at h
        refine zJ_iload (n := 180) (j := 9) (x := v142) d_Mo_accepted_178 rfl rfl ?_
        exact t_Mo_accepted_b180 hd ih h
      · rw [if_pos hc] at h
        refine zJ_iload (n := 175) (j := 7) (x := x7) d_Mo_accepted_173 rfl rfl ?_
        refine zJ_goto (t := 180) d_Mo_accepted_175 (by decide) ?_
        exact t_Mo_accepted_b180 hd ih h
theorem t_Mo_accepted_b115 {D : va_G} {tt : ClassId × ClassId × ClassId} {a : Nat → Nat} {d N : Nat} (hd : 3 ≤ d) {z : Int32 × zMem} {x1 : Int32} {x2 : Int32} {x3 : Int32} {x4 : Int32} {x5 : Int32} {s0 : Int32} {o6 : Option Value} {o7 : Option Value} {o8 : Option Value} {o9 : Option Value} {M : zMem} (h : f_Mo_accepted_b115 N x1 x2 x3 x4 x5 s0 M = some z) : zS (zEn D tt) zshp a mz_Mo_accepted d zTr (zFs (zEn D tt) zshp a (zRi z)) 115 [some (.ref (a 45)), some (.int x1), some (.int x2), some (.int x3), some (.int x4), some (.int x5), o6, o7, o8, o9] [.int s0] M := by
  unfold f_Mo_accepted_b115 at h
  refine zS_istore (n := 117) (j := 7) (x' := s0) d_Mo_accepted_115 rfl (Nat.le_of_ble_eq_true rfl) rfl ?_
  refine zJ_iload (n := 119) (j := 5) (x := x5) d_Mo_accepted_117 rfl rfl ?_
  refine zJ_iconst (n := 120) (v := 1) d_Mo_accepted_119 rfl zci_1 ?_
  refine zJ_isub (n := 121) d_Mo_accepted_120 rfl ?_
  obtain ⟨v121, hv121, h⟩ := zli h
  refine zS_istore (n := 123) (j := 8) (x' := v121) d_Mo_accepted_121 rfl (Nat.le_of_ble_eq_true rfl) hv121 ?_
  exact t_Mo_accepted_l123 hd N _ _ _ _ _ _ _ _ _ _ h
theorem t_Mo_accepted_b54 {D : va_G} {tt : ClassId × ClassId × ClassId} {a : Nat → Nat} {d N : Nat} (hd : 3 ≤ d) {z : Int32 × zMem} {x1 : Int32} {x2 : Int32} {x3 : Int32} {x4 : Int32} {x5 : Int32} {x6 : Int32} {s1 : Int32} {s2 : Int32} {o7 : Option Value} {o8 : Option Value} {o9 : Option Value} {M : zMem} (h : f_Mo_accepted_b54 N x1 x2 x3 x4 x5 x6 s1 s2 M = some z) : zS (zEn D tt) zshp a mz_Mo_accepted d zTr (zFs (zEn D tt) zshp a (zRi z)) 54 [some (.ref (a 45)), some (.int x1), some (.int x2), some (.int x3), some (.int x4), some (.int x5), some (.int x6), o7, o8, o9] [.int s2, .int s1, .ref (a 67)] M := by
  unfold f_Mo_accepted_b54 at h
  obtain ⟨g54, h⟩ := zgd h
  obtain ⟨M54, hM54, h⟩ := zli h
  refine zS_iastN (n := 55) (k0 := 67) d_Mo_accepted_54 rfl rfl rfl rfl g54 hM54 ?_
  refine zJ_aload_n (n := 56) (j := 0) (x := a 45) d_Mo_accepted_55 rfl rfl rfl ?_
  refine zS_getr (n := 59) (k0 := 45) (j := 34) (q := 68) d_Mo_accepted_56 rfl (fl_Mo_77 D tt) rfl rfl ?_
  refine zJ_iload (n := 61) (j := 4) (x := x4) d_Mo_accepted_59 rfl rfl ?_
  refine zJ_iload (n := 63) (j := 5) (x := x5) d_Mo_accepted_61 rfl rfl ?_
  refine zJ_iadd (n := 64) d_Mo_accepted_63 rfl ?_
  refine zJ_iload (n := 66) (j := 6) (x := x6) d_Mo_accepted_64 rfl rfl ?_
  obtain ⟨g66, h⟩ := zgd h
  obtain ⟨M66, hM66, h⟩ := zli h
  refine zS_iastN (n := 67) (k0 := 68) d_Mo_accepted_66 rfl rfl rfl rfl g66 hM66 ?_
  refine zJ_aload_n (n := 68) (j := 0) (x := a 45) d_Mo_accepted_67 rfl rfl rfl ?_
  refine zS_getr (n := 71) (k0 := 45) (j := 35) (q := 69) d_Mo_accepted_68 rfl (fl_Mo_80 D tt) rfl rfl ?_
  refine zJ_iload (n := 73) (j := 4) (x := x4) d_Mo_accepted_71 rfl rfl ?_
  refine zJ_iload (n := 75) (j := 5) (x := x5) d_Mo_accepted_73 rfl rfl ?_
  refine zJ_iadd (n := 76) d_Mo_accepted_75 rfl ?_
  refine zJ_aload_n (n := 77) (j := 0) (x := a 45) d_Mo_accepted_76 rfl rfl rfl ?_
  refine zS_getr (n := 80) (k0 := 45) (j := 19) (q := 60) d_Mo_accepted_77 rfl (fl_Mo_53 D tt) rfl rfl ?_
  refine zJ_bipush (n := 82) (v := 30) d_Mo_accepted_80 rfl zcb_30 ?_
  refine zJ_iload_n (n := 83) (j := 1) (x := x1) d_Mo_accepted_82 rfl rfl rfl ?_
  refine zJ_imul (n := 84) d_Mo_accepted_83 rfl ?_
  refine zJ_iconst (n := 85) (v := 2) d_Mo_accepted_84 rfl zci_2 ?_
  refine zJ_iadd (n := 86) d_Mo_accepted_85 rfl ?_
  obtain ⟨g86, h⟩ := zgd h
  refine zS_iald (n := 87) (k0 := 60) d_Mo_accepted_86 rfl rfl rfl rfl g86 ?_
  obtain ⟨g87, h⟩ := zgd h
  obtain ⟨M87, hM87, h⟩ := zli h
  refine zS_iastN (n := 88) (k0 := 69) d_Mo_accepted_87 rfl rfl rfl rfl g87 hM87 ?_
  refine zJ_iload (n := 90) (j := 6) (x := x6) d_Mo_accepted_88 rfl rfl ?_
  refine zJ_if_ge (t := 97) (n := 93) d_Mo_accepted_90 (by decide) rfl (fun hc => ?_) (fun hc => ?_)
  · rw [if_pos hc] at h
    refine zJ_aload_n (n := 98) (j := 0) (x := a 45) d_Mo_accepted_97 rfl rfl rfl ?_
    refine zJ_iconst (n := 99) (v := 1) d_Mo_accepted_98 rfl zci_1 ?_
    refine zJ_iload (n := 101) (j := 6) (x := x6) d_Mo_accepted_99 rfl rfl ?_
    refine zJ_aload_n (n := 102) (j := 0) (x := a 45) d_Mo_accepted_101 rfl rfl rfl ?_
    refine zS_getr (n := 105) (k0 := 45) (j := 19) (q := 60) d_Mo_accepted_102 rfl (fl_Mo_53 D tt) rfl rfl ?_
    refine zJ_bipush (n := 107) (v := 30) d_Mo_accepted_105 rfl zcb_30 ?_
    refine zJ_iload_n (n := 108) (j := 1) (x := x1) d_Mo_accepted_107 rfl rfl rfl ?_
    refine zJ_imul (n := 109) d_Mo_accepted_108 rfl ?_
    refine zJ_iconst (n := 110) (v := 2) d_Mo_accepted_109 rfl zci_2 ?_
    refine zJ_iadd (n := 111) d_Mo_accepted_110 rfl ?_
    obtain ⟨g111, h⟩ := zgd h
    refine zS_iald (n := 112) (k0 := 60) d_Mo_accepted_111 rfl rfl rfl rfl g111 ?_
    obtain ⟨q112, hq112, h⟩ := zbd h
    refine zS_callVi (n := 115) (k0 := 45) (avs := [.int (1 : Int32), .int x6, .int (M87 60 (((30 : Int32) * x1) + (2 : Int32)).toNatClampNeg)]) (rest := []) (z := q112) (d' := d - 1) d_Mo_accepted_112 rfl (vk_Mo_102 D tt) rfl rfl rfl (Nat.le_of_ble_eq_true rfl) (by omega) (t_Mo_hash (by omega) hq112) ?_
    exact t_Mo_accepted_b115 hd h
  · rw [if_neg hc] at h
    refine zJ_iconst (n := 94) (v := 0) d_Mo_accepted_93 rfl zci_0 ?_
    refine zJ_goto (t := 115) d_Mo_accepted_94 (by decide) ?_
    exact t_Mo_accepted_b115 hd h
theorem t_Mo_accepted {D : va_G} {tt : ClassId × ClassId × ClassId} {a : Nat → Nat} {d N : Nat} (hd : 3 ≤ d) {x1 : Int32} {x2 : Int32} {x3 : Int32} {x4 : Int32} {M : zMem} {z : Int32 × zMem} (h : f_Mo_accepted N x1 x2 x3 x4 M = some z) : zK (zEn D tt) zshp a mz_Mo_accepted d [.ref (a 45), .int x1, .int x2, .int x3, .int x4] M (zRi z) := by
  refine zK.enter (L := [some (.ref (a 45)), some (.int x1), some (.int x2), some (.int x3), some (.int x4), none, none, none, none, none]) (by decide) rfl (Nat.le_of_ble_eq_true rfl) rfl ?_
  unfold f_Mo_accepted at h
  refine zJ_aload_n (n := 1) (j := 0) (x := a 45) d_Mo_accepted_0 rfl rfl rfl ?_
  refine zJ_iload_n (n := 2) (j := 1) (x := x1) d_Mo_accepted_1 rfl rfl rfl ?_
  refine zJ_iload_n (n := 3) (j := 2) (x := x2) d_Mo_accepted_2 rfl rfl rfl ?_
  obtain ⟨q3, hq3, h⟩ := zbd h
  refine zS_callVi (n := 6) (k0 := 45) (avs := [.int x1, .int x2]) (rest := []) (z := q3) (d' := d - 1) d_Mo_accepted_3 rfl (vk_Mo_194 D tt) rfl rfl rfl (Nat.le_of_ble_eq_true rfl) (by omega) (t_Mo_formed (by omega) hq3) ?_
  refine zJ_if_ne (t := 11) (n := 9) d_Mo_accepted_6 (by decide) rfl (fun hc => ?_) (fun hc => ?_)
  · rw [if_neg hc] at h
    refine zJ_aload_n (n := 12) (j := 0) (x := a 45) d_Mo_accepted_11 rfl rfl rfl ?_
    refine zS_getr (n := 15) (k0 := 45) (j := 19) (q := 60) d_Mo_accepted_12 rfl (fl_Mo_53 D tt) rfl rfl ?_
    refine zJ_bipush (n := 17) (v := 30) d_Mo_accepted_15 rfl zcb_30 ?_
    refine zJ_iload_n (n := 18) (j := 1) (x := x1) d_Mo_accepted_17 rfl rfl rfl ?_
    refine zJ_imul (n := 19) d_Mo_accepted_18 rfl ?_
    obtain ⟨g19, h⟩ := zgd h
    refine zS_iald (n := 20) (k0 := 60) d_Mo_accepted_19 rfl rfl rfl rfl g19 ?_
    obtain ⟨v20, hv20, h⟩ := zli h
    refine zS_istore (n := 22) (j := 5) (x' := v20) d_Mo_accepted_20 rfl (Nat.le_of_ble_eq_true rfl) hv20 ?_
    refine zJ_aload_n (n := 23) (j := 0) (x := a 45) d_Mo_accepted_22 rfl rfl rfl ?_
    refine zS_getr (n := 26) (k0 := 45) (j := 19) (q := 60) d_Mo_accepted_23 rfl (fl_Mo_53 D tt) rfl rfl ?_
    refine zJ_bipush (n := 28) (v := 30) d_Mo_accepted_26 rfl zcb_30 ?_
    refine zJ_iload_n (n := 29) (j := 1) (x := x1) d_Mo_accepted_28 rfl rfl rfl ?_
    refine zJ_imul (n := 30) d_Mo_accepted_29 rfl ?_
    refine zJ_iconst (n := 31) (v := 1) d_Mo_accepted_30 rfl zci_1 ?_
    refine zJ_iadd (n := 32) d_Mo_accepted_31 rfl ?_
    obtain ⟨g32, h⟩ := zgd h
    refine zS_iald (n := 33) (k0 := 60) d_Mo_accepted_32 rfl rfl rfl rfl g32 ?_
    obtain ⟨v33, hv33, h⟩ := zli h
    refine zS_istore (n := 35) (j := 6) (x' := v33) d_Mo_accepted_33 rfl (Nat.le_of_ble_eq_true rfl) hv33 ?_
    refine zJ_aload_n (n := 36) (j := 0) (x := a 45) d_Mo_accepted_35 rfl rfl rfl ?_
    refine zS_getr (n := 39) (k0 := 45) (j := 33) (q := 67) d_Mo_accepted_36 rfl (fl_Mo_74 D tt) rfl rfl ?_
    refine zJ_iload (n := 41) (j := 4) (x := x4) d_Mo_accepted_39 rfl rfl ?_
    refine zJ_iload (n := 43) (j := 5) (x := v20) d_Mo_accepted_41 rfl rfl ?_
    refine zJ_iadd (n := 44) d_Mo_accepted_43 rfl ?_
    refine zJ_iload (n := 46) (j := 6) (x := v33) d_Mo_accepted_44 rfl rfl ?_
    refine zJ_if_ge (t := 53) (n := 49) d_Mo_accepted_46 (by decide) rfl (fun hc => ?_) (fun hc => ?_)
    · rw [if_pos hc] at h
      refine zJ_iconst (n := 54) (v := 1) d_Mo_accepted_53 rfl zci_1 ?_
      exact t_Mo_accepted_b54 hd h
    · rw [if_neg hc] at h
      refine zJ_iconst (n := 50) (v := 0) d_Mo_accepted_49 rfl zci_0 ?_
      refine zJ_goto (t := 54) d_Mo_accepted_50 (by decide) ?_
      exact t_Mo_accepted_b54 hd h
  · rw [if_pos hc] at h
    refine zJ_iconst (n := 10) (v := 0) d_Mo_accepted_9 rfl zci_0 ?_
    cases h
    exact zS_ireturn d_Mo_accepted_10 rfl rfl ⟨rfl, rfl⟩
theorem t_Mo_says {D : va_G} {tt : ClassId × ClassId × ClassId} {a : Nat → Nat} {d N : Nat} (hd : 0 ≤ d) {x1 : Int32} {x2 : Int32} {M : zMem} {z : Int32 × zMem} (h : f_Mo_says N x1 x2 M = some z) : zK (zEn D tt) zshp a mz_Mo_says d [.ref (a 45), .int x1, .int x2] M (zRi z) := by
  refine zK.enter (L := [some (.ref (a 45)), some (.int x1), some (.int x2)]) (by decide) rfl (Nat.le_of_ble_eq_true rfl) rfl ?_
  unfold f_Mo_says at h
  refine zJ_aload_n (n := 1) (j := 0) (x := a 45) d_Mo_says_0 rfl rfl rfl ?_
  refine zS_getr (n := 4) (k0 := 45) (j := 19) (q := 60) d_Mo_says_1 rfl (fl_Mo_53 D tt) rfl rfl ?_
  refine zJ_bipush (n := 6) (v := 30) d_Mo_says_4 rfl zcb_30 ?_
  refine zJ_iload_n (n := 7) (j := 1) (x := x1) d_Mo_says_6 rfl rfl rfl ?_
  refine zJ_imul (n := 8) d_Mo_says_7 rfl ?_
  refine zJ_iconst (n := 9) (v := 1) d_Mo_says_8 rfl zci_1 ?_
  refine zJ_iadd (n := 10) d_Mo_says_9 rfl ?_
  obtain ⟨g10, h⟩ := zgd h
  refine zS_iald (n := 11) (k0 := 60) d_Mo_says_10 rfl rfl rfl rfl g10 ?_
  refine zJ_iload_n (n := 12) (j := 2) (x := x2) d_Mo_says_11 rfl rfl rfl ?_
  refine zJ_icmp_ne (t := 29) (n := 15) d_Mo_says_12 (by decide) rfl (fun hc => ?_) (fun hc => ?_)
  · rw [if_neg hc] at h
    refine zJ_iconst (n := 30) (v := 0) d_Mo_says_29 rfl zci_0 ?_
    cases h
    exact zS_ireturn d_Mo_says_30 rfl rfl ⟨rfl, rfl⟩
  · rw [if_pos hc] at h
    refine zJ_aload_n (n := 16) (j := 0) (x := a 45) d_Mo_says_15 rfl rfl rfl ?_
    refine zS_getr (n := 19) (k0 := 45) (j := 19) (q := 60) d_Mo_says_16 rfl (fl_Mo_53 D tt) rfl rfl ?_
    refine zJ_bipush (n := 21) (v := 30) d_Mo_says_19 rfl zcb_30 ?_
    refine zJ_iload_n (n := 22) (j := 1) (x := x1) d_Mo_says_21 rfl rfl rfl ?_
    refine zJ_imul (n := 23) d_Mo_says_22 rfl ?_
    refine zJ_iconst (n := 24) (v := 2) d_Mo_says_23 rfl zci_2 ?_
    refine zJ_iadd (n := 25) d_Mo_says_24 rfl ?_
    obtain ⟨g25, h⟩ := zgd h
    refine zS_iald (n := 26) (k0 := 60) d_Mo_says_25 rfl rfl rfl rfl g25 ?_
    refine zJ_goto (t := 30) d_Mo_says_26 (by decide) ?_
    cases h
    exact zS_ireturn d_Mo_says_30 rfl rfl ⟨rfl, rfl⟩
theorem t_Mo_check {D : va_G} {tt : ClassId × ClassId × ClassId} {a : Nat → Nat} {d N : Nat} (hd : 4 ≤ d) {x1 : Int32} {x2 : Int32} {x3 : Int32} {M : zMem} {z : Int32 × zMem} (h : f_Mo_check N x1 x2 x3 M = some z) : zK (zEn D tt) zshp a mz_Mo_check d [.ref (a 45), .int x1, .int x2, .int x3] M (zRi z) := by
  refine zK.enter (L := [some (.ref (a 45)), some (.int x1), some (.int x2), some (.int x3)]) (by decide) rfl (Nat.le_of_ble_eq_true rfl) rfl ?_
  unfold f_Mo_check at h
  refine zJ_aload_n (n := 1) (j := 0) (x := a 45) d_Mo_check_0 rfl rfl rfl ?_
  refine zJ_iload_n (n := 2) (j := 1) (x := x1) d_Mo_check_1 rfl rfl rfl ?_
  refine zJ_iload_n (n := 3) (j := 2) (x := x2) d_Mo_check_2 rfl rfl rfl ?_
  refine zJ_iload_n (n := 4) (j := 3) (x := x3) d_Mo_check_3 rfl rfl rfl ?_
  refine zJ_iconst (n := 5) (v := 0) d_Mo_check_4 rfl zci_0 ?_
  obtain ⟨q5, hq5, h⟩ := zbd h
  refine zS_callVi (n := 8) (k0 := 45) (avs := [.int x1, .int x2, .int x3, .int (0 : Int32)]) (rest := []) (z := q5) (d' := d - 1) d_Mo_check_5 rfl (vk_Mo_197 D tt) rfl rfl rfl (Nat.le_of_ble_eq_true rfl) (by omega) (t_Mo_accepted (by omega) hq5) ?_
  refine zJ_if_eq (t := 20) (n := 11) d_Mo_check_8 (by decide) rfl (fun hc => ?_) (fun hc => ?_)
  · rw [if_pos hc] at h
    refine zJ_iconst (n := 21) (v := -1) d_Mo_check_20 rfl zci_m1 ?_
    cases h
    exact zS_ireturn d_Mo_check_21 rfl rfl ⟨rfl, rfl⟩
  · rw [if_neg hc] at h
    refine zJ_aload_n (n := 12) (j := 0) (x := a 45) d_Mo_check_11 rfl rfl rfl ?_
    refine zJ_iload_n (n := 13) (j := 1) (x := x1) d_Mo_check_12 rfl rfl rfl ?_
    refine zJ_iload_n (n := 14) (j := 2) (x := x2) d_Mo_check_13 rfl rfl rfl ?_
    obtain ⟨q14, hq14, h⟩ := zbd h
    refine zS_callVi (n := 17) (k0 := 45) (avs := [.int x1, .int x2]) (rest := []) (z := q14) (d' := d - 1) d_Mo_check_14 rfl (vk_Mo_201 D tt) rfl rfl rfl (Nat.le_of_ble_eq_true rfl) (by omega) (t_Mo_says (by omega) hq14) ?_
    refine zJ_goto (t := 21) d_Mo_check_17 (by decide) ?_
    cases h
    exact zS_ireturn d_Mo_check_21 rfl rfl ⟨rfl, rfl⟩
theorem t_Mo_inOrder {D : va_G} {tt : ClassId × ClassId × ClassId} {a : Nat → Nat} {d N : Nat} (hd : 0 ≤ d) {x1 : Int32} {x2 : Int32} {x3 : Int32} {M : zMem} {z : Int32 × zMem} (h : f_Mo_inOrder N x1 x2 x3 M = some z) : zK (zEn D tt) zshp a mz_Mo_inOrder d [.ref (a 45), .int x1, .int x2, .int x3] M (zRi z) := by
  refine zK.enter (L := [some (.ref (a 45)), some (.int x1), some (.int x2), some (.int x3)]) (by decide) rfl (Nat.le_of_ble_eq_true rfl) rfl ?_
  unfold f_Mo_inOrder at h
  refine zJ_iload_n (n := 1) (j := 1) (x := x1) d_Mo_inOrder_0 rfl rfl rfl ?_
  refine zJ_if_lt (t := 28) (n := 4) d_Mo_inOrder_1 (by decide) rfl (fun hc => ?_) (fun hc => ?_)
  · rw [if_pos hc] at h
    refine zJ_iconst (n := 29) (v := 0) d_Mo_inOrder_28 rfl zci_0 ?_
    cases h
    exact zS_ireturn d_Mo_inOrder_29 rfl rfl ⟨rfl, rfl⟩
  · rw [if_neg hc] at h
    refine zJ_iload_n (n := 5) (j := 1) (x := x1) d_Mo_inOrder_4 rfl rfl rfl ?_
    refine zJ_iconst (n := 6) (v := 3) d_Mo_inOrder_5 rfl zci_3 ?_
    refine zJ_icmp_gt (t := 28) (n := 9) d_Mo_inOrder_6 (by decide) rfl (fun hc => ?_) (fun hc => ?_)
    · rw [if_pos hc] at h
      refine zJ_iconst (n := 29) (v := 0) d_Mo_inOrder_28 rfl zci_0 ?_
      cases h
      exact zS_ireturn d_Mo_inOrder_29 rfl rfl ⟨rfl, rfl⟩
    · rw [if_neg hc] at h
      refine zJ_iload_n (n := 10) (j := 2) (x := x2) d_Mo_inOrder_9 rfl rfl rfl ?_
      refine zJ_if_lt (t := 28) (n := 13) d_Mo_inOrder_10 (by decide) rfl (fun hc => ?_) (fun hc => ?_)
      · rw [if_pos hc] at h
        refine zJ_iconst (n := 29) (v := 0) d_Mo_inOrder_28 rfl zci_0 ?_
        cases h
        exact zS_ireturn d_Mo_inOrder_29 rfl rfl ⟨rfl, rfl⟩
      · rw [if_neg hc] at h
        refine zJ_iload_n (n := 14) (j := 2) (x := x2) d_Mo_inOrder_13 rfl rfl rfl ?_
        refine zJ_iload_n (n := 15) (j := 3) (x := x3) d_Mo_inOrder_14 rfl rfl rfl ?_
        refine zJ_icmp_gt (t := 28) (n := 18) d_Mo_inOrder_15 (by decide) rfl (fun hc => ?_) (fun hc => ?_)
        · rw [if_pos hc] at h
          refine zJ_iconst (n := 29) (v := 0) d_Mo_inOrder_28 rfl zci_0 ?_
          cases h
          exact zS_ireturn d_Mo_inOrder_29 rfl rfl ⟨rfl, rfl⟩
        · rw [if_neg hc] at h
          refine zJ_iload_n (n := 19) (j := 3) (x := x3) d_Mo_inOrder_18 rfl rfl rfl ?_
          refine zJ_bipush (n := 21) (v := 40) d_Mo_inOrder_19 rfl zcb_40 ?_
          refine zJ_icmp_ge (t := 28) (n := 24) d_Mo_inOrder_21 (by decide) rfl (fun hc => ?_) (fun hc => ?_)
          · rw [if_pos hc] at h
            refine zJ_iconst (n := 29) (v := 0) d_Mo_inOrder_28 rfl zci_0 ?_
            cases h
            exact zS_ireturn d_Mo_inOrder_29 rfl rfl ⟨rfl, rfl⟩
          · rw [if_neg hc] at h
            refine zJ_iconst (n := 25) (v := 1) d_Mo_inOrder_24 rfl zci_1 ?_
            refine zJ_goto (t := 29) d_Mo_inOrder_25 (by decide) ?_
            cases h
            exact zS_ireturn d_Mo_inOrder_29 rfl rfl ⟨rfl, rfl⟩
theorem t_Mo_included_b108 {D : va_G} {tt : ClassId × ClassId × ClassId} {a : Nat → Nat} {d N : Nat} (hd : 1 ≤ d) {z : Int32 × zMem} {k47 : Int32 → Int32 → Int32 → Int32 → zMem → Option (Int32 × zMem)} (hk47 : ∀ (x1 x5 x6 x7 : Int32) (o2 o3 o4 o8 : Option Value) (M : zMem), k47 x1 x5 x6 x7 M = some z → zS (zEn D tt) zshp a mz_Mo_included d zTr (zFs (zEn D tt) zshp a (zRi z)) 47 [some (.ref (a 45)), some (.int x1), o2, o3, o4, some (.int x5), some (.int x6), some (.int x7), o8] [] M) {x1 : Int32} {x5 : Int32} {x7 : Int32} {s0 : Int32} {o2 : Option Value} {o3 : Option Value} {o4 : Option Value} {o6 : Option Value} {o8 : Option Value} {M : zMem} (h : f_Mo_included_b108 N k47 x1 x5 x7 s0 M = some z) : zS (zEn D tt) zshp a mz_Mo_included d zTr (zFs (zEn D tt) zshp a (zRi z)) 108 [some (.ref (a 45)), some (.int x1), o2, o3, o4, some (.int x5), o6, some (.int x7), o8] [.int s0] M := by
  unfold f_Mo_included_b108 at h
  refine zS_istore (n := 110) (j := 6) (x' := s0) d_Mo_included_108 rfl (Nat.le_of_ble_eq_true rfl) rfl ?_
  obtain ⟨v110, hv110, h⟩ := zli h
  refine zS_iinc (n := 113) (j := 7) (x := x7) (v := 1) (x' := v110) d_Mo_included_110 rfl rfl zci_1 (Nat.le_of_ble_eq_true rfl) hv110 ?_
  refine zJ_goto (t := 47) d_Mo_included_113 (by decide) ?_
  exact hk47 _ _ _ _ _ _ _ _ _ h
theorem t_Mo_included_l47 {D : va_G} {tt : ClassId × ClassId × ClassId} {a : Nat → Nat} {d N : Nat} (hd : 1 ≤ d) {z : Int32 × zMem} : ∀ (n : Nat), ∀ (x1 x5 x6 x7 : Int32) (o2 o3 o4 o8 : Option Value) (M : zMem), f_Mo_included_l47 N n x1 x5 x6 x7 M = some z → zS (zEn D tt) zshp a mz_Mo_included d zTr (zFs (zEn D tt) zshp a (zRi z)) 47 [some (.ref (a 45)), some (.int x1), o2, o3, o4, some (.int x5), some (.int x6), some (.int x7), o8] [] M := by
  intro n
  induction n with
  | zero =>
    intro x1 x5 x6 x7 o2 o3 o4 o8 M h
    rw [f_Mo_included_l47] at h
    cases h
  | succ n ih =>
    intro x1 x5 x6 x7 o2 o3 o4 o8 M h
    rw [f_Mo_included_l47] at h
    refine zJ_iload (n := 49) (j := 7) (x := x7) d_Mo_included_47 rfl rfl ?_
    refine zJ_aload_n (n := 50) (j := 0) (x := a 45) d_Mo_included_49 rfl rfl rfl ?_
    refine zS_geti (n := 53) (k0 := 45) (j := 25) d_Mo_included_50 rfl (fl_Mo_165 D tt) rfl rfl ?_
    refine zJ_icmp_ge (t := 116) (n := 56) d_Mo_included_53 (by decide) rfl (fun hc => ?_) (fun hc => ?_)
    · rw [if_pos hc] at h
      refine zJ_iload (n := 118) (j := 6) (x := x6) d_Mo_included_116 rfl rfl ?_
      refine zJ_iload (n := 120) (j := 5) (x := x5) d_Mo_included_118 rfl rfl ?_
      refine zJ_icmp_ne (t := 127) (n := 123) d_Mo_included_120 (by decide) rfl (fun hc => ?_) (fun hc => ?_)
      · rw [if_neg hc] at h
        refine zJ_iconst (n := 128) (v := 0) d_Mo_included_127 rfl zci_0 ?_
        cases h
        exact zS_ireturn d_Mo_included_128 rfl rfl ⟨rfl, rfl⟩
      · rw [if_pos hc] at h
        refine zJ_iconst (n := 124) (v := 1) d_Mo_included_123 rfl zci_1 ?_
        refine zJ_goto (t := 128) d_Mo_included_124 (by decide) ?_
        cases h
        exact zS_ireturn d_Mo_included_128 rfl rfl ⟨rfl, rfl⟩
    · rw [if_neg hc] at h
      refine zJ_aload_n (n := 57) (j := 0) (x := a 45) d_Mo_included_56 rfl rfl rfl ?_
      refine zS_getr (n := 60) (k0 := 45) (j := 19) (q := 60) d_Mo_included_57 rfl (fl_Mo_53 D tt) rfl rfl ?_
      refine zJ_bipush (n := 62) (v := 30) d_Mo_included_60 rfl zcb_30 ?_
      refine zJ_iload_n (n := 63) (j := 1) (x := x1) d_Mo_included_62 rfl rfl rfl ?_
      refine zJ_imul (n := 64) d_Mo_included_63 rfl ?_
      refine zJ_iload (n := 66) (j := 7) (x := x7) d_Mo_included_64 rfl rfl ?_
      refine zJ_iadd (n := 67) d_Mo_included_66 rfl ?_
      obtain ⟨g67, h⟩ := zgd h
      refine zS_iald (n := 68) (k0 := 60) d_Mo_included_67 rfl rfl rfl rfl g67 ?_
      obtain ⟨v68, hv68, h⟩ := zli h
      refine zS_istore (n := 70) (j := 8) (x' := v68) d_Mo_included_68 rfl (Nat.le_of_ble_eq_true rfl) hv68 ?_
      refine zJ_aload_n (n := 71) (j := 0) (x := a 45) d_Mo_included_70 rfl rfl rfl ?_
      refine zS_getr (n := 74) (k0 := 45) (j := 26) (q := 64) d_Mo_included_71 rfl (fl_Mo_65 D tt) rfl rfl ?_
      refine zJ_aload_n (n := 75) (j := 0) (x := a 45) d_Mo_included_74 rfl rfl rfl ?_
      refine zS_geti (n := 78) (k0 := 45) (j := 25) d_Mo_included_75 rfl (fl_Mo_165 D tt) rfl rfl ?_
      refine zJ_iconst (n := 79) (v := 1) d_Mo_included_78 rfl zci_1 ?_
      refine zJ_isub (n := 80) d_Mo_included_79 rfl ?_
      refine zJ_iload (n := 82) (j := 7) (x := x7) d_Mo_included_80 rfl rfl ?_
      refine zJ_isub (n := 83) d_Mo_included_82 rfl ?_
      obtain ⟨g83, h⟩ := zgd h
      refine zS_zald (n := 84) (k0 := 64) d_Mo_included_83 rfl rfl rfl rfl g83 ?_
      refine zJ_if_eq (t := 99) (n := 87) d_Mo_included_84 (by decide) rfl (fun hc => ?_) (fun hc => ?_)
      · rw [if_pos hc] at h
        refine zJ_aload_n (n := 100) (j := 0) (x := a 45) d_Mo_included_99 rfl rfl rfl ?_
        refine zJ_iconst (n := 101) (v := 4) d_Mo_included_100 rfl zci_4 ?_
        refine zJ_iload (n := 103) (j := 6) (x := x6) d_Mo_included_101 rfl rfl ?_
        refine zJ_iload (n := 105) (j := 8) (x := v68) d_Mo_included_103 rfl rfl ?_
        obtain ⟨q105, hq105, h⟩ := zbd h
        refine zS_callVi (n := 108) (k0 := 45) (avs := [.int (4 : Int32), .int x6, .int v68]) (rest := []) (z := q105) (d' := d - 1) d_Mo_included_105 rfl (vk_Mo_102 D tt) rfl rfl rfl (Nat.le_of_ble_eq_true rfl) (by omega) (t_Mo_hash (by omega) hq105) ?_
        exact t_Mo_included_b108 hd ih h
      · rw [if_neg hc] at h
        refine zJ_aload_n (n := 88) (j := 0) (x := a 45) d_Mo_included_87 rfl rfl rfl ?_
        refine zJ_iconst (n := 89) (v := 4) d_Mo_included_88 rfl zci_4 ?_
        refine zJ_iload (n := 91) (j := 8) (x := v68) d_Mo_included_89 rfl rfl ?_
        refine zJ_iload (n := 93) (j := 6) (x := x6) d_Mo_included_91 rfl rfl ?_
        obtain ⟨q93, hq93, h⟩ := zbd h
        refine zS_callVi (n := 96) (k0 := 45) (avs := [.int (4 : Int32), .int v68, .int x6]) (rest := []) (z := q93) (d' := d - 1) d_Mo_included_93 rfl (vk_Mo_102 D tt) rfl rfl rfl (Nat.le_of_ble_eq_true rfl) (by omega) (t_Mo_hash (by omega) hq93) ?_
        refine zJ_goto (t := 108) d_Mo_included_96 (by decide) ?_
        exact t_Mo_included_b108 hd ih h
theorem t_Mo_included {D : va_G} {tt : ClassId × ClassId × ClassId} {a : Nat → Nat} {d N : Nat} (hd : 1 ≤ d) {x1 : Int32} {x2 : Int32} {x3 : Int32} {x4 : Int32} {x5 : Int32} {M : zMem} {z : Int32 × zMem} (h : f_Mo_included N x1 x2 x3 x4 x5 M = some z) : zK (zEn D tt) zshp a mz_Mo_included d [.ref (a 45), .int x1, .int x2, .int x3, .int x4, .int x5] M (zRi z) := by
  refine zK.enter (L := [some (.ref (a 45)), some (.int x1), some (.int x2), some (.int x3), some (.int x4), some (.int x5), none, none, none]) (by decide) rfl (Nat.le_of_ble_eq_true rfl) rfl ?_
  unfold f_Mo_included at h
  refine zJ_aload_n (n := 1) (j := 0) (x := a 45) d_Mo_included_0 rfl rfl rfl ?_
  refine zJ_iload_n (n := 2) (j := 1) (x := x1) d_Mo_included_1 rfl rfl rfl ?_
  refine zJ_iload_n (n := 3) (j := 2) (x := x2) d_Mo_included_2 rfl rfl rfl ?_
  refine zJ_iload_n (n := 4) (j := 3) (x := x3) d_Mo_included_3 rfl rfl rfl ?_
  obtain ⟨q4, hq4, h⟩ := zbd h
  refine zS_callVi (n := 7) (k0 := 45) (avs := [.int x1, .int x2, .int x3]) (rest := []) (z := q4) (d' := d - 1) d_Mo_included_4 rfl (vk_Mo_204 D tt) rfl rfl rfl (Nat.le_of_ble_eq_true rfl) (by omega) (t_Mo_inOrder (by omega) hq4) ?_
  refine zJ_if_ne (t := 12) (n := 10) d_Mo_included_7 (by decide) rfl (fun hc => ?_) (fun hc => ?_)
  · rw [if_neg hc] at h
    refine zJ_aload_n (n := 13) (j := 0) (x := a 45) d_Mo_included_12 rfl rfl rfl ?_
    refine zJ_iload_n (n := 14) (j := 2) (x := x2) d_Mo_included_13 rfl rfl rfl ?_
    refine zJ_iload_n (n := 15) (j := 3) (x := x3) d_Mo_included_14 rfl rfl rfl ?_
    refine zJ_iconst (n := 16) (v := 0) d_Mo_included_15 rfl zci_0 ?_
    obtain ⟨q16, hq16, h⟩ := zbd h
    refine zS_callVv (n := 19) (k0 := 45) (avs := [.int x2, .int x3, .int (0 : Int32)]) (rest := []) (z := q16) (d' := d - 1) d_Mo_included_16 rfl (vk_Mo_187 D tt) rfl rfl rfl (Nat.le_of_ble_eq_true rfl) (by omega) (t_Mo_way (by omega) hq16) ?_
    refine zJ_aload_n (n := 20) (j := 0) (x := a 45) d_Mo_included_19 rfl rfl rfl ?_
    refine zS_getr (n := 23) (k0 := 45) (j := 20) (q := 61) d_Mo_included_20 rfl (fl_Mo_56 D tt) rfl rfl ?_
    refine zJ_iload_n (n := 24) (j := 1) (x := x1) d_Mo_included_23 rfl rfl rfl ?_
    obtain ⟨g24, h⟩ := zgd h
    refine zS_iald (n := 25) (k0 := 61) d_Mo_included_24 rfl rfl rfl rfl g24 ?_
    refine zJ_aload_n (n := 26) (j := 0) (x := a 45) d_Mo_included_25 rfl rfl rfl ?_
    refine zS_geti (n := 29) (k0 := 45) (j := 25) d_Mo_included_26 rfl (fl_Mo_165 D tt) rfl rfl ?_
    refine zJ_icmp_eq (t := 34) (n := 32) d_Mo_included_29 (by decide) rfl (fun hc => ?_) (fun hc => ?_)
    · rw [if_pos hc] at h
      refine zJ_aload_n (n := 35) (j := 0) (x := a 45) d_Mo_included_34 rfl rfl rfl ?_
      refine zJ_iconst (n := 36) (v := 3) d_Mo_included_35 rfl zci_3 ?_
      refine zJ_iload (n := 38) (j := 4) (x := x4) d_Mo_included_36 rfl rfl ?_
      refine zJ_iload_n (n := 39) (j := 2) (x := x2) d_Mo_included_38 rfl rfl rfl ?_
      obtain ⟨q39, hq39, h⟩ := zbd h
      refine zS_callVi (n := 42) (k0 := 45) (avs := [.int (3 : Int32), .int x4, .int x2]) (rest := []) (z := q39) (d' := d - 1) d_Mo_included_39 rfl (vk_Mo_102 D tt) rfl rfl rfl (Nat.le_of_ble_eq_true rfl) (by omega) (t_Mo_hash (by omega) hq39) ?_
      refine zS_istore (n := 44) (j := 6) (x' := q39.1) d_Mo_included_42 rfl (Nat.le_of_ble_eq_true rfl) rfl ?_
      refine zJ_iconst (n := 45) (v := 0) d_Mo_included_44 rfl zci_0 ?_
      refine zS_istore (n := 47) (j := 7) (x' := (0 : Int32)) d_Mo_included_45 rfl (Nat.le_of_ble_eq_true rfl) rfl ?_
      exact t_Mo_included_l47 hd N _ _ _ _ _ _ _ _ _ h
    · rw [if_neg hc] at h
      refine zJ_iconst (n := 33) (v := 0) d_Mo_included_32 rfl zci_0 ?_
      cases h
      exact zS_ireturn d_Mo_included_33 rfl rfl ⟨rfl, rfl⟩
  · rw [if_pos hc] at h
    refine zJ_iconst (n := 11) (v := 0) d_Mo_included_10 rfl zci_0 ?_
    cases h
    exact zS_ireturn d_Mo_included_11 rfl rfl ⟨rfl, rfl⟩
theorem t_Mo_consistent_b169 {D : va_G} {tt : ClassId × ClassId × ClassId} {a : Nat → Nat} {d N : Nat} (hd : 1 ≤ d) {z : Int32 × zMem} {k80 : Int32 → Int32 → Int32 → Int32 → Int32 → Int32 → Int32 → zMem → Option (Int32 × zMem)} (hk80 : ∀ (x1 x4 x5 x6 x7 x8 x9 : Int32) (o2 o3 o10 o11 : Option Value) (M : zMem), k80 x1 x4 x5 x6 x7 x8 x9 M = some z → zS (zEn D tt) zshp a mz_Mo_consistent d zTr (zFs (zEn D tt) zshp a (zRi z)) 80 [some (.ref (a 45)), some (.int x1), o2, o3, some (.int x4), some (.int x5), some (.int x6), some (.int x7), some (.int x8), some (.int x9), o10, o11] [] M) {x1 : Int32} {x4 : Int32} {x5 : Int32} {x6 : Int32} {x7 : Int32} {x9 : Int32} {s0 : Int32} {o2 : Option Value} {o3 : Option Value} {o8 : Option Value} {o10 : Option Value} {o11 : Option Value} {M : zMem} (h : f_Mo_consistent_b169 N k80 x1 x4 x5 x6 x7 x9 s0 M = some z) : zS (zEn D tt) zshp a mz_Mo_consistent d zTr (zFs (zEn D tt) zshp a (zRi z)) 169 [some (.ref (a 45)), some (.int x1), o2, o3, some (.int x4), some (.int x5), some (.int x6), some (.int x7), o8, some (.int x9), o10, o11] [.int s0] M := by
  unfold f_Mo_consistent_b169 at h
  refine zS_istore (n := 171) (j := 8) (x' := s0) d_Mo_consistent_169 rfl (Nat.le_of_ble_eq_true rfl) rfl ?_
  obtain ⟨v171, hv171, h⟩ := zli h
  refine zS_iinc (n := 174) (j := 9) (x := x9) (v := 1) (x' := v171) d_Mo_consistent_171 rfl rfl zci_1 (Nat.le_of_ble_eq_true rfl) hv171 ?_
  refine zJ_goto (t := 80) d_Mo_consistent_174 (by decide) ?_
  exact hk80 _ _ _ _ _ _ _ _ _ _ _ _ h
theorem t_Mo_consistent_b148 {D : va_G} {tt : ClassId × ClassId × ClassId} {a : Nat → Nat} {d N : Nat} (hd : 1 ≤ d) {z : Int32 × zMem} {k80 : Int32 → Int32 → Int32 → Int32 → Int32 → Int32 → Int32 → zMem → Option (Int32 × zMem)} (hk80 : ∀ (x1 x4 x5 x6 x7 x8 x9 : Int32) (o2 o3 o10 o11 : Option Value) (M : zMem), k80 x1 x4 x5 x6 x7 x8 x9 M = some z → zS (zEn D tt) zshp a mz_Mo_consistent d zTr (zFs (zEn D tt) zshp a (zRi z)) 80 [some (.ref (a 45)), some (.int x1), o2, o3, some (.int x4), some (.int x5), some (.int x6), some (.int x7), some (.int x8), some (.int x9), o10, o11] [] M) {x1 : Int32} {x4 : Int32} {x5 : Int32} {x6 : Int32} {x8 : Int32} {x9 : Int32} {x10 : Int32} {x11 : Int32} {s0 : Int32} {o2 : Option Value} {o3 : Option Value} {o7 : Option Value} {M : zMem} (h : f_Mo_consistent_b148 N k80 x1 x4 x5 x6 x8 x9 x10 x11 s0 M = some z) : zS (zEn D tt) zshp a mz_Mo_consistent d zTr (zFs (zEn D tt) zshp a (zRi z)) 148 [some (.ref (a 45)), some (.int x1), o2, o3, some (.int x4), some (.int x5), some (.int x6), o7, some (.int x8), some (.int x9), some (.int x10), some (.int x11)] [.int s0] M := by
  unfold f_Mo_consistent_b148 at h
  refine zS_istore (n := 150) (j := 7) (x' := s0) d_Mo_consistent_148 rfl (Nat.le_of_ble_eq_true rfl) rfl ?_
  refine zJ_iload (n := 152) (j := 11) (x := x11) d_Mo_consistent_150 rfl rfl ?_
  refine zJ_if_eq (t := 167) (n := 155) d_Mo_consistent_152 (by decide) rfl (fun hc => ?_) (fun hc => ?_)
  · rw [if_pos hc] at h
    refine zJ_iload (n := 169) (j := 8) (x := x8) d_Mo_consistent_167 rfl rfl ?_
    exact t_Mo_consistent_b169 hd hk80 h
  · rw [if_neg hc] at h
    refine zJ_aload_n (n := 156) (j := 0) (x := a 45) d_Mo_consistent_155 rfl rfl rfl ?_
    refine zJ_iconst (n := 157) (v := 4) d_Mo_consistent_156 rfl zci_4 ?_
    refine zJ_iload (n := 159) (j := 10) (x := x10) d_Mo_consistent_157 rfl rfl ?_
    refine zJ_iload (n := 161) (j := 8) (x := x8) d_Mo_consistent_159 rfl rfl ?_
    obtain ⟨q161, hq161, h⟩ := zbd h
    refine zS_callVi (n := 164) (k0 := 45) (avs := [.int (4 : Int32), .int x10, .int x8]) (rest := []) (z := q161) (d' := d - 1) d_Mo_consistent_161 rfl (vk_Mo_102 D tt) rfl rfl rfl (Nat.le_of_ble_eq_true rfl) (by omega) (t_Mo_hash (by omega) hq161) ?_
    refine zJ_goto (t := 169) d_Mo_consistent_164 (by decide) ?_
    exact t_Mo_consistent_b169 hd hk80 h
theorem t_Mo_consistent_l80 {D : va_G} {tt : ClassId × ClassId × ClassId} {a : Nat → Nat} {d N : Nat} (hd : 1 ≤ d) {z : Int32 × zMem} : ∀ (n : Nat), ∀ (x1 x4 x5 x6 x7 x8 x9 : Int32) (o2 o3 o10 o11 : Option Value) (M : zMem), f_Mo_consistent_l80 N n x1 x4 x5 x6 x7 x8 x9 M = some z → zS (zEn D tt) zshp a mz_Mo_consistent d zTr (zFs (zEn D tt) zshp a (zRi z)) 80 [some (.ref (a 45)), some (.int x1), o2, o3, some (.int x4), some (.int x5), some (.int x6), some (.int x7), some (.int x8), some (.int x9), o10, o11] [] M := by
  intro n
  induction n with
  | zero =>
    intro x1 x4 x5 x6 x7 x8 x9 o2 o3 o10 o11 M h
    rw [f_Mo_consistent_l80] at h
    cases h
  | succ n ih =>
    intro x1 x4 x5 x6 x7 x8 x9 o2 o3 o10 o11 M h
    rw [f_Mo_consistent_l80] at h
    refine zJ_iload (n := 82) (j := 9) (x := x9) d_Mo_consistent_80 rfl rfl ?_
    refine zJ_aload_n (n := 83) (j := 0) (x := a 45) d_Mo_consistent_82 rfl rfl rfl ?_
    refine zS_geti (n := 86) (k0 := 45) (j := 25) d_Mo_consistent_83 rfl (fl_Mo_165 D tt) rfl rfl ?_
    refine zJ_icmp_ge (t := 177) (n := 89) d_Mo_consistent_86 (by decide) rfl (fun hc => ?_) (fun hc => ?_)
    · rw [if_pos hc] at h
      refine zJ_iload (n := 179) (j := 7) (x := x7) d_Mo_consistent_177 rfl rfl ?_
      refine zJ_iload (n := 181) (j := 5) (x := x5) d_Mo_consistent_179 rfl rfl ?_
      refine zJ_icmp_ne (t := 195) (n := 184) d_Mo_consistent_181 (by decide) rfl (fun hc => ?_) (fun hc => ?_)
      · rw [if_neg hc] at h
        refine zJ_iconst (n := 196) (v := 0) d_Mo_consistent_195 rfl zci_0 ?_
        cases h
        exact zS_ireturn d_Mo_consistent_196 rfl rfl ⟨rfl, rfl⟩
      · rw [if_pos hc] at h
        refine zJ_iload (n := 186) (j := 8) (x := x8) d_Mo_consistent_184 rfl rfl ?_
        refine zJ_iload (n := 188) (j := 4) (x := x4) d_Mo_consistent_186 rfl rfl ?_
        refine zJ_icmp_ne (t := 195) (n := 191) d_Mo_consistent_188 (by decide) rfl (fun hc => ?_) (fun hc => ?_)
        · rw [if_neg hc] at h
          refine zJ_iconst (n := 196) (v := 0) d_Mo_consistent_195 rfl zci_0 ?_
          cases h
          exact zS_ireturn d_Mo_consistent_196 rfl rfl ⟨rfl, rfl⟩
        · rw [if_pos hc] at h
          refine zJ_iconst (n := 192) (v := 1) d_Mo_consistent_191 rfl zci_1 ?_
          refine zJ_goto (t := 196) d_Mo_consistent_192 (by decide) ?_
          cases h
          exact zS_ireturn d_Mo_consistent_196 rfl rfl ⟨rfl, rfl⟩
    · rw [if_neg hc] at h
      refine zJ_aload_n (n := 90) (j := 0) (x := a 45) d_Mo_consistent_89 rfl rfl rfl ?_
      refine zS_getr (n := 93) (k0 := 45) (j := 19) (q := 60) d_Mo_consistent_90 rfl (fl_Mo_53 D tt) rfl rfl ?_
      refine zJ_bipush (n := 95) (v := 30) d_Mo_consistent_93 rfl zcb_30 ?_
      refine zJ_iload_n (n := 96) (j := 1) (x := x1) d_Mo_consistent_95 rfl rfl rfl ?_
      refine zJ_imul (n := 97) d_Mo_consistent_96 rfl ?_
      refine zJ_iload (n := 99) (j := 6) (x := x6) d_Mo_consistent_97 rfl rfl ?_
      refine zJ_iadd (n := 100) d_Mo_consistent_99 rfl ?_
      refine zJ_iload (n := 102) (j := 9) (x := x9) d_Mo_consistent_100 rfl rfl ?_
      refine zJ_iadd (n := 103) d_Mo_consistent_102 rfl ?_
      obtain ⟨g103, h⟩ := zgd h
      refine zS_iald (n := 104) (k0 := 60) d_Mo_consistent_103 rfl rfl rfl rfl g103 ?_
      obtain ⟨v104, hv104, h⟩ := zli h
      refine zS_istore (n := 106) (j := 10) (x' := v104) d_Mo_consistent_104 rfl (Nat.le_of_ble_eq_true rfl) hv104 ?_
      refine zJ_aload_n (n := 107) (j := 0) (x := a 45) d_Mo_consistent_106 rfl rfl rfl ?_
      refine zS_getr (n := 110) (k0 := 45) (j := 26) (q := 64) d_Mo_consistent_107 rfl (fl_Mo_65 D tt) rfl rfl ?_
      refine zJ_aload_n (n := 111) (j := 0) (x := a 45) d_Mo_consistent_110 rfl rfl rfl ?_
      refine zS_geti (n := 114) (k0 := 45) (j := 25) d_Mo_consistent_111 rfl (fl_Mo_165 D tt) rfl rfl ?_
      refine zJ_iconst (n := 115) (v := 1) d_Mo_consistent_114 rfl zci_1 ?_
      refine zJ_isub (n := 116) d_Mo_consistent_115 rfl ?_
      refine zJ_iload (n := 118) (j := 9) (x := x9) d_Mo_consistent_116 rfl rfl ?_
      refine zJ_isub (n := 119) d_Mo_consistent_118 rfl ?_
      obtain ⟨g119, h⟩ := zgd h
      refine zS_zald (n := 120) (k0 := 64) d_Mo_consistent_119 rfl rfl rfl rfl g119 ?_
      obtain ⟨v120, hv120, h⟩ := zli h
      refine zS_istore (n := 122) (j := 11) (x' := v120) d_Mo_consistent_120 rfl (Nat.le_of_ble_eq_true rfl) hv120 ?_
      refine zJ_iload (n := 124) (j := 11) (x := v120) d_Mo_consistent_122 rfl rfl ?_
      refine zJ_if_eq (t := 139) (n := 127) d_Mo_consistent_124 (by decide) rfl (fun hc => ?_) (fun hc => ?_)
      · rw [if_pos hc] at h
        refine zJ_aload_n (n := 140) (j := 0) (x := a 45) d_Mo_consistent_139 rfl rfl rfl ?_
        refine zJ_iconst (n := 141) (v := 4) d_Mo_consistent_140 rfl zci_4 ?_
        refine zJ_iload (n := 143) (j := 7) (x := x7) d_Mo_consistent_141 rfl rfl ?_
        refine zJ_iload (n := 145) (j := 10) (x := v104) d_Mo_consistent_143 rfl rfl ?_
        obtain ⟨q145, hq145, h⟩ := zbd h
        refine zS_callVi (n := 148) (k0 := 45) (avs := [.int (4 : Int32), .int x7, .int v104]) (rest := []) (z := q145) (d' := d - 1) d_Mo_consistent_145 rfl (vk_Mo_102 D tt) rfl rfl rfl (Nat.le_of_ble_eq_true rfl) (by omega) (t_Mo_hash (by omega) hq145) ?_
        exact t_Mo_consistent_b148 hd ih h
      · rw [if_neg hc] at h
        refine zJ_aload_n (n := 128) (j := 0) (x := a 45) d_Mo_consistent_127 rfl rfl rfl ?_
        refine zJ_iconst (n := 129) (v := 4) d_Mo_consistent_128 rfl zci_4 ?_
        refine zJ_iload (n := 131) (j := 10) (x := v104) d_Mo_consistent_129 rfl rfl ?_
        refine zJ_iload (n := 133) (j := 7) (x := x7) d_Mo_consistent_131 rfl rfl ?_
        obtain ⟨q133, hq133, h⟩ := zbd h
        refine zS_callVi (n := 136) (k0 := 45) (avs := [.int (4 : Int32), .int v104, .int x7]) (rest := []) (z := q133) (d' := d - 1) d_Mo_consistent_133 rfl (vk_Mo_102 D tt) rfl rfl rfl (Nat.le_of_ble_eq_true rfl) (by omega) (t_Mo_hash (by omega) hq133) ?_
        refine zJ_goto (t := 148) d_Mo_consistent_136 (by decide) ?_
        exact t_Mo_consistent_b148 hd ih h
theorem t_Mo_consistent_b71 {D : va_G} {tt : ClassId × ClassId × ClassId} {a : Nat → Nat} {d N : Nat} (hd : 1 ≤ d) {z : Int32 × zMem} {x1 : Int32} {x4 : Int32} {x5 : Int32} {x6 : Int32} {s0 : Int32} {o2 : Option Value} {o3 : Option Value} {o7 : Option Value} {o8 : Option Value} {o9 : Option Value} {o10 : Option Value} {o11 : Option Value} {M : zMem} (h : f_Mo_consistent_b71 N x1 x4 x5 x6 s0 M = some z) : zS (zEn D tt) zshp a mz_Mo_consistent d zTr (zFs (zEn D tt) zshp a (zRi z)) 71 [some (.ref (a 45)), some (.int x1), o2, o3, some (.int x4), some (.int x5), some (.int x6), o7, o8, o9, o10, o11] [.int s0] M := by
  unfold f_Mo_consistent_b71 at h
  refine zS_istore (n := 73) (j := 7) (x' := s0) d_Mo_consistent_71 rfl (Nat.le_of_ble_eq_true rfl) rfl ?_
  refine zJ_iload (n := 75) (j := 7) (x := s0) d_Mo_consistent_73 rfl rfl ?_
  refine zS_istore (n := 77) (j := 8) (x' := s0) d_Mo_consistent_75 rfl (Nat.le_of_ble_eq_true rfl) rfl ?_
  refine zJ_iconst (n := 78) (v := 0) d_Mo_consistent_77 rfl zci_0 ?_
  refine zS_istore (n := 80) (j := 9) (x' := (0 : Int32)) d_Mo_consistent_78 rfl (Nat.le_of_ble_eq_true rfl) rfl ?_
  exact t_Mo_consistent_l80 hd N _ _ _ _ _ _ _ _ _ _ _ _ h
theorem t_Mo_consistent_b31 {D : va_G} {tt : ClassId × ClassId × ClassId} {a : Nat → Nat} {d N : Nat} (hd : 1 ≤ d) {z : Int32 × zMem} {x1 : Int32} {x4 : Int32} {x5 : Int32} {s0 : Int32} {o2 : Option Value} {o3 : Option Value} {o6 : Option Value} {o7 : Option Value} {o8 : Option Value} {o9 : Option Value} {o10 : Option Value} {o11 : Option Value} {M : zMem} (h : f_Mo_consistent_b31 N x1 x4 x5 s0 M = some z) : zS (zEn D tt) zshp a mz_Mo_consistent d zTr (zFs (zEn D tt) zshp a (zRi z)) 31 [some (.ref (a 45)), some (.int x1), o2, o3, some (.int x4), some (.int x5), o6, o7, o8, o9, o10, o11] [.int s0] M := by
  unfold f_Mo_consistent_b31 at h
  refine zS_istore (n := 33) (j := 6) (x' := s0) d_Mo_consistent_31 rfl (Nat.le_of_ble_eq_true rfl) rfl ?_
  refine zJ_aload_n (n := 34) (j := 0) (x := a 45) d_Mo_consistent_33 rfl rfl rfl ?_
  refine zS_getr (n := 37) (k0 := 45) (j := 20) (q := 61) d_Mo_consistent_34 rfl (fl_Mo_56 D tt) rfl rfl ?_
  refine zJ_iload_n (n := 38) (j := 1) (x := x1) d_Mo_consistent_37 rfl rfl rfl ?_
  obtain ⟨g38, h⟩ := zgd h
  refine zS_iald (n := 39) (k0 := 61) d_Mo_consistent_38 rfl rfl rfl rfl g38 ?_
  refine zJ_aload_n (n := 40) (j := 0) (x := a 45) d_Mo_consistent_39 rfl rfl rfl ?_
  refine zS_geti (n := 43) (k0 := 45) (j := 25) d_Mo_consistent_40 rfl (fl_Mo_165 D tt) rfl rfl ?_
  refine zJ_iload (n := 45) (j := 6) (x := s0) d_Mo_consistent_43 rfl rfl ?_
  refine zJ_iadd (n := 46) d_Mo_consistent_45 rfl ?_
  refine zJ_icmp_eq (t := 51) (n := 49) d_Mo_consistent_46 (by decide) rfl (fun hc => ?_) (fun hc => ?_)
  · rw [if_pos hc] at h
    refine zJ_iload (n := 53) (j := 6) (x := s0) d_Mo_consistent_51 rfl rfl ?_
    refine zJ_iconst (n := 54) (v := 1) d_Mo_consistent_53 rfl zci_1 ?_
    refine zJ_icmp_ne (t := 69) (n := 57) d_Mo_consistent_54 (by decide) rfl (fun hc => ?_) (fun hc => ?_)
    · rw [if_neg hc] at h
      refine zJ_iload (n := 71) (j := 4) (x := x4) d_Mo_consistent_69 rfl rfl ?_
      exact t_Mo_consistent_b71 hd h
    · rw [if_pos hc] at h
      refine zJ_aload_n (n := 58) (j := 0) (x := a 45) d_Mo_consistent_57 rfl rfl rfl ?_
      refine zS_getr (n := 61) (k0 := 45) (j := 19) (q := 60) d_Mo_consistent_58 rfl (fl_Mo_53 D tt) rfl rfl ?_
      refine zJ_bipush (n := 63) (v := 30) d_Mo_consistent_61 rfl zcb_30 ?_
      refine zJ_iload_n (n := 64) (j := 1) (x := x1) d_Mo_consistent_63 rfl rfl rfl ?_
      refine zJ_imul (n := 65) d_Mo_consistent_64 rfl ?_
      obtain ⟨g65, h⟩ := zgd h
      refine zS_iald (n := 66) (k0 := 60) d_Mo_consistent_65 rfl rfl rfl rfl g65 ?_
      refine zJ_goto (t := 71) d_Mo_consistent_66 (by decide) ?_
      exact t_Mo_consistent_b71 hd h
  · rw [if_neg hc] at h
    refine zJ_iconst (n := 50) (v := 0) d_Mo_consistent_49 rfl zci_0 ?_
    cases h
    exact zS_ireturn d_Mo_consistent_50 rfl rfl ⟨rfl, rfl⟩
theorem t_Mo_consistent {D : va_G} {tt : ClassId × ClassId × ClassId} {a : Nat → Nat} {d N : Nat} (hd : 1 ≤ d) {x1 : Int32} {x2 : Int32} {x3 : Int32} {x4 : Int32} {x5 : Int32} {M : zMem} {z : Int32 × zMem} (h : f_Mo_consistent N x1 x2 x3 x4 x5 M = some z) : zK (zEn D tt) zshp a mz_Mo_consistent d [.ref (a 45), .int x1, .int x2, .int x3, .int x4, .int x5] M (zRi z) := by
  refine zK.enter (L := [some (.ref (a 45)), some (.int x1), some (.int x2), some (.int x3), some (.int x4), some (.int x5), none, none, none, none, none, none]) (by decide) rfl (Nat.le_of_ble_eq_true rfl) rfl ?_
  unfold f_Mo_consistent at h
  refine zJ_aload_n (n := 1) (j := 0) (x := a 45) d_Mo_consistent_0 rfl rfl rfl ?_
  refine zJ_iload_n (n := 2) (j := 1) (x := x1) d_Mo_consistent_1 rfl rfl rfl ?_
  refine zJ_iload_n (n := 3) (j := 2) (x := x2) d_Mo_consistent_2 rfl rfl rfl ?_
  refine zJ_iload_n (n := 4) (j := 3) (x := x3) d_Mo_consistent_3 rfl rfl rfl ?_
  obtain ⟨q4, hq4, h⟩ := zbd h
  refine zS_callVi (n := 7) (k0 := 45) (avs := [.int x1, .int x2, .int x3]) (rest := []) (z := q4) (d' := d - 1) d_Mo_consistent_4 rfl (vk_Mo_204 D tt) rfl rfl rfl (Nat.le_of_ble_eq_true rfl) (by omega) (t_Mo_inOrder (by omega) hq4) ?_
  refine zJ_if_ne (t := 12) (n := 10) d_Mo_consistent_7 (by decide) rfl (fun hc => ?_) (fun hc => ?_)
  · rw [if_neg hc] at h
    refine zJ_aload_n (n := 13) (j := 0) (x := a 45) d_Mo_consistent_12 rfl rfl rfl ?_
    refine zJ_iload_n (n := 14) (j := 2) (x := x2) d_Mo_consistent_13 rfl rfl rfl ?_
    refine zJ_iload_n (n := 15) (j := 3) (x := x3) d_Mo_consistent_14 rfl rfl rfl ?_
    refine zJ_iconst (n := 16) (v := 1) d_Mo_consistent_15 rfl zci_1 ?_
    obtain ⟨q16, hq16, h⟩ := zbd h
    refine zS_callVv (n := 19) (k0 := 45) (avs := [.int x2, .int x3, .int (1 : Int32)]) (rest := []) (z := q16) (d' := d - 1) d_Mo_consistent_16 rfl (vk_Mo_187 D tt) rfl rfl rfl (Nat.le_of_ble_eq_true rfl) (by omega) (t_Mo_way (by omega) hq16) ?_
    refine zJ_aload_n (n := 20) (j := 0) (x := a 45) d_Mo_consistent_19 rfl rfl rfl ?_
    refine zS_geti (n := 23) (k0 := 45) (j := 29) d_Mo_consistent_20 rfl (fl_Mo_168 D tt) rfl rfl ?_
    refine zJ_if_le (t := 30) (n := 26) d_Mo_consistent_23 (by decide) rfl (fun hc => ?_) (fun hc => ?_)
    · rw [if_pos hc] at h
      refine zJ_iconst (n := 31) (v := 0) d_Mo_consistent_30 rfl zci_0 ?_
      exact t_Mo_consistent_b31 hd h
    · rw [if_neg hc] at h
      refine zJ_iconst (n := 27) (v := 1) d_Mo_consistent_26 rfl zci_1 ?_
      refine zJ_goto (t := 31) d_Mo_consistent_27 (by decide) ?_
      exact t_Mo_consistent_b31 hd h
  · rw [if_pos hc] at h
    refine zJ_iconst (n := 11) (v := 0) d_Mo_consistent_10 rfl zci_0 ?_
    cases h
    exact zS_ireturn d_Mo_consistent_11 rfl rfl ⟨rfl, rfl⟩
theorem t_Mo_follow_b56 {D : va_G} {tt : ClassId × ClassId × ClassId} {a : Nat → Nat} {d N : Nat} (hd : 2 ≤ d) {z : Int32 × zMem} {x3 : Int32} {x4 : Int32} {s1 : Int32} {o1 : Option Value} {o2 : Option Value} {M : zMem} (h : f_Mo_follow_b56 N x3 x4 s1 M = some z) : zS (zEn D tt) zshp a mz_Mo_follow d zTr (zFs (zEn D tt) zshp a (zRi z)) 56 [some (.ref (a 45)), o1, o2, some (.int x3), some (.int x4)] [.int s1, .ref (a 45)] M := by
  unfold f_Mo_follow_b56 at h
  obtain ⟨M56, hM56, h⟩ := zli h
  refine zS_putN (n := 59) (k0 := 45) (j := 31) d_Mo_follow_56 rfl (fl_Mo_90 D tt) zty_Mo rfl rfl rfl rfl rfl hM56 ?_
  refine zJ_aload_n (n := 60) (j := 0) (x := a 45) d_Mo_follow_59 rfl rfl rfl ?_
  refine zJ_iload (n := 62) (j := 4) (x := x4) d_Mo_follow_60 rfl rfl ?_
  refine zJ_if_eq (t := 69) (n := 65) d_Mo_follow_62 (by decide) rfl (fun hc => ?_) (fun hc => ?_)
  · rw [if_pos hc] at h
    refine zJ_aload_n (n := 70) (j := 0) (x := a 45) d_Mo_follow_69 rfl rfl rfl ?_
    refine zS_geti (n := 73) (k0 := 45) (j := 32) d_Mo_follow_70 rfl (fl_Mo_93 D tt) rfl rfl ?_
    obtain ⟨M73, hM73, h⟩ := zli h
    refine zS_putN (n := 76) (k0 := 45) (j := 32) d_Mo_follow_73 rfl (fl_Mo_93 D tt) zty_Mo rfl rfl rfl rfl rfl hM73 ?_
    refine zJ_iload (n := 78) (j := 4) (x := x4) d_Mo_follow_76 rfl rfl ?_
    obtain ⟨gz, h⟩ := zgd h
    cases h
    exact zS_ireturn d_Mo_follow_78 rfl (zbool_nar gz) ⟨rfl, rfl⟩
  · rw [if_neg hc] at h
    refine zJ_iload_n (n := 66) (j := 3) (x := x3) d_Mo_follow_65 rfl rfl rfl ?_
    refine zJ_goto (t := 73) d_Mo_follow_66 (by decide) ?_
    obtain ⟨M73, hM73, h⟩ := zli h
    refine zS_putN (n := 76) (k0 := 45) (j := 32) d_Mo_follow_73 rfl (fl_Mo_93 D tt) zty_Mo rfl rfl rfl rfl rfl hM73 ?_
    refine zJ_iload (n := 78) (j := 4) (x := x4) d_Mo_follow_76 rfl rfl ?_
    obtain ⟨gz, h⟩ := zgd h
    cases h
    exact zS_ireturn d_Mo_follow_78 rfl (zbool_nar gz) ⟨rfl, rfl⟩
theorem t_Mo_follow_b40 {D : va_G} {tt : ClassId × ClassId × ClassId} {a : Nat → Nat} {d N : Nat} (hd : 2 ≤ d) {z : Int32 × zMem} {x2 : Int32} {x3 : Int32} {s0 : Int32} {o1 : Option Value} {o4 : Option Value} {M : zMem} (h : f_Mo_follow_b40 N x2 x3 s0 M = some z) : zS (zEn D tt) zshp a mz_Mo_follow d zTr (zFs (zEn D tt) zshp a (zRi z)) 40 [some (.ref (a 45)), o1, some (.int x2), some (.int x3), o4] [.int s0] M := by
  unfold f_Mo_follow_b40 at h
  refine zS_istore (n := 42) (j := 4) (x' := s0) d_Mo_follow_40 rfl (Nat.le_of_ble_eq_true rfl) rfl ?_
  refine zJ_aload_n (n := 43) (j := 0) (x := a 45) d_Mo_follow_42 rfl rfl rfl ?_
  refine zJ_iload (n := 45) (j := 4) (x := s0) d_Mo_follow_43 rfl rfl ?_
  refine zJ_if_eq (t := 52) (n := 48) d_Mo_follow_45 (by decide) rfl (fun hc => ?_) (fun hc => ?_)
  · rw [if_pos hc] at h
    refine zJ_aload_n (n := 53) (j := 0) (x := a 45) d_Mo_follow_52 rfl rfl rfl ?_
    refine zS_geti (n := 56) (k0 := 45) (j := 31) d_Mo_follow_53 rfl (fl_Mo_90 D tt) rfl rfl ?_
    exact t_Mo_follow_b56 hd h
  · rw [if_neg hc] at h
    refine zJ_iload_n (n := 49) (j := 2) (x := x2) d_Mo_follow_48 rfl rfl rfl ?_
    refine zJ_goto (t := 56) d_Mo_follow_49 (by decide) ?_
    exact t_Mo_follow_b56 hd h
theorem t_Mo_follow_b21 {D : va_G} {tt : ClassId × ClassId × ClassId} {a : Nat → Nat} {d N : Nat} (hd : 2 ≤ d) {z : Int32 × zMem} {x2 : Int32} {x3 : Int32} {o1 : Option Value} {o4 : Option Value} {M : zMem} (h : f_Mo_follow_b21 N x2 x3 M = some z) : zS (zEn D tt) zshp a mz_Mo_follow d zTr (zFs (zEn D tt) zshp a (zRi z)) 21 [some (.ref (a 45)), o1, some (.int x2), some (.int x3), o4] [] M := by
  unfold f_Mo_follow_b21 at h
  refine zJ_iconst (n := 22) (v := 0) d_Mo_follow_21 rfl zci_0 ?_
  refine zJ_goto (t := 40) d_Mo_follow_22 (by decide) ?_
  exact t_Mo_follow_b40 hd h
theorem t_Mo_follow {D : va_G} {tt : ClassId × ClassId × ClassId} {a : Nat → Nat} {d N : Nat} (hd : 2 ≤ d) {x1 : Int32} {x2 : Int32} {x3 : Int32} {M : zMem} {z : Int32 × zMem} (h : f_Mo_follow N x1 x2 x3 M = some z) : zK (zEn D tt) zshp a mz_Mo_follow d [.ref (a 45), .int x1, .int x2, .int x3] M (zRi z) := by
  refine zK.enter (L := [some (.ref (a 45)), some (.int x1), some (.int x2), some (.int x3), none]) (by decide) rfl (Nat.le_of_ble_eq_true rfl) rfl ?_
  unfold f_Mo_follow at h
  refine zJ_aload_n (n := 1) (j := 0) (x := a 45) d_Mo_follow_0 rfl rfl rfl ?_
  refine zS_geti (n := 4) (k0 := 45) (j := 31) d_Mo_follow_1 rfl (fl_Mo_90 D tt) rfl rfl ?_
  refine zJ_if_ge (t := 25) (n := 7) d_Mo_follow_4 (by decide) rfl (fun hc => ?_) (fun hc => ?_)
  · rw [if_pos hc] at h
    refine zJ_aload_n (n := 26) (j := 0) (x := a 45) d_Mo_follow_25 rfl rfl rfl ?_
    refine zJ_iload_n (n := 27) (j := 1) (x := x1) d_Mo_follow_26 rfl rfl rfl ?_
    refine zJ_aload_n (n := 28) (j := 0) (x := a 45) d_Mo_follow_27 rfl rfl rfl ?_
    refine zS_geti (n := 31) (k0 := 45) (j := 31) d_Mo_follow_28 rfl (fl_Mo_90 D tt) rfl rfl ?_
    refine zJ_iload_n (n := 32) (j := 2) (x := x2) d_Mo_follow_31 rfl rfl rfl ?_
    refine zJ_aload_n (n := 33) (j := 0) (x := a 45) d_Mo_follow_32 rfl rfl rfl ?_
    refine zS_geti (n := 36) (k0 := 45) (j := 32) d_Mo_follow_33 rfl (fl_Mo_93 D tt) rfl rfl ?_
    refine zJ_iload_n (n := 37) (j := 3) (x := x3) d_Mo_follow_36 rfl rfl rfl ?_
    obtain ⟨q37, hq37, h⟩ := zbd h
    refine zS_callVi (n := 40) (k0 := 45) (avs := [.int x1, .int (M 45 31), .int x2, .int (M 45 32), .int x3]) (rest := []) (z := q37) (d' := d - 1) d_Mo_follow_37 rfl (vk_Mo_207 D tt) rfl rfl rfl (Nat.le_of_ble_eq_true rfl) (by omega) (t_Mo_consistent (by omega) hq37) ?_
    exact t_Mo_follow_b40 hd h
  · rw [if_neg hc] at h
    refine zJ_iload_n (n := 8) (j := 2) (x := x2) d_Mo_follow_7 rfl rfl rfl ?_
    refine zJ_if_lt (t := 21) (n := 11) d_Mo_follow_8 (by decide) rfl (fun hc => ?_) (fun hc => ?_)
    · rw [if_pos hc] at h
      exact t_Mo_follow_b21 hd h
    · rw [if_neg hc] at h
      refine zJ_iload_n (n := 12) (j := 2) (x := x2) d_Mo_follow_11 rfl rfl rfl ?_
      refine zJ_bipush (n := 14) (v := 40) d_Mo_follow_12 rfl zcb_40 ?_
      refine zJ_icmp_ge (t := 21) (n := 17) d_Mo_follow_14 (by decide) rfl (fun hc => ?_) (fun hc => ?_)
      · rw [if_pos hc] at h
        exact t_Mo_follow_b21 hd h
      · rw [if_neg hc] at h
        refine zJ_iconst (n := 18) (v := 1) d_Mo_follow_17 rfl zci_1 ?_
        refine zJ_goto (t := 40) d_Mo_follow_18 (by decide) ?_
        exact t_Mo_follow_b40 hd h
theorem t_Mo_seen {D : va_G} {tt : ClassId × ClassId × ClassId} {a : Nat → Nat} {d N : Nat} (hd : 0 ≤ d) {x1 : Int32} {M : zMem} {z : Int32 × zMem} (h : f_Mo_seen N x1 M = some z) : zK (zEn D tt) zshp a mz_Mo_seen d [.ref (a 45), .int x1] M (zRi z) := by
  refine zK.enter (L := [some (.ref (a 45)), some (.int x1)]) (by decide) rfl (Nat.le_of_ble_eq_true rfl) rfl ?_
  unfold f_Mo_seen at h
  refine zJ_aload_n (n := 1) (j := 0) (x := a 45) d_Mo_seen_0 rfl rfl rfl ?_
  refine zS_geti (n := 4) (k0 := 45) (j := 31) d_Mo_seen_1 rfl (fl_Mo_90 D tt) rfl rfl ?_
  refine zJ_if_ge (t := 11) (n := 7) d_Mo_seen_4 (by decide) rfl (fun hc => ?_) (fun hc => ?_)
  · rw [if_pos hc] at h
    refine zJ_iload_n (n := 12) (j := 1) (x := x1) d_Mo_seen_11 rfl rfl rfl ?_
    refine zJ_if_ne (t := 22) (n := 15) d_Mo_seen_12 (by decide) rfl (fun hc => ?_) (fun hc => ?_)
    · rw [if_neg hc] at h
      refine zJ_iload_n (n := 23) (j := 1) (x := x1) d_Mo_seen_22 rfl rfl rfl ?_
      refine zJ_iconst (n := 24) (v := 1) d_Mo_seen_23 rfl zci_1 ?_
      refine zJ_icmp_ne (t := 34) (n := 27) d_Mo_seen_24 (by decide) rfl (fun hc => ?_) (fun hc => ?_)
      · rw [if_neg hc] at h
        refine zJ_iconst (n := 35) (v := -1) d_Mo_seen_34 rfl zci_m1 ?_
        cases h
        exact zS_ireturn d_Mo_seen_35 rfl rfl ⟨rfl, rfl⟩
      · rw [if_pos hc] at h
        refine zJ_aload_n (n := 28) (j := 0) (x := a 45) d_Mo_seen_27 rfl rfl rfl ?_
        refine zS_geti (n := 31) (k0 := 45) (j := 32) d_Mo_seen_28 rfl (fl_Mo_93 D tt) rfl rfl ?_
        refine zJ_goto (t := 35) d_Mo_seen_31 (by decide) ?_
        cases h
        exact zS_ireturn d_Mo_seen_35 rfl rfl ⟨rfl, rfl⟩
    · rw [if_pos hc] at h
      refine zJ_aload_n (n := 16) (j := 0) (x := a 45) d_Mo_seen_15 rfl rfl rfl ?_
      refine zS_geti (n := 19) (k0 := 45) (j := 31) d_Mo_seen_16 rfl (fl_Mo_90 D tt) rfl rfl ?_
      refine zJ_goto (t := 35) d_Mo_seen_19 (by decide) ?_
      cases h
      exact zS_ireturn d_Mo_seen_35 rfl rfl ⟨rfl, rfl⟩
  · rw [if_neg hc] at h
    refine zJ_iconst (n := 8) (v := -1) d_Mo_seen_7 rfl zci_m1 ?_
    refine zJ_goto (t := 35) d_Mo_seen_8 (by decide) ?_
    cases h
    exact zS_ireturn d_Mo_seen_35 rfl rfl ⟨rfl, rfl⟩
theorem t_Mo_extract_b118 {D : va_G} {tt : ClassId × ClassId × ClassId} {a : Nat → Nat} {d N : Nat} (hd : 4 ≤ d) {z : Int32 × zMem} {x5 : Int32} {o1 : Option Value} {o2 : Option Value} {o3 : Option Value} {o4 : Option Value} {M : zMem} (h : f_Mo_extract_b118 N x5 M = some z) : zS (zEn D tt) zshp a mz_Mo_extract d zTr (zFs (zEn D tt) zshp a (zRi z)) 118 [some (.ref (a 45)), o1, o2, o3, o4, some (.int x5)] [] M := by
  unfold f_Mo_extract_b118 at h
  refine zJ_aload_n (n := 119) (j := 0) (x := a 45) d_Mo_extract_118 rfl rfl rfl ?_
  refine zS_getr (n := 122) (k0 := 45) (j := 36) (q := 70) d_Mo_extract_119 rfl (fl_Mo_83 D tt) rfl rfl ?_
  refine zJ_iconst (n := 123) (v := 0) d_Mo_extract_122 rfl zci_0 ?_
  refine zJ_aload_n (n := 124) (j := 0) (x := a 45) d_Mo_extract_123 rfl rfl rfl ?_
  refine zS_getr (n := 127) (k0 := 45) (j := 33) (q := 67) d_Mo_extract_124 rfl (fl_Mo_74 D tt) rfl rfl ?_
  refine zJ_iload (n := 129) (j := 5) (x := x5) d_Mo_extract_127 rfl rfl ?_
  obtain ⟨g129, h⟩ := zgd h
  refine zS_iald (n := 130) (k0 := 67) d_Mo_extract_129 rfl rfl rfl rfl g129 ?_
  obtain ⟨M130, hM130, h⟩ := zli h
  refine zS_iastN (n := 131) (k0 := 70) (jj := 0) d_Mo_extract_130 rfl rfl rfl (by decide) (by decide) hM130 ?_
  refine zJ_aload_n (n := 132) (j := 0) (x := a 45) d_Mo_extract_131 rfl rfl rfl ?_
  refine zS_getr (n := 135) (k0 := 45) (j := 36) (q := 70) d_Mo_extract_132 rfl (fl_Mo_83 D tt) rfl rfl ?_
  refine zJ_iconst (n := 136) (v := 1) d_Mo_extract_135 rfl zci_1 ?_
  refine zJ_aload_n (n := 137) (j := 0) (x := a 45) d_Mo_extract_136 rfl rfl rfl ?_
  refine zS_getr (n := 140) (k0 := 45) (j := 34) (q := 68) d_Mo_extract_137 rfl (fl_Mo_77 D tt) rfl rfl ?_
  refine zJ_iload (n := 142) (j := 5) (x := x5) d_Mo_extract_140 rfl rfl ?_
  obtain ⟨g142, h⟩ := zgd h
  refine zS_iald (n := 143) (k0 := 68) d_Mo_extract_142 rfl rfl rfl rfl g142 ?_
  obtain ⟨M143, hM143, h⟩ := zli h
  refine zS_iastN (n := 144) (k0 := 70) (jj := 1) d_Mo_extract_143 rfl rfl rfl (by decide) (by decide) hM143 ?_
  refine zJ_aload_n (n := 145) (j := 0) (x := a 45) d_Mo_extract_144 rfl rfl rfl ?_
  refine zS_getr (n := 148) (k0 := 45) (j := 36) (q := 70) d_Mo_extract_145 rfl (fl_Mo_83 D tt) rfl rfl ?_
  refine zJ_iconst (n := 149) (v := 2) d_Mo_extract_148 rfl zci_2 ?_
  refine zJ_aload_n (n := 150) (j := 0) (x := a 45) d_Mo_extract_149 rfl rfl rfl ?_
  refine zS_getr (n := 153) (k0 := 45) (j := 35) (q := 69) d_Mo_extract_150 rfl (fl_Mo_80 D tt) rfl rfl ?_
  refine zJ_iload (n := 155) (j := 5) (x := x5) d_Mo_extract_153 rfl rfl ?_
  obtain ⟨g155, h⟩ := zgd h
  refine zS_iald (n := 156) (k0 := 69) d_Mo_extract_155 rfl rfl rfl rfl g155 ?_
  obtain ⟨M156, hM156, h⟩ := zli h
  refine zS_iastN (n := 157) (k0 := 70) (jj := 2) d_Mo_extract_156 rfl rfl rfl (by decide) (by decide) hM156 ?_
  refine zJ_aload_n (n := 158) (j := 0) (x := a 45) d_Mo_extract_157 rfl rfl rfl ?_
  refine zS_getr (n := 161) (k0 := 45) (j := 36) (q := 70) d_Mo_extract_158 rfl (fl_Mo_83 D tt) rfl rfl ?_
  refine zJ_iconst (n := 162) (v := 3) d_Mo_extract_161 rfl zci_3 ?_
  refine zJ_aload_n (n := 163) (j := 0) (x := a 45) d_Mo_extract_162 rfl rfl rfl ?_
  refine zS_getr (n := 166) (k0 := 45) (j := 33) (q := 67) d_Mo_extract_163 rfl (fl_Mo_74 D tt) rfl rfl ?_
  refine zJ_bipush (n := 168) (v := 7) d_Mo_extract_166 rfl zcb_7 ?_
  refine zJ_iload (n := 170) (j := 5) (x := x5) d_Mo_extract_168 rfl rfl ?_
  refine zJ_iadd (n := 171) d_Mo_extract_170 rfl ?_
  obtain ⟨g171, h⟩ := zgd h
  refine zS_iald (n := 172) (k0 := 67) d_Mo_extract_171 rfl rfl rfl rfl g171 ?_
  obtain ⟨M172, hM172, h⟩ := zli h
  refine zS_iastN (n := 173) (k0 := 70) (jj := 3) d_Mo_extract_172 rfl rfl rfl (by decide) (by decide) hM172 ?_
  refine zJ_aload_n (n := 174) (j := 0) (x := a 45) d_Mo_extract_173 rfl rfl rfl ?_
  refine zS_getr (n := 177) (k0 := 45) (j := 36) (q := 70) d_Mo_extract_174 rfl (fl_Mo_83 D tt) rfl rfl ?_
  refine zJ_iconst (n := 178) (v := 4) d_Mo_extract_177 rfl zci_4 ?_
  refine zJ_aload_n (n := 179) (j := 0) (x := a 45) d_Mo_extract_178 rfl rfl rfl ?_
  refine zS_getr (n := 182) (k0 := 45) (j := 34) (q := 68) d_Mo_extract_179 rfl (fl_Mo_77 D tt) rfl rfl ?_
  refine zJ_bipush (n := 184) (v := 7) d_Mo_extract_182 rfl zcb_7 ?_
  refine zJ_iload (n := 186) (j := 5) (x := x5) d_Mo_extract_184 rfl rfl ?_
  refine zJ_iadd (n := 187) d_Mo_extract_186 rfl ?_
  obtain ⟨g187, h⟩ := zgd h
  refine zS_iald (n := 188) (k0 := 68) d_Mo_extract_187 rfl rfl rfl rfl g187 ?_
  obtain ⟨M188, hM188, h⟩ := zli h
  refine zS_iastN (n := 189) (k0 := 70) (jj := 4) d_Mo_extract_188 rfl rfl rfl (by decide) (by decide) hM188 ?_
  refine zJ_aload_n (n := 190) (j := 0) (x := a 45) d_Mo_extract_189 rfl rfl rfl ?_
  refine zS_getr (n := 193) (k0 := 45) (j := 36) (q := 70) d_Mo_extract_190 rfl (fl_Mo_83 D tt) rfl rfl ?_
  refine zJ_iconst (n := 194) (v := 5) d_Mo_extract_193 rfl zci_5 ?_
  refine zJ_aload_n (n := 195) (j := 0) (x := a 45) d_Mo_extract_194 rfl rfl rfl ?_
  refine zS_getr (n := 198) (k0 := 45) (j := 35) (q := 69) d_Mo_extract_195 rfl (fl_Mo_80 D tt) rfl rfl ?_
  refine zJ_bipush (n := 200) (v := 7) d_Mo_extract_198 rfl zcb_7 ?_
  refine zJ_iload (n := 202) (j := 5) (x := x5) d_Mo_extract_200 rfl rfl ?_
  refine zJ_iadd (n := 203) d_Mo_extract_202 rfl ?_
  obtain ⟨g203, h⟩ := zgd h
  refine zS_iald (n := 204) (k0 := 69) d_Mo_extract_203 rfl rfl rfl rfl g203 ?_
  obtain ⟨M204, hM204, h⟩ := zli h
  refine zS_iastN (n := 205) (k0 := 70) (jj := 5) d_Mo_extract_204 rfl rfl rfl (by decide) (by decide) hM204 ?_
  refine zJ_iconst (n := 206) (v := 1) d_Mo_extract_205 rfl zci_1 ?_
  cases h
  exact zS_ireturn d_Mo_extract_206 rfl rfl ⟨rfl, rfl⟩
theorem t_Mo_extract_l45 {D : va_G} {tt : ClassId × ClassId × ClassId} {a : Nat → Nat} {d N : Nat} (hd : 4 ≤ d) {z : Int32 × zMem} : ∀ (n : Nat), ∀ (x5 : Int32) (o1 o2 o3 o4 : Option Value) (M : zMem), f_Mo_extract_l45 N n x5 M = some z → zS (zEn D tt) zshp a mz_Mo_extract d zTr (zFs (zEn D tt) zshp a (zRi z)) 45 [some (.ref (a 45)), o1, o2, o3, o4, some (.int x5)] [] M := by
  intro n
  induction n with
  | zero =>
    intro x5 o1 o2 o3 o4 M h
    rw [f_Mo_extract_l45] at h
    cases h
  | succ n ih =>
    intro x5 o1 o2 o3 o4 M h
    rw [f_Mo_extract_l45] at h
    refine zJ_iload (n := 47) (j := 5) (x := x5) d_Mo_extract_45 rfl rfl ?_
    refine zJ_bipush (n := 49) (v := 6) d_Mo_extract_47 rfl zcb_6 ?_
    refine zJ_icmp_ge (t := 118) (n := 52) d_Mo_extract_49 (by decide) rfl (fun hc => ?_) (fun hc => ?_)
    · rw [if_pos hc] at h
      exact t_Mo_extract_b118 hd h
    · rw [if_neg hc] at h
      refine zJ_aload_n (n := 53) (j := 0) (x := a 45) d_Mo_extract_52 rfl rfl rfl ?_
      refine zS_getr (n := 56) (k0 := 45) (j := 33) (q := 67) d_Mo_extract_53 rfl (fl_Mo_74 D tt) rfl rfl ?_
      refine zJ_iload (n := 58) (j := 5) (x := x5) d_Mo_extract_56 rfl rfl ?_
      obtain ⟨g58, h⟩ := zgd h
      refine zS_iald (n := 59) (k0 := 67) d_Mo_extract_58 rfl rfl rfl rfl g58 ?_
      refine zJ_aload_n (n := 60) (j := 0) (x := a 45) d_Mo_extract_59 rfl rfl rfl ?_
      refine zS_getr (n := 63) (k0 := 45) (j := 33) (q := 67) d_Mo_extract_60 rfl (fl_Mo_74 D tt) rfl rfl ?_
      refine zJ_bipush (n := 65) (v := 7) d_Mo_extract_63 rfl zcb_7 ?_
      refine zJ_iload (n := 67) (j := 5) (x := x5) d_Mo_extract_65 rfl rfl ?_
      refine zJ_iadd (n := 68) d_Mo_extract_67 rfl ?_
      obtain ⟨g68, h⟩ := zgd h
      refine zS_iald (n := 69) (k0 := 67) d_Mo_extract_68 rfl rfl rfl rfl g68 ?_
      refine zJ_icmp_ne (t := 118) (n := 72) d_Mo_extract_69 (by decide) rfl (fun hc => ?_) (fun hc => ?_)
      · rw [if_neg hc] at h
        exact t_Mo_extract_b118 hd h
      · rw [if_pos hc] at h
        refine zJ_aload_n (n := 73) (j := 0) (x := a 45) d_Mo_extract_72 rfl rfl rfl ?_
        refine zS_getr (n := 76) (k0 := 45) (j := 34) (q := 68) d_Mo_extract_73 rfl (fl_Mo_77 D tt) rfl rfl ?_
        refine zJ_iload (n := 78) (j := 5) (x := x5) d_Mo_extract_76 rfl rfl ?_
        obtain ⟨g78, h⟩ := zgd h
        refine zS_iald (n := 79) (k0 := 68) d_Mo_extract_78 rfl rfl rfl rfl g78 ?_
        refine zJ_aload_n (n := 80) (j := 0) (x := a 45) d_Mo_extract_79 rfl rfl rfl ?_
        refine zS_getr (n := 83) (k0 := 45) (j := 34) (q := 68) d_Mo_extract_80 rfl (fl_Mo_77 D tt) rfl rfl ?_
        refine zJ_bipush (n := 85) (v := 7) d_Mo_extract_83 rfl zcb_7 ?_
        refine zJ_iload (n := 87) (j := 5) (x := x5) d_Mo_extract_85 rfl rfl ?_
        refine zJ_iadd (n := 88) d_Mo_extract_87 rfl ?_
        obtain ⟨g88, h⟩ := zgd h
        refine zS_iald (n := 89) (k0 := 68) d_Mo_extract_88 rfl rfl rfl rfl g88 ?_
        refine zJ_icmp_ne (t := 118) (n := 92) d_Mo_extract_89 (by decide) rfl (fun hc => ?_) (fun hc => ?_)
        · rw [if_neg hc] at h
          exact t_Mo_extract_b118 hd h
        · rw [if_pos hc] at h
          refine zJ_aload_n (n := 93) (j := 0) (x := a 45) d_Mo_extract_92 rfl rfl rfl ?_
          refine zS_getr (n := 96) (k0 := 45) (j := 35) (q := 69) d_Mo_extract_93 rfl (fl_Mo_80 D tt) rfl rfl ?_
          refine zJ_iload (n := 98) (j := 5) (x := x5) d_Mo_extract_96 rfl rfl ?_
          obtain ⟨g98, h⟩ := zgd h
          refine zS_iald (n := 99) (k0 := 69) d_Mo_extract_98 rfl rfl rfl rfl g98 ?_
          refine zJ_aload_n (n := 100) (j := 0) (x := a 45) d_Mo_extract_99 rfl rfl rfl ?_
          refine zS_getr (n := 103) (k0 := 45) (j := 35) (q := 69) d_Mo_extract_100 rfl (fl_Mo_80 D tt) rfl rfl ?_
          refine zJ_bipush (n := 105) (v := 7) d_Mo_extract_103 rfl zcb_7 ?_
          refine zJ_iload (n := 107) (j := 5) (x := x5) d_Mo_extract_105 rfl rfl ?_
          refine zJ_iadd (n := 108) d_Mo_extract_107 rfl ?_
          obtain ⟨g108, h⟩ := zgd h
          refine zS_iald (n := 109) (k0 := 69) d_Mo_extract_108 rfl rfl rfl rfl g108 ?_
          refine zJ_icmp_ne (t := 118) (n := 112) d_Mo_extract_109 (by decide) rfl (fun hc => ?_) (fun hc => ?_)
          · rw [if_neg hc] at h
            exact t_Mo_extract_b118 hd h
          · rw [if_pos hc] at h
            obtain ⟨v112, hv112, h⟩ := zli h
            refine zS_iinc (n := 115) (j := 5) (x := x5) (v := 1) (x' := v112) d_Mo_extract_112 rfl rfl zci_1 (Nat.le_of_ble_eq_true rfl) hv112 ?_
            refine zJ_goto (t := 45) d_Mo_extract_115 (by decide) ?_
            exact ih _ _ _ _ _ _ h
theorem t_Mo_extract {D : va_G} {tt : ClassId × ClassId × ClassId} {a : Nat → Nat} {d N : Nat} (hd : 4 ≤ d) {x1 : Int32} {x2 : Int32} {x3 : Int32} {x4 : Int32} {M : zMem} {z : Int32 × zMem} (h : f_Mo_extract N x1 x2 x3 x4 M = some z) : zK (zEn D tt) zshp a mz_Mo_extract d [.ref (a 45), .int x1, .int x2, .int x3, .int x4] M (zRi z) := by
  refine zK.enter (L := [some (.ref (a 45)), some (.int x1), some (.int x2), some (.int x3), some (.int x4), none]) (by decide) rfl (Nat.le_of_ble_eq_true rfl) rfl ?_
  unfold f_Mo_extract at h
  refine zJ_aload_n (n := 1) (j := 0) (x := a 45) d_Mo_extract_0 rfl rfl rfl ?_
  refine zJ_iload_n (n := 2) (j := 1) (x := x1) d_Mo_extract_1 rfl rfl rfl ?_
  refine zJ_iload_n (n := 3) (j := 3) (x := x3) d_Mo_extract_2 rfl rfl rfl ?_
  refine zJ_iload (n := 5) (j := 4) (x := x4) d_Mo_extract_3 rfl rfl ?_
  refine zJ_iconst (n := 6) (v := 0) d_Mo_extract_5 rfl zci_0 ?_
  obtain ⟨q6, hq6, h⟩ := zbd h
  refine zS_callVi (n := 9) (k0 := 45) (avs := [.int x1, .int x3, .int x4, .int (0 : Int32)]) (rest := []) (z := q6) (d' := d - 1) d_Mo_extract_6 rfl (vk_Mo_197 D tt) rfl rfl rfl (Nat.le_of_ble_eq_true rfl) (by omega) (t_Mo_accepted (by omega) hq6) ?_
  refine zJ_if_eq (t := 40) (n := 12) d_Mo_extract_9 (by decide) rfl (fun hc => ?_) (fun hc => ?_)
  · rw [if_pos hc] at h
    refine zJ_iconst (n := 41) (v := 0) d_Mo_extract_40 rfl zci_0 ?_
    cases h
    exact zS_ireturn d_Mo_extract_41 rfl rfl ⟨rfl, rfl⟩
  · rw [if_neg hc] at h
    refine zJ_aload_n (n := 13) (j := 0) (x := a 45) d_Mo_extract_12 rfl rfl rfl ?_
    refine zJ_iload_n (n := 14) (j := 2) (x := x2) d_Mo_extract_13 rfl rfl rfl ?_
    refine zJ_iload_n (n := 15) (j := 3) (x := x3) d_Mo_extract_14 rfl rfl rfl ?_
    refine zJ_iload (n := 17) (j := 4) (x := x4) d_Mo_extract_15 rfl rfl ?_
    refine zJ_bipush (n := 19) (v := 7) d_Mo_extract_17 rfl zcb_7 ?_
    obtain ⟨q19, hq19, h⟩ := zbd h
    refine zS_callVi (n := 22) (k0 := 45) (avs := [.int x2, .int x3, .int x4, .int (7 : Int32)]) (rest := []) (z := q19) (d' := d - 1) d_Mo_extract_19 rfl (vk_Mo_197 D tt) rfl rfl rfl (Nat.le_of_ble_eq_true rfl) (by omega) (t_Mo_accepted (by omega) hq19) ?_
    refine zJ_if_eq (t := 40) (n := 25) d_Mo_extract_22 (by decide) rfl (fun hc => ?_) (fun hc => ?_)
    · rw [if_pos hc] at h
      refine zJ_iconst (n := 41) (v := 0) d_Mo_extract_40 rfl zci_0 ?_
      cases h
      exact zS_ireturn d_Mo_extract_41 rfl rfl ⟨rfl, rfl⟩
    · rw [if_neg hc] at h
      refine zJ_aload_n (n := 26) (j := 0) (x := a 45) d_Mo_extract_25 rfl rfl rfl ?_
      refine zJ_iload_n (n := 27) (j := 1) (x := x1) d_Mo_extract_26 rfl rfl rfl ?_
      refine zJ_iload_n (n := 28) (j := 3) (x := x3) d_Mo_extract_27 rfl rfl rfl ?_
      obtain ⟨q28, hq28, h⟩ := zbd h
      refine zS_callVi (n := 31) (k0 := 45) (avs := [.int x1, .int x3]) (rest := []) (z := q28) (d' := d - 1) d_Mo_extract_28 rfl (vk_Mo_201 D tt) rfl rfl rfl (Nat.le_of_ble_eq_true rfl) (by omega) (t_Mo_says (by omega) hq28) ?_
      refine zJ_aload_n (n := 32) (j := 0) (x := a 45) d_Mo_extract_31 rfl rfl rfl ?_
      refine zJ_iload_n (n := 33) (j := 2) (x := x2) d_Mo_extract_32 rfl rfl rfl ?_
      refine zJ_iload_n (n := 34) (j := 3) (x := x3) d_Mo_extract_33 rfl rfl rfl ?_
      obtain ⟨q34, hq34, h⟩ := zbd h
      refine zS_callVi (n := 37) (k0 := 45) (avs := [.int x2, .int x3]) (rest := [.int q28.1]) (z := q34) (d' := d - 1) d_Mo_extract_34 rfl (vk_Mo_201 D tt) rfl rfl rfl (Nat.le_of_ble_eq_true rfl) (by omega) (t_Mo_says (by omega) hq34) ?_
      refine zJ_icmp_ne (t := 42) (n := 40) d_Mo_extract_37 (by decide) rfl (fun hc => ?_) (fun hc => ?_)
      · rw [if_neg hc] at h
        refine zJ_iconst (n := 43) (v := 0) d_Mo_extract_42 rfl zci_0 ?_
        refine zS_istore (n := 45) (j := 5) (x' := (0 : Int32)) d_Mo_extract_43 rfl (Nat.le_of_ble_eq_true rfl) rfl ?_
        exact t_Mo_extract_l45 hd N _ _ _ _ _ _ h
      · rw [if_pos hc] at h
        refine zJ_iconst (n := 41) (v := 0) d_Mo_extract_40 rfl zci_0 ?_
        cases h
        exact zS_ireturn d_Mo_extract_41 rfl rfl ⟨rfl, rfl⟩
