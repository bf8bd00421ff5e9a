theorem t_Mo_fuse {D : va_G} {tt : ClassId × ClassId × ClassId} {a : Nat → Nat} {d N : Nat} (hd : 0 ≤ d) {x1 : Int32} {M : zMem} {z : Int32 × zMem} (h : f_Mo_fuse N x1 M = some z) : zK (zEn D tt) zshp a mz_Mo_fuse d [.ref (a 45), .int x1] M (zRi z) := by
  refine zK.enter (L := [some (.ref (a 45)), some (.int x1)]) (by decide) rfl (Nat.le_of_ble_eq_true rfl) rfl ?_
  unfold f_Mo_fuse at h
  refine zJ_aload_n (n := 1) (j := 0) (x := a 45) d_Mo_fuse_0 rfl rfl rfl ?_
  refine zS_geti (n := 4) (k0 := 45) (j := 18) d_Mo_fuse_1 rfl (fl_Mo_106 D tt) rfl rfl ?_
  refine zJ_if_ne (t := 18) (n := 7) d_Mo_fuse_4 (by decide) rfl (fun hc => ?_) (fun hc => ?_)
  · rw [if_neg hc] at h
    refine zJ_iconst (n := 19) (v := 0) d_Mo_fuse_18 rfl zci_0 ?_
    cases h
    exact zS_ireturn d_Mo_fuse_19 rfl rfl ⟨rfl, rfl⟩
  · rw [if_pos hc] at h
    refine zJ_iload_n (n := 8) (j := 1) (x := x1) d_Mo_fuse_7 rfl rfl rfl ?_
    refine zJ_iconst (n := 9) (v := 1) d_Mo_fuse_8 rfl zci_1 ?_
    refine zJ_icmp_lt (t := 18) (n := 12) d_Mo_fuse_9 (by decide) rfl (fun hc => ?_) (fun hc => ?_)
    · rw [if_pos hc] at h
      refine zJ_iconst (n := 19) (v := 0) d_Mo_fuse_18 rfl zci_0 ?_
      cases h
      exact zS_ireturn d_Mo_fuse_19 rfl rfl ⟨rfl, rfl⟩
    · rw [if_neg hc] at h
      refine zJ_iload_n (n := 13) (j := 1) (x := x1) d_Mo_fuse_12 rfl rfl rfl ?_
      refine zJ_bipush (n := 15) (v := 100) d_Mo_fuse_13 rfl zcb_100 ?_
      refine zJ_icmp_le (t := 20) (n := 18) d_Mo_fuse_15 (by decide) rfl (fun hc => ?_) (fun hc => ?_)
      · rw [if_pos hc] at h
        refine zJ_aload_n (n := 21) (j := 0) (x := a 45) d_Mo_fuse_20 rfl rfl rfl ?_
        refine zJ_iload_n (n := 22) (j := 1) (x := x1) d_Mo_fuse_21 rfl rfl rfl ?_
        obtain ⟨M22, hM22, h⟩ := zli h
        refine zS_putN (n := 25) (k0 := 45) (j := 17) d_Mo_fuse_22 rfl (fl_Mo_124 D tt) zty_Mo rfl rfl rfl rfl rfl hM22 ?_
        refine zJ_iconst (n := 26) (v := 1) d_Mo_fuse_25 rfl zci_1 ?_
        cases h
        exact zS_ireturn d_Mo_fuse_26 rfl rfl ⟨rfl, rfl⟩
      · rw [if_neg hc] at h
        refine zJ_iconst (n := 19) (v := 0) d_Mo_fuse_18 rfl zci_0 ?_
        cases h
        exact zS_ireturn d_Mo_fuse_19 rfl rfl ⟨rfl, rfl⟩
theorem t_Mo_restart_b41 {D : va_G} {tt : ClassId × ClassId × ClassId} {a : Nat → Nat} {d N : Nat} (hd : 0 ≤ d) {z : Int32 × zMem} {x1 : Int32} {o2 : Option Value} {M : zMem} (h : f_Mo_restart_b41 N x1 M = some z) : zS (zEn D tt) zshp a mz_Mo_restart d zTr (zFs (zEn D tt) zshp a (zRi z)) 41 [some (.ref (a 45)), some (.int x1), o2] [] M := by
  unfold f_Mo_restart_b41 at h
  refine zJ_aload_n (n := 42) (j := 0) (x := a 45) d_Mo_restart_41 rfl rfl rfl ?_
  refine zS_geti (n := 45) (k0 := 45) (j := 9) d_Mo_restart_42 rfl (fl_Mo_121 D tt) rfl rfl ?_
  refine zJ_iload_n (n := 46) (j := 1) (x := x1) d_Mo_restart_45 rfl rfl rfl ?_
  refine zJ_isub (n := 47) d_Mo_restart_46 rfl ?_
  obtain ⟨v47, hv47, h⟩ := zli h
  refine zS_istore_n (n := 48) (j := 2) (x' := v47) d_Mo_restart_47 rfl rfl (Nat.le_of_ble_eq_true rfl) hv47 ?_
  refine zJ_aload_n (n := 49) (j := 0) (x := a 45) d_Mo_restart_48 rfl rfl rfl ?_
  refine zJ_iload_n (n := 50) (j := 1) (x := x1) d_Mo_restart_49 rfl rfl rfl ?_
  obtain ⟨M50, hM50, h⟩ := zli h
  refine zS_putN (n := 53) (k0 := 45) (j := 9) d_Mo_restart_50 rfl (fl_Mo_121 D tt) zty_Mo rfl rfl rfl rfl rfl hM50 ?_
  refine zJ_iload_n (n := 54) (j := 2) (x := v47) d_Mo_restart_53 rfl rfl rfl ?_
  cases h
  exact zS_ireturn d_Mo_restart_54 rfl rfl ⟨rfl, rfl⟩
theorem t_Mo_restart_l19 {D : va_G} {tt : ClassId × ClassId × ClassId} {a : Nat → Nat} {d N : Nat} (hd : 0 ≤ d) {z : Int32 × zMem} : ∀ (n : Nat), ∀ (x1 : Int32) (o2 : Option Value) (M : zMem), f_Mo_restart_l19 N n x1 M = some z → zS (zEn D tt) zshp a mz_Mo_restart d zTr (zFs (zEn D tt) zshp a (zRi z)) 19 [some (.ref (a 45)), some (.int x1), o2] [] M := by
  intro n
  induction n with
  | zero =>
    intro x1 o2 M h
    rw [f_Mo_restart_l19] at h
    cases h
  | succ n ih =>
    intro x1 o2 M h
    rw [f_Mo_restart_l19] at h
    refine zJ_iload_n (n := 20) (j := 1) (x := x1) d_Mo_restart_19 rfl rfl rfl ?_
    refine zJ_if_le (t := 41) (n := 23) d_Mo_restart_20 (by decide) rfl (fun hc => ?_) (fun hc => ?_)
    · rw [if_pos hc] at h
      exact t_Mo_restart_b41 hd h
    · rw [if_neg hc] at h
      refine zJ_aload_n (n := 24) (j := 0) (x := a 45) d_Mo_restart_23 rfl rfl rfl ?_
      refine zS_getr (n := 27) (k0 := 45) (j := 10) (q := 53) d_Mo_restart_24 rfl (fl_Mo_32 D tt) rfl rfl ?_
      refine zJ_iload_n (n := 28) (j := 1) (x := x1) d_Mo_restart_27 rfl rfl rfl ?_
      refine zJ_iconst (n := 29) (v := 1) d_Mo_restart_28 rfl zci_1 ?_
      refine zJ_isub (n := 30) d_Mo_restart_29 rfl ?_
      obtain ⟨g30, h⟩ := zgd h
      refine zS_iald (n := 31) (k0 := 53) d_Mo_restart_30 rfl rfl rfl rfl g30 ?_
      refine zJ_iconst (n := 32) (v := 3) d_Mo_restart_31 rfl zci_3 ?_
      refine zJ_icmp_eq (t := 41) (n := 35) d_Mo_restart_32 (by decide) rfl (fun hc => ?_) (fun hc => ?_)
      · rw [if_pos hc] at h
        exact t_Mo_restart_b41 hd h
      · rw [if_neg hc] at h
        obtain ⟨v35, hv35, h⟩ := zli h
        refine zS_iinc (n := 38) (j := 1) (x := x1) (v := -1) (x' := v35) d_Mo_restart_35 rfl rfl zci_m1 (Nat.le_of_ble_eq_true rfl) hv35 ?_
        refine zJ_goto (t := 19) d_Mo_restart_38 (by decide) ?_
        exact ih _ _ _ h
theorem t_Mo_restart {D : va_G} {tt : ClassId × ClassId × ClassId} {a : Nat → Nat} {d N : Nat} (hd : 0 ≤ d) {M : zMem} {z : Int32 × zMem} (h : f_Mo_restart N M = some z) : zK (zEn D tt) zshp a mz_Mo_restart d [.ref (a 45)] M (zRi z) := by
  refine zK.enter (L := [some (.ref (a 45)), none, none]) (by decide) rfl (Nat.le_of_ble_eq_true rfl) rfl ?_
  unfold f_Mo_restart at h
  refine zJ_aload_n (n := 1) (j := 0) (x := a 45) d_Mo_restart_0 rfl rfl rfl ?_
  refine zS_geti (n := 4) (k0 := 45) (j := 18) d_Mo_restart_1 rfl (fl_Mo_106 D tt) rfl rfl ?_
  refine zJ_if_ne (t := 9) (n := 7) d_Mo_restart_4 (by decide) rfl (fun hc => ?_) (fun hc => ?_)
  · rw [if_neg hc] at h
    refine zJ_aload_n (n := 10) (j := 0) (x := a 45) d_Mo_restart_9 rfl rfl rfl ?_
    refine zJ_iconst (n := 11) (v := 0) d_Mo_restart_10 rfl zci_0 ?_
    obtain ⟨M11, hM11, h⟩ := zli h
    refine zS_putN (n := 14) (k0 := 45) (j := 18) d_Mo_restart_11 rfl (fl_Mo_106 D tt) zty_Mo rfl rfl rfl rfl rfl hM11 ?_
    refine zJ_aload_n (n := 15) (j := 0) (x := a 45) d_Mo_restart_14 rfl rfl rfl ?_
    refine zS_geti (n := 18) (k0 := 45) (j := 9) d_Mo_restart_15 rfl (fl_Mo_121 D tt) rfl rfl ?_
    obtain ⟨v18, hv18, h⟩ := zli h
    refine zS_istore_n (n := 19) (j := 1) (x' := v18) d_Mo_restart_18 rfl rfl (Nat.le_of_ble_eq_true rfl) hv18 ?_
    exact t_Mo_restart_l19 hd N _ _ _ h
  · rw [if_pos hc] at h
    refine zJ_iconst (n := 8) (v := -1) d_Mo_restart_7 rfl zci_m1 ?_
    cases h
    exact zS_ireturn d_Mo_restart_8 rfl rfl ⟨rfl, rfl⟩
theorem t_Mo_leafOf {D : va_G} {tt : ClassId × ClassId × ClassId} {a : Nat → Nat} {d N : Nat} (hd : 1 ≤ d) {x1 : Int32} {M : zMem} {z : Int32 × zMem} (h : f_Mo_leafOf N x1 M = some z) : zK (zEn D tt) zshp a mz_Mo_leafOf d [.ref (a 45), .int x1] M (zRi z) := by
  refine zK.enter (L := [some (.ref (a 45)), some (.int x1)]) (by decide) rfl (Nat.le_of_ble_eq_true rfl) rfl ?_
  unfold f_Mo_leafOf at h
  refine zJ_aload_n (n := 1) (j := 0) (x := a 45) d_Mo_leafOf_0 rfl rfl rfl ?_
  refine zJ_iconst (n := 2) (v := 3) d_Mo_leafOf_1 rfl zci_3 ?_
  refine zJ_aload_n (n := 3) (j := 0) (x := a 45) d_Mo_leafOf_2 rfl rfl rfl ?_
  refine zS_getr (n := 6) (k0 := 45) (j := 5) (q := 49) d_Mo_leafOf_3 rfl (fl_Mo_20 D tt) rfl rfl ?_
  refine zJ_iload_n (n := 7) (j := 1) (x := x1) d_Mo_leafOf_6 rfl rfl rfl ?_
  obtain ⟨g7, h⟩ := zgd h
  refine zS_iald (n := 8) (k0 := 49) d_Mo_leafOf_7 rfl rfl rfl rfl g7 ?_
  refine zJ_iload_n (n := 9) (j := 1) (x := x1) d_Mo_leafOf_8 rfl rfl rfl ?_
  obtain ⟨q9, hq9, h⟩ := zbd h
  refine zS_callVi (n := 12) (k0 := 45) (avs := [.int (3 : Int32), .int (M 49 x1.toNatClampNeg), .int x1]) (rest := []) (z := q9) (d' := d - 1) d_Mo_leafOf_9 rfl (vk_Mo_102 D tt) rfl rfl rfl (Nat.le_of_ble_eq_true rfl) (by omega) (t_Mo_hash (by omega) hq9) ?_
  cases h
  exact zS_ireturn d_Mo_leafOf_12 rfl rfl ⟨rfl, rfl⟩
theorem t_Mo_row_l110 {D : va_G} {tt : ClassId × ClassId × ClassId} {a : Nat → Nat} {d N : Nat} (hd : 2 ≤ d) {z : Int32 × zMem} : ∀ (n : Nat), ∀ (x3 : Int32) (o1 o2 o4 : Option Value) (M : zMem), f_Mo_row_l110 N n x3 M = some z → zS (zEn D tt) zshp a mz_Mo_row d zTr (zFs (zEn D tt) zshp a (zRi z)) 110 [some (.ref (a 45)), o1, o2, some (.int x3), o4] [] M := by
  intro n
  induction n with
  | zero =>
    intro x3 o1 o2 o4 M h
    rw [f_Mo_row_l110] at h
    cases h
  | succ n ih =>
    intro x3 o1 o2 o4 M h
    rw [f_Mo_row_l110] at h
    refine zJ_iload_n (n := 111) (j := 3) (x := x3) d_Mo_row_110 rfl rfl rfl ?_
    refine zJ_iconst (n := 112) (v := 1) d_Mo_row_111 rfl zci_1 ?_
    refine zJ_icmp_le (t := 148) (n := 115) d_Mo_row_112 (by decide) rfl (fun hc => ?_) (fun hc => ?_)
    · rw [if_pos hc] at h
      refine zJ_aload_n (n := 149) (j := 0) (x := a 45) d_Mo_row_148 rfl rfl rfl ?_
      refine zS_getr (n := 152) (k0 := 45) (j := 23) (q := 62) d_Mo_row_149 rfl (fl_Mo_59 D tt) rfl rfl ?_
      refine zJ_iconst (n := 153) (v := 0) d_Mo_row_152 rfl zci_0 ?_
      refine zS_iald (n := 154) (k0 := 62) (jj := 0) d_Mo_row_153 rfl rfl rfl (by decide) (by decide) ?_
      cases h
      exact zS_ireturn d_Mo_row_154 rfl rfl ⟨rfl, rfl⟩
    · rw [if_neg hc] at h
      obtain ⟨v115, hv115, h⟩ := zli h
      refine zS_iinc (n := 118) (j := 3) (x := x3) (v := -1) (x' := v115) d_Mo_row_115 rfl rfl zci_m1 (Nat.le_of_ble_eq_true rfl) hv115 ?_
      refine zJ_aload_n (n := 119) (j := 0) (x := a 45) d_Mo_row_118 rfl rfl rfl ?_
      refine zS_getr (n := 122) (k0 := 45) (j := 23) (q := 62) d_Mo_row_119 rfl (fl_Mo_59 D tt) rfl rfl ?_
      refine zJ_iload_n (n := 123) (j := 3) (x := v115) d_Mo_row_122 rfl rfl rfl ?_
      refine zJ_iconst (n := 124) (v := 1) d_Mo_row_123 rfl zci_1 ?_
      refine zJ_isub (n := 125) d_Mo_row_124 rfl ?_
      refine zJ_aload_n (n := 126) (j := 0) (x := a 45) d_Mo_row_125 rfl rfl rfl ?_
      refine zJ_iconst (n := 127) (v := 4) d_Mo_row_126 rfl zci_4 ?_
      refine zJ_aload_n (n := 128) (j := 0) (x := a 45) d_Mo_row_127 rfl rfl rfl ?_
      refine zS_getr (n := 131) (k0 := 45) (j := 23) (q := 62) d_Mo_row_128 rfl (fl_Mo_59 D tt) rfl rfl ?_
      refine zJ_iload_n (n := 132) (j := 3) (x := v115) d_Mo_row_131 rfl rfl rfl ?_
      refine zJ_iconst (n := 133) (v := 1) d_Mo_row_132 rfl zci_1 ?_
      refine zJ_isub (n := 134) d_Mo_row_133 rfl ?_
      obtain ⟨g134, h⟩ := zgd h
      refine zS_iald (n := 135) (k0 := 62) d_Mo_row_134 rfl rfl rfl rfl g134 ?_
      refine zJ_aload_n (n := 136) (j := 0) (x := a 45) d_Mo_row_135 rfl rfl rfl ?_
      refine zS_getr (n := 139) (k0 := 45) (j := 23) (q := 62) d_Mo_row_136 rfl (fl_Mo_59 D tt) rfl rfl ?_
      refine zJ_iload_n (n := 140) (j := 3) (x := v115) d_Mo_row_139 rfl rfl rfl ?_
      obtain ⟨g140, h⟩ := zgd h
      refine zS_iald (n := 141) (k0 := 62) d_Mo_row_140 rfl rfl rfl rfl g140 ?_
      obtain ⟨q141, hq141, h⟩ := zbd h
      refine zS_callVi (n := 144) (k0 := 45) (avs := [.int (4 : Int32), .int (M 62 (v115 - (1 : Int32)).toNatClampNeg), .int (M 62 v115.toNatClampNeg)]) (rest := [.int (v115 - (1 : Int32)), .ref (a 62)]) (z := q141) (d' := d - 1) d_Mo_row_141 rfl (vk_Mo_102 D tt) rfl rfl rfl (Nat.le_of_ble_eq_true rfl) (by omega) (t_Mo_hash (by omega) hq141) ?_
      obtain ⟨g144, h⟩ := zgd h
      obtain ⟨M144, hM144, h⟩ := zli h
      refine zS_iastN (n := 145) (k0 := 62) d_Mo_row_144 rfl rfl rfl rfl g144 hM144 ?_
      refine zJ_goto (t := 110) d_Mo_row_145 (by decide) ?_
      exact ih _ _ _ _ _ h
theorem t_Mo_row_b104 {D : va_G} {tt : ClassId × ClassId × ClassId} {a : Nat → Nat} {d N : Nat} (hd : 2 ≤ d) {z : Int32 × zMem} {k5 : Int32 → Int32 → Int32 → Int32 → zMem → Option (Int32 × zMem)} (hk5 : ∀ (x1 x2 x3 x4 : Int32) (M : zMem), k5 x1 x2 x3 x4 M = some z → zS (zEn D tt) zshp a mz_Mo_row d zTr (zFs (zEn D tt) zshp a (zRi z)) 5 [some (.ref (a 45)), some (.int x1), some (.int x2), some (.int x3), some (.int x4)] [] M) {x1 : Int32} {x2 : Int32} {x3 : Int32} {x4 : Int32} {M : zMem} (h : f_Mo_row_b104 N k5 x1 x2 x3 x4 M = some z) : zS (zEn D tt) zshp a mz_Mo_row d zTr (zFs (zEn D tt) zshp a (zRi z)) 104 [some (.ref (a 45)), some (.int x1), some (.int x2), some (.int x3), some (.int x4)] [] M := by
  unfold f_Mo_row_b104 at h
  obtain ⟨v104, hv104, h⟩ := zli h
  refine zS_iinc (n := 107) (j := 4) (x := x4) (v := 1) (x' := v104) d_Mo_row_104 rfl rfl zci_1 (Nat.le_of_ble_eq_true rfl) hv104 ?_
  refine zJ_goto (t := 5) d_Mo_row_107 (by decide) ?_
  exact hk5 _ _ _ _ _ h
theorem t_Mo_row_l35 {D : va_G} {tt : ClassId × ClassId × ClassId} {a : Nat → Nat} {d N : Nat} (hd : 2 ≤ d) {z : Int32 × zMem} {k5 : Int32 → Int32 → Int32 → Int32 → zMem → Option (Int32 × zMem)} (hk5 : ∀ (x1 x2 x3 x4 : Int32) (M : zMem), k5 x1 x2 x3 x4 M = some z → zS (zEn D tt) zshp a mz_Mo_row d zTr (zFs (zEn D tt) zshp a (zRi z)) 5 [some (.ref (a 45)), some (.int x1), some (.int x2), some (.int x3), some (.int x4)] [] M) : ∀ (n : Nat), ∀ (x1 x2 x3 x4 : Int32) (M : zMem), f_Mo_row_l35 N k5 n x1 x2 x3 x4 M = some z → zS (zEn D tt) zshp a mz_Mo_row d zTr (zFs (zEn D tt) zshp a (zRi z)) 35 [some (.ref (a 45)), some (.int x1), some (.int x2), some (.int x3), some (.int x4)] [] M := by
  intro n
  induction n with
  | zero =>
    intro x1 x2 x3 x4 M h
    rw [f_Mo_row_l35] at h
    cases h
  | succ n ih =>
    intro x1 x2 x3 x4 M h
    rw [f_Mo_row_l35] at h
    refine zJ_iload_n (n := 36) (j := 3) (x := x3) d_Mo_row_35 rfl rfl rfl ?_
    refine zJ_iconst (n := 37) (v := 1) d_Mo_row_36 rfl zci_1 ?_
    refine zJ_icmp_le (t := 104) (n := 40) d_Mo_row_37 (by decide) rfl (fun hc => ?_) (fun hc => ?_)
    · rw [if_pos hc] at h
      exact t_Mo_row_b104 hd hk5 h
    · rw [if_neg hc] at h
      refine zJ_aload_n (n := 41) (j := 0) (x := a 45) d_Mo_row_40 rfl rfl rfl ?_
      refine zS_getr (n := 44) (k0 := 45) (j := 24) (q := 63) d_Mo_row_41 rfl (fl_Mo_62 D tt) rfl rfl ?_
      refine zJ_iload_n (n := 45) (j := 3) (x := x3) d_Mo_row_44 rfl rfl rfl ?_
      refine zJ_iconst (n := 46) (v := 1) d_Mo_row_45 rfl zci_1 ?_
      refine zJ_isub (n := 47) d_Mo_row_46 rfl ?_
      obtain ⟨g47, h⟩ := zgd h
      refine zS_iald (n := 48) (k0 := 63) d_Mo_row_47 rfl rfl rfl rfl g47 ?_
      refine zJ_aload_n (n := 49) (j := 0) (x := a 45) d_Mo_row_48 rfl rfl rfl ?_
      refine zS_getr (n := 52) (k0 := 45) (j := 24) (q := 63) d_Mo_row_49 rfl (fl_Mo_62 D tt) rfl rfl ?_
      refine zJ_iload_n (n := 53) (j := 3) (x := x3) d_Mo_row_52 rfl rfl rfl ?_
      refine zJ_iconst (n := 54) (v := 2) d_Mo_row_53 rfl zci_2 ?_
      refine zJ_isub (n := 55) d_Mo_row_54 rfl ?_
      obtain ⟨g55, h⟩ := zgd h
      refine zS_iald (n := 56) (k0 := 63) d_Mo_row_55 rfl rfl rfl rfl g55 ?_
      refine zJ_icmp_ne (t := 104) (n := 59) d_Mo_row_56 (by decide) rfl (fun hc => ?_) (fun hc => ?_)
      · rw [if_neg hc] at h
        exact t_Mo_row_b104 hd hk5 h
      · rw [if_pos hc] at h
        obtain ⟨v59, hv59, h⟩ := zli h
        refine zS_iinc (n := 62) (j := 3) (x := x3) (v := -1) (x' := v59) d_Mo_row_59 rfl rfl zci_m1 (Nat.le_of_ble_eq_true rfl) hv59 ?_
        refine zJ_aload_n (n := 63) (j := 0) (x := a 45) d_Mo_row_62 rfl rfl rfl ?_
        refine zS_getr (n := 66) (k0 := 45) (j := 23) (q := 62) d_Mo_row_63 rfl (fl_Mo_59 D tt) rfl rfl ?_
        refine zJ_iload_n (n := 67) (j := 3) (x := v59) d_Mo_row_66 rfl rfl rfl ?_
        refine zJ_iconst (n := 68) (v := 1) d_Mo_row_67 rfl zci_1 ?_
        refine zJ_isub (n := 69) d_Mo_row_68 rfl ?_
        refine zJ_aload_n (n := 70) (j := 0) (x := a 45) d_Mo_row_69 rfl rfl rfl ?_
        refine zJ_iconst (n := 71) (v := 4) d_Mo_row_70 rfl zci_4 ?_
        refine zJ_aload_n (n := 72) (j := 0) (x := a 45) d_Mo_row_71 rfl rfl rfl ?_
        refine zS_getr (n := 75) (k0 := 45) (j := 23) (q := 62) d_Mo_row_72 rfl (fl_Mo_59 D tt) rfl rfl ?_
        refine zJ_iload_n (n := 76) (j := 3) (x := v59) d_Mo_row_75 rfl rfl rfl ?_
        refine zJ_iconst (n := 77) (v := 1) d_Mo_row_76 rfl zci_1 ?_
        refine zJ_isub (n := 78) d_Mo_row_77 rfl ?_
        obtain ⟨g78, h⟩ := zgd h
        refine zS_iald (n := 79) (k0 := 62) d_Mo_row_78 rfl rfl rfl rfl g78 ?_
        refine zJ_aload_n (n := 80) (j := 0) (x := a 45) d_Mo_row_79 rfl rfl rfl ?_
        refine zS_getr (n := 83) (k0 := 45) (j := 23) (q := 62) d_Mo_row_80 rfl (fl_Mo_59 D tt) rfl rfl ?_
        refine zJ_iload_n (n := 84) (j := 3) (x := v59) d_Mo_row_83 rfl rfl rfl ?_
        obtain ⟨g84, h⟩ := zgd h
        refine zS_iald (n := 85) (k0 := 62) d_Mo_row_84 rfl rfl rfl rfl g84 ?_
        obtain ⟨q85, hq85, h⟩ := zbd h
        refine zS_callVi (n := 88) (k0 := 45) (avs := [.int (4 : Int32), .int (M 62 (v59 - (1 : Int32)).toNatClampNeg), .int (M 62 v59.toNatClampNeg)]) (rest := [.int (v59 - (1 : Int32)), .ref (a 62)]) (z := q85) (d' := d - 1) d_Mo_row_85 rfl (vk_Mo_102 D tt) rfl rfl rfl (Nat.le_of_ble_eq_true rfl) (by omega) (t_Mo_hash (by omega) hq85) ?_
        obtain ⟨g88, h⟩ := zgd h
        obtain ⟨M88, hM88, h⟩ := zli h
        refine zS_iastN (n := 89) (k0 := 62) d_Mo_row_88 rfl rfl rfl rfl g88 hM88 ?_
        refine zJ_aload_n (n := 90) (j := 0) (x := a 45) d_Mo_row_89 rfl rfl rfl ?_
        refine zS_getr (n := 93) (k0 := 45) (j := 24) (q := 63) d_Mo_row_90 rfl (fl_Mo_62 D tt) rfl rfl ?_
        refine zJ_iload_n (n := 94) (j := 3) (x := v59) d_Mo_row_93 rfl rfl rfl ?_
        refine zJ_iconst (n := 95) (v := 1) d_Mo_row_94 rfl zci_1 ?_
        refine zJ_isub (n := 96) d_Mo_row_95 rfl ?_
        refine zJ_dup2 (n := 97) d_Mo_row_96 rfl rfl rfl ?_
        obtain ⟨g97, h⟩ := zgd h
        refine zS_iald (n := 98) (k0 := 63) d_Mo_row_97 rfl rfl rfl rfl g97 ?_
        refine zJ_iconst (n := 99) (v := 2) d_Mo_row_98 rfl zci_2 ?_
        refine zJ_imul (n := 100) d_Mo_row_99 rfl ?_
        obtain ⟨g100, h⟩ := zgd h
        obtain ⟨M100, hM100, h⟩ := zli h
        refine zS_iastN (n := 101) (k0 := 63) d_Mo_row_100 rfl rfl rfl rfl g100 hM100 ?_
        refine zJ_goto (t := 35) d_Mo_row_101 (by decide) ?_
        exact ih _ _ _ _ _ h
theorem t_Mo_row_l5 {D : va_G} {tt : ClassId × ClassId × ClassId} {a : Nat → Nat} {d N : Nat} (hd : 2 ≤ d) {z : Int32 × zMem} : ∀ (n : Nat), ∀ (x1 x2 x3 x4 : Int32) (M : zMem), f_Mo_row_l5 N n x1 x2 x3 x4 M = some z → zS (zEn D tt) zshp a mz_Mo_row d zTr (zFs (zEn D tt) zshp a (zRi z)) 5 [some (.ref (a 45)), some (.int x1), some (.int x2), some (.int x3), some (.int x4)] [] M := by
  intro n
  induction n with
  | zero =>
    intro x1 x2 x3 x4 M h
    rw [f_Mo_row_l5] at h
    cases h
  | succ n ih =>
    intro x1 x2 x3 x4 M h
    rw [f_Mo_row_l5] at h
    refine zJ_iload (n := 7) (j := 4) (x := x4) d_Mo_row_5 rfl rfl ?_
    refine zJ_iload_n (n := 8) (j := 1) (x := x1) d_Mo_row_7 rfl rfl rfl ?_
    refine zJ_iload_n (n := 9) (j := 2) (x := x2) d_Mo_row_8 rfl rfl rfl ?_
    refine zJ_iadd (n := 10) d_Mo_row_9 rfl ?_
    refine zJ_icmp_ge (t := 110) (n := 13) d_Mo_row_10 (by decide) rfl (fun hc => ?_) (fun hc => ?_)
    · rw [if_pos hc] at h
      exact t_Mo_row_l110 hd N _ _ _ _ _ h
    · rw [if_neg hc] at h
      refine zJ_aload_n (n := 14) (j := 0) (x := a 45) d_Mo_row_13 rfl rfl rfl ?_
      refine zS_getr (n := 17) (k0 := 45) (j := 23) (q := 62) d_Mo_row_14 rfl (fl_Mo_59 D tt) rfl rfl ?_
      refine zJ_iload_n (n := 18) (j := 3) (x := x3) d_Mo_row_17 rfl rfl rfl ?_
      refine zJ_aload_n (n := 19) (j := 0) (x := a 45) d_Mo_row_18 rfl rfl rfl ?_
      refine zJ_iload (n := 21) (j := 4) (x := x4) d_Mo_row_19 rfl rfl ?_
      obtain ⟨q21, hq21, h⟩ := zbd h
      refine zS_callVi (n := 24) (k0 := 45) (avs := [.int x4]) (rest := [.int x3, .ref (a 62)]) (z := q21) (d' := d - 1) d_Mo_row_21 rfl (vk_Mo_158 D tt) rfl rfl rfl (Nat.le_of_ble_eq_true rfl) (by omega) (t_Mo_leafOf (by omega) hq21) ?_
      obtain ⟨g24, h⟩ := zgd h
      obtain ⟨M24, hM24, h⟩ := zli h
      refine zS_iastN (n := 25) (k0 := 62) d_Mo_row_24 rfl rfl rfl rfl g24 hM24 ?_
      refine zJ_aload_n (n := 26) (j := 0) (x := a 45) d_Mo_row_25 rfl rfl rfl ?_
      refine zS_getr (n := 29) (k0 := 45) (j := 24) (q := 63) d_Mo_row_26 rfl (fl_Mo_62 D tt) rfl rfl ?_
      refine zJ_iload_n (n := 30) (j := 3) (x := x3) d_Mo_row_29 rfl rfl rfl ?_
      refine zJ_iconst (n := 31) (v := 1) d_Mo_row_30 rfl zci_1 ?_
      obtain ⟨g31, h⟩ := zgd h
      obtain ⟨M31, hM31, h⟩ := zli h
      refine zS_iastN (n := 32) (k0 := 63) d_Mo_row_31 rfl rfl rfl rfl g31 hM31 ?_
      obtain ⟨v32, hv32, h⟩ := zli h
      refine zS_iinc (n := 35) (j := 3) (x := x3) (v := 1) (x' := v32) d_Mo_row_32 rfl rfl zci_1 (Nat.le_of_ble_eq_true rfl) hv32 ?_
      exact t_Mo_row_l35 hd ih N _ _ _ _ _ h
theorem t_Mo_row {D : va_G} {tt : ClassId × ClassId × ClassId} {a : Nat → Nat} {d N : Nat} (hd : 2 ≤ d) {x1 : Int32} {x2 : Int32} {M : zMem} {z : Int32 × zMem} (h : f_Mo_row N x1 x2 M = some z) : zK (zEn D tt) zshp a mz_Mo_row d [.ref (a 45), .int x1, .int x2] M (zRi z) := by
  refine zK.enter (L := [some (.ref (a 45)), some (.int x1), some (.int x2), none, none]) (by decide) rfl (Nat.le_of_ble_eq_true rfl) rfl ?_
  unfold f_Mo_row at h
  refine zJ_iconst (n := 1) (v := 0) d_Mo_row_0 rfl zci_0 ?_
  refine zS_istore_n (n := 2) (j := 3) (x' := (0 : Int32)) d_Mo_row_1 rfl rfl (Nat.le_of_ble_eq_true rfl) rfl ?_
  refine zJ_iload_n (n := 3) (j := 1) (x := x1) d_Mo_row_2 rfl rfl rfl ?_
  refine zS_istore (n := 5) (j := 4) (x' := x1) d_Mo_row_3 rfl (Nat.le_of_ble_eq_true rfl) rfl ?_
  exact t_Mo_row_l5 hd N _ _ _ _ _ h
theorem t_Mo_root {D : va_G} {tt : ClassId × ClassId × ClassId} {a : Nat → Nat} {d N : Nat} (hd : 0 ≤ d) {x1 : Int32} {M : zMem} {z : Int32 × zMem} (h : f_Mo_root N x1 M = some z) : zK (zEn D tt) zshp a mz_Mo_root d [.ref (a 45), .int x1] M (zRi z) := by
  refine zK.enter (L := [some (.ref (a 45)), some (.int x1)]) (by decide) rfl (Nat.le_of_ble_eq_true rfl) rfl ?_
  unfold f_Mo_root at h
  refine zJ_iload_n (n := 1) (j := 1) (x := x1) d_Mo_root_0 rfl rfl rfl ?_
  refine zJ_if_lt (t := 12) (n := 4) d_Mo_root_1 (by decide) rfl (fun hc => ?_) (fun hc => ?_)
  · rw [if_pos hc] at h
    refine zJ_iconst (n := 13) (v := -1) d_Mo_root_12 rfl zci_m1 ?_
    refine zJ_goto (t := 22) d_Mo_root_13 (by decide) ?_
    cases h
    exact zS_ireturn d_Mo_root_22 rfl rfl ⟨rfl, rfl⟩
  · rw [if_neg hc] at h
    refine zJ_iload_n (n := 5) (j := 1) (x := x1) d_Mo_root_4 rfl rfl rfl ?_
    refine zJ_aload_n (n := 6) (j := 0) (x := a 45) d_Mo_root_5 rfl rfl rfl ?_
    refine zS_geti (n := 9) (k0 := 45) (j := 4) d_Mo_root_6 rfl (fl_Mo_145 D tt) rfl rfl ?_
    refine zJ_icmp_lt (t := 16) (n := 12) d_Mo_root_9 (by decide) rfl (fun hc => ?_) (fun hc => ?_)
    · rw [if_pos hc] at h
      refine zJ_aload_n (n := 17) (j := 0) (x := a 45) d_Mo_root_16 rfl rfl rfl ?_
      refine zS_getr (n := 20) (k0 := 45) (j := 5) (q := 49) d_Mo_root_17 rfl (fl_Mo_20 D tt) rfl rfl ?_
      refine zJ_iload_n (n := 21) (j := 1) (x := x1) d_Mo_root_20 rfl rfl rfl ?_
      obtain ⟨g21, h⟩ := zgd h
      refine zS_iald (n := 22) (k0 := 49) d_Mo_root_21 rfl rfl rfl rfl g21 ?_
      cases h
      exact zS_ireturn d_Mo_root_22 rfl rfl ⟨rfl, rfl⟩
    · rw [if_neg hc] at h
      refine zJ_iconst (n := 13) (v := -1) d_Mo_root_12 rfl zci_m1 ?_
      refine zJ_goto (t := 22) d_Mo_root_13 (by decide) ?_
      cases h
      exact zS_ireturn d_Mo_root_22 rfl rfl ⟨rfl, rfl⟩
theorem t_Mo_head {D : va_G} {tt : ClassId × ClassId × ClassId} {a : Nat → Nat} {d N : Nat} (hd : 3 ≤ d) {x1 : Int32} {M : zMem} {z : Int32 × zMem} (h : f_Mo_head N x1 M = some z) : zK (zEn D tt) zshp a mz_Mo_head d [.ref (a 45), .int x1] M (zRi z) := by
  refine zK.enter (L := [some (.ref (a 45)), some (.int x1)]) (by decide) rfl (Nat.le_of_ble_eq_true rfl) rfl ?_
  unfold f_Mo_head at h
  refine zJ_iload_n (n := 1) (j := 1) (x := x1) d_Mo_head_0 rfl rfl rfl ?_
  refine zJ_if_lt (t := 12) (n := 4) d_Mo_head_1 (by decide) rfl (fun hc => ?_) (fun hc => ?_)
  · rw [if_pos hc] at h
    refine zJ_iconst (n := 13) (v := -1) d_Mo_head_12 rfl zci_m1 ?_
    refine zJ_goto (t := 24) d_Mo_head_13 (by decide) ?_
    cases h
    exact zS_ireturn d_Mo_head_24 rfl rfl ⟨rfl, rfl⟩
  · rw [if_neg hc] at h
    refine zJ_iload_n (n := 5) (j := 1) (x := x1) d_Mo_head_4 rfl rfl rfl ?_
    refine zJ_aload_n (n := 6) (j := 0) (x := a 45) d_Mo_head_5 rfl rfl rfl ?_
    refine zS_geti (n := 9) (k0 := 45) (j := 4) d_Mo_head_6 rfl (fl_Mo_145 D tt) rfl rfl ?_
    refine zJ_icmp_lt (t := 16) (n := 12) d_Mo_head_9 (by decide) rfl (fun hc => ?_) (fun hc => ?_)
    · rw [if_pos hc] at h
      refine zJ_aload_n (n := 17) (j := 0) (x := a 45) d_Mo_head_16 rfl rfl rfl ?_
      refine zJ_iconst (n := 18) (v := 0) d_Mo_head_17 rfl zci_0 ?_
      refine zJ_iload_n (n := 19) (j := 1) (x := x1) d_Mo_head_18 rfl rfl rfl ?_
      refine zJ_iconst (n := 20) (v := 1) d_Mo_head_19 rfl zci_1 ?_
      refine zJ_iadd (n := 21) d_Mo_head_20 rfl ?_
      obtain ⟨q21, hq21, h⟩ := zbd h
      refine zS_callVi (n := 24) (k0 := 45) (avs := [.int (0 : Int32), .int (x1 + (1 : Int32))]) (rest := []) (z := q21) (d' := d - 1) d_Mo_head_21 rfl (vk_Mo_161 D tt) rfl rfl rfl (Nat.le_of_ble_eq_true rfl) (by omega) (t_Mo_row (by omega) hq21) ?_
      cases h
      exact zS_ireturn d_Mo_head_24 rfl rfl ⟨rfl, rfl⟩
    · rw [if_neg hc] at h
      refine zJ_iconst (n := 13) (v := -1) d_Mo_head_12 rfl zci_m1 ?_
      refine zJ_goto (t := 24) d_Mo_head_13 (by decide) ?_
      cases h
      exact zS_ireturn d_Mo_head_24 rfl rfl ⟨rfl, rfl⟩
theorem t_Mo_way_b172 {D : va_G} {tt : ClassId × ClassId × ClassId} {a : Nat → Nat} {d N : Nat} (hd : 0 ≤ d) {z : Int32 × zMem} {k13 : Int32 → Int32 → Int32 → Int32 → zMem → Option (Int32 × zMem)} (hk13 : ∀ (x1 x3 x4 x5 : Int32) (o2 o6 o7 : Option Value) (M : zMem), k13 x1 x3 x4 x5 M = some z → zS (zEn D tt) zshp a mz_Mo_way d zTr (zFs (zEn D tt) zshp a (zRv z)) 13 [some (.ref (a 45)), some (.int x1), o2, some (.int x3), some (.int x4), some (.int x5), o6, o7] [] M) {x1 : Int32} {x3 : Int32} {x4 : Int32} {s0 : Int32} {o2 : Option Value} {o5 : Option Value} {o6 : Option Value} {o7 : Option Value} {M : zMem} (h : f_Mo_way_b172 N k13 x1 x3 x4 s0 M = some z) : zS (zEn D tt) zshp a mz_Mo_way d zTr (zFs (zEn D tt) zshp a (zRv z)) 172 [some (.ref (a 45)), some (.int x1), o2, some (.int x3), some (.int x4), o5, o6, o7] [.int s0] M := by
  unfold f_Mo_way_b172 at h
  refine zS_istore (n := 174) (j := 5) (x' := s0) d_Mo_way_172 rfl (Nat.le_of_ble_eq_true rfl) rfl ?_
  refine zJ_goto (t := 13) d_Mo_way_174 (by decide) ?_
  exact hk13 _ _ _ _ _ _ _ _ h
theorem t_Mo_way_b155 {D : va_G} {tt : ClassId × ClassId × ClassId} {a : Nat → Nat} {d N : Nat} (hd : 0 ≤ d) {z : Int32 × zMem} {k13 : Int32 → Int32 → Int32 → Int32 → zMem → Option (Int32 × zMem)} (hk13 : ∀ (x1 x3 x4 x5 : Int32) (o2 o6 o7 : Option Value) (M : zMem), k13 x1 x3 x4 x5 M = some z → zS (zEn D tt) zshp a mz_Mo_way d zTr (zFs (zEn D tt) zshp a (zRv z)) 13 [some (.ref (a 45)), some (.int x1), o2, some (.int x3), some (.int x4), some (.int x5), o6, o7] [] M) {x1 : Int32} {x3 : Int32} {x5 : Int32} {x6 : Int32} {x7 : Int32} {s0 : Int32} {o2 : Option Value} {o4 : Option Value} {M : zMem} (h : f_Mo_way_b155 N k13 x1 x3 x5 x6 x7 s0 M = some z) : zS (zEn D tt) zshp a mz_Mo_way d zTr (zFs (zEn D tt) zshp a (zRv z)) 155 [some (.ref (a 45)), some (.int x1), o2, some (.int x3), o4, some (.int x5), some (.int x6), some (.int x7)] [.int s0] M := by
  unfold f_Mo_way_b155 at h
  refine zS_istore (n := 157) (j := 4) (x' := s0) d_Mo_way_155 rfl (Nat.le_of_ble_eq_true rfl) rfl ?_
  refine zJ_iload (n := 159) (j := 7) (x := x7) d_Mo_way_157 rfl rfl ?_
  refine zJ_if_eq (t := 170) (n := 162) d_Mo_way_159 (by decide) rfl (fun hc => ?_) (fun hc => ?_)
  · rw [if_pos hc] at h
    refine zJ_iload (n := 172) (j := 6) (x := x6) d_Mo_way_170 rfl rfl ?_
    exact t_Mo_way_b172 hd hk13 h
  · rw [if_neg hc] at h
    refine zJ_iload (n := 164) (j := 5) (x := x5) d_Mo_way_162 rfl rfl ?_
    refine zJ_iload (n := 166) (j := 6) (x := x6) d_Mo_way_164 rfl rfl ?_
    refine zJ_isub (n := 167) d_Mo_way_166 rfl ?_
    refine zJ_goto (t := 172) d_Mo_way_167 (by decide) ?_
    exact t_Mo_way_b172 hd hk13 h
theorem t_Mo_way_b129 {D : va_G} {tt : ClassId × ClassId × ClassId} {a : Nat → Nat} {d N : Nat} (hd : 0 ≤ d) {z : Int32 × zMem} {k13 : Int32 → Int32 → Int32 → Int32 → zMem → Option (Int32 × zMem)} (hk13 : ∀ (x1 x3 x4 x5 : Int32) (o2 o6 o7 : Option Value) (M : zMem), k13 x1 x3 x4 x5 M = some z → zS (zEn D tt) zshp a mz_Mo_way d zTr (zFs (zEn D tt) zshp a (zRv z)) 13 [some (.ref (a 45)), some (.int x1), o2, some (.int x3), some (.int x4), some (.int x5), o6, o7] [] M) {x1 : Int32} {x3 : Int32} {x4 : Int32} {x5 : Int32} {x6 : Int32} {x7 : Int32} {s1 : Int32} {s2 : Int32} {o2 : Option Value} {M : zMem} (h : f_Mo_way_b129 N k13 x1 x3 x4 x5 x6 x7 s1 s2 M = some z) : zS (zEn D tt) zshp a mz_Mo_way d zTr (zFs (zEn D tt) zshp a (zRv z)) 129 [some (.ref (a 45)), some (.int x1), o2, some (.int x3), some (.int x4), some (.int x5), some (.int x6), some (.int x7)] [.int s2, .int s1, .ref (a 66)] M := by
  unfold f_Mo_way_b129 at h
  obtain ⟨g129, h⟩ := zgd h
  obtain ⟨M129, hM129, h⟩ := zli h
  refine zS_iastN (n := 130) (k0 := 66) d_Mo_way_129 rfl rfl rfl rfl g129 hM129 ?_
  refine zJ_aload_n (n := 131) (j := 0) (x := a 45) d_Mo_way_130 rfl rfl rfl ?_
  refine zJ_dup (n := 132) d_Mo_way_131 rfl rfl ?_
  refine zS_geti (n := 135) (k0 := 45) (j := 25) d_Mo_way_132 rfl (fl_Mo_165 D tt) rfl rfl ?_
  refine zJ_iconst (n := 136) (v := 1) d_Mo_way_135 rfl zci_1 ?_
  refine zJ_iadd (n := 137) d_Mo_way_136 rfl ?_
  obtain ⟨M137, hM137, h⟩ := zli h
  refine zS_putN (n := 140) (k0 := 45) (j := 25) d_Mo_way_137 rfl (fl_Mo_165 D tt) zty_Mo rfl rfl rfl rfl rfl hM137 ?_
  refine zJ_iload (n := 142) (j := 7) (x := x7) d_Mo_way_140 rfl rfl ?_
  refine zJ_if_eq (t := 153) (n := 145) d_Mo_way_142 (by decide) rfl (fun hc => ?_) (fun hc => ?_)
  · rw [if_pos hc] at h
    refine zJ_iload (n := 155) (j := 4) (x := x4) d_Mo_way_153 rfl rfl ?_
    exact t_Mo_way_b155 hd hk13 h
  · rw [if_neg hc] at h
    refine zJ_iload (n := 147) (j := 4) (x := x4) d_Mo_way_145 rfl rfl ?_
    refine zJ_iload (n := 149) (j := 6) (x := x6) d_Mo_way_147 rfl rfl ?_
    refine zJ_iadd (n := 150) d_Mo_way_149 rfl ?_
    refine zJ_goto (t := 155) d_Mo_way_150 (by decide) ?_
    exact t_Mo_way_b155 hd hk13 h
theorem t_Mo_way_b105 {D : va_G} {tt : ClassId × ClassId × ClassId} {a : Nat → Nat} {d N : Nat} (hd : 0 ≤ d) {z : Int32 × zMem} {k13 : Int32 → Int32 → Int32 → Int32 → zMem → Option (Int32 × zMem)} (hk13 : ∀ (x1 x3 x4 x5 : Int32) (o2 o6 o7 : Option Value) (M : zMem), k13 x1 x3 x4 x5 M = some z → zS (zEn D tt) zshp a mz_Mo_way d zTr (zFs (zEn D tt) zshp a (zRv z)) 13 [some (.ref (a 45)), some (.int x1), o2, some (.int x3), some (.int x4), some (.int x5), o6, o7] [] M) {x1 : Int32} {x3 : Int32} {x4 : Int32} {x5 : Int32} {x6 : Int32} {x7 : Int32} {s1 : Int32} {s2 : Int32} {o2 : Option Value} {M : zMem} (h : f_Mo_way_b105 N k13 x1 x3 x4 x5 x6 x7 s1 s2 M = some z) : zS (zEn D tt) zshp a mz_Mo_way d zTr (zFs (zEn D tt) zshp a (zRv z)) 105 [some (.ref (a 45)), some (.int x1), o2, some (.int x3), some (.int x4), some (.int x5), some (.int x6), some (.int x7)] [.int s2, .int s1, .ref (a 65)] M := by
  unfold f_Mo_way_b105 at h
  obtain ⟨g105, h⟩ := zgd h
  obtain ⟨M105, hM105, h⟩ := zli h
  refine zS_iastN (n := 106) (k0 := 65) d_Mo_way_105 rfl rfl rfl rfl g105 hM105 ?_
  refine zJ_aload_n (n := 107) (j := 0) (x := a 45) d_Mo_way_106 rfl rfl rfl ?_
  refine zS_getr (n := 110) (k0 := 45) (j := 28) (q := 66) d_Mo_way_107 rfl (fl_Mo_71 D tt) rfl rfl ?_
  refine zJ_aload_n (n := 111) (j := 0) (x := a 45) d_Mo_way_110 rfl rfl rfl ?_
  refine zS_geti (n := 114) (k0 := 45) (j := 25) d_Mo_way_111 rfl (fl_Mo_165 D tt) rfl rfl ?_
  refine zJ_iload (n := 116) (j := 7) (x := x7) d_Mo_way_114 rfl rfl ?_
  refine zJ_if_eq (t := 124) (n := 119) d_Mo_way_116 (by decide) rfl (fun hc => ?_) (fun hc => ?_)
  · rw [if_pos hc] at h
    refine zJ_iload (n := 126) (j := 5) (x := x5) d_Mo_way_124 rfl rfl ?_
    refine zJ_iload (n := 128) (j := 6) (x := x6) d_Mo_way_126 rfl rfl ?_
    refine zJ_isub (n := 129) d_Mo_way_128 rfl ?_
    exact t_Mo_way_b129 hd hk13 h
  · rw [if_neg hc] at h
    refine zJ_iload (n := 121) (j := 6) (x := x6) d_Mo_way_119 rfl rfl ?_
    refine zJ_goto (t := 129) d_Mo_way_121 (by decide) ?_
    exact t_Mo_way_b129 hd hk13 h
theorem t_Mo_way_b69 {D : va_G} {tt : ClassId × ClassId × ClassId} {a : Nat → Nat} {d N : Nat} (hd : 0 ≤ d) {z : Int32 × zMem} {k13 : Int32 → Int32 → Int32 → Int32 → zMem → Option (Int32 × zMem)} (hk13 : ∀ (x1 x3 x4 x5 : Int32) (o2 o6 o7 : Option Value) (M : zMem), k13 x1 x3 x4 x5 M = some z → zS (zEn D tt) zshp a mz_Mo_way d zTr (zFs (zEn D tt) zshp a (zRv z)) 13 [some (.ref (a 45)), some (.int x1), o2, some (.int x3), some (.int x4), some (.int x5), o6, o7] [] M) {x1 : Int32} {x3 : Int32} {x4 : Int32} {x5 : Int32} {x6 : Int32} {s0 : Int32} {o2 : Option Value} {o7 : Option Value} {M : zMem} (h : f_Mo_way_b69 N k13 x1 x3 x4 x5 x6 s0 M = some z) : zS (zEn D tt) zshp a mz_Mo_way d zTr (zFs (zEn D tt) zshp a (zRv z)) 69 [some (.ref (a 45)), some (.int x1), o2, some (.int x3), some (.int x4), some (.int x5), some (.int x6), o7] [.int s0] M := by
  unfold f_Mo_way_b69 at h
  refine zS_istore (n := 71) (j := 7) (x' := s0) d_Mo_way_69 rfl (Nat.le_of_ble_eq_true rfl) rfl ?_
  refine zJ_aload_n (n := 72) (j := 0) (x := a 45) d_Mo_way_71 rfl rfl rfl ?_
  refine zS_getr (n := 75) (k0 := 45) (j := 26) (q := 64) d_Mo_way_72 rfl (fl_Mo_65 D tt) rfl rfl ?_
  refine zJ_aload_n (n := 76) (j := 0) (x := a 45) d_Mo_way_75 rfl rfl rfl ?_
  refine zS_geti (n := 79) (k0 := 45) (j := 25) d_Mo_way_76 rfl (fl_Mo_165 D tt) rfl rfl ?_
  refine zJ_iload (n := 81) (j := 7) (x := s0) d_Mo_way_79 rfl rfl ?_
  obtain ⟨g81, h⟩ := zgd h
  obtain ⟨gz81, h⟩ := zgd h
  obtain ⟨M81, hM81, h⟩ := zli h
  refine zS_zastN (n := 82) (k0 := 64) d_Mo_way_81 rfl rfl rfl rfl g81 (zbool_vp gz81) hM81 ?_
  refine zJ_aload_n (n := 83) (j := 0) (x := a 45) d_Mo_way_82 rfl rfl rfl ?_
  refine zS_getr (n := 86) (k0 := 45) (j := 27) (q := 65) d_Mo_way_83 rfl (fl_Mo_68 D tt) rfl rfl ?_
  refine zJ_aload_n (n := 87) (j := 0) (x := a 45) d_Mo_way_86 rfl rfl rfl ?_
  refine zS_geti (n := 90) (k0 := 45) (j := 25) d_Mo_way_87 rfl (fl_Mo_165 D tt) rfl rfl ?_
  refine zJ_iload (n := 92) (j := 7) (x := s0) d_Mo_way_90 rfl rfl ?_
  refine zJ_if_eq (t := 100) (n := 95) d_Mo_way_92 (by decide) rfl (fun hc => ?_) (fun hc => ?_)
  · rw [if_pos hc] at h
    refine zJ_iload (n := 102) (j := 4) (x := x4) d_Mo_way_100 rfl rfl ?_
    refine zJ_iload (n := 104) (j := 6) (x := x6) d_Mo_way_102 rfl rfl ?_
    refine zJ_iadd (n := 105) d_Mo_way_104 rfl ?_
    exact t_Mo_way_b105 hd hk13 h
  · rw [if_neg hc] at h
    refine zJ_iload (n := 97) (j := 4) (x := x4) d_Mo_way_95 rfl rfl ?_
    refine zJ_goto (t := 105) d_Mo_way_97 (by decide) ?_
    exact t_Mo_way_b105 hd hk13 h
theorem t_Mo_way_l37 {D : va_G} {tt : ClassId × ClassId × ClassId} {a : Nat → Nat} {d N : Nat} (hd : 0 ≤ d) {z : Int32 × zMem} {k13 : Int32 → Int32 → Int32 → Int32 → zMem → Option (Int32 × zMem)} (hk13 : ∀ (x1 x3 x4 x5 : Int32) (o2 o6 o7 : Option Value) (M : zMem), k13 x1 x3 x4 x5 M = some z → zS (zEn D tt) zshp a mz_Mo_way d zTr (zFs (zEn D tt) zshp a (zRv z)) 13 [some (.ref (a 45)), some (.int x1), o2, some (.int x3), some (.int x4), some (.int x5), o6, o7] [] M) : ∀ (n : Nat), ∀ (x1 x3 x4 x5 x6 : Int32) (o2 o7 : Option Value) (M : zMem), f_Mo_way_l37 N k13 n x1 x3 x4 x5 x6 M = some z → zS (zEn D tt) zshp a mz_Mo_way d zTr (zFs (zEn D tt) zshp a (zRv z)) 37 [some (.ref (a 45)), some (.int x1), o2, some (.int x3), some (.int x4), some (.int x5), some (.int x6), o7] [] M := by
  intro n
  induction n with
  | zero =>
    intro x1 x3 x4 x5 x6 o2 o7 M h
    rw [f_Mo_way_l37] at h
    cases h
  | succ n ih =>
    intro x1 x3 x4 x5 x6 o2 o7 M h
    rw [f_Mo_way_l37] at h
    refine zJ_iconst (n := 38) (v := 2) d_Mo_way_37 rfl zci_2 ?_
    refine zJ_iload (n := 40) (j := 6) (x := x6) d_Mo_way_38 rfl rfl ?_
    refine zJ_imul (n := 41) d_Mo_way_40 rfl ?_
    refine zJ_iload (n := 43) (j := 5) (x := x5) d_Mo_way_41 rfl rfl ?_
    refine zJ_icmp_ge (t := 55) (n := 46) d_Mo_way_43 (by decide) rfl (fun hc => ?_) (fun hc => ?_)
    · rw [if_pos hc] at h
      refine zJ_iload_n (n := 56) (j := 1) (x := x1) d_Mo_way_55 rfl rfl rfl ?_
      refine zJ_iload (n := 58) (j := 4) (x := x4) d_Mo_way_56 rfl rfl ?_
      refine zJ_iload (n := 60) (j := 6) (x := x6) d_Mo_way_58 rfl rfl ?_
      refine zJ_iadd (n := 61) d_Mo_way_60 rfl ?_
      refine zJ_icmp_lt (t := 68) (n := 64) d_Mo_way_61 (by decide) rfl (fun hc => ?_) (fun hc => ?_)
      · rw [if_pos hc] at h
        refine zJ_iconst (n := 69) (v := 0) d_Mo_way_68 rfl zci_0 ?_
        exact t_Mo_way_b69 hd hk13 h
      · rw [if_neg hc] at h
        refine zJ_iconst (n := 65) (v := 1) d_Mo_way_64 rfl zci_1 ?_
        refine zJ_goto (t := 69) d_Mo_way_65 (by decide) ?_
        exact t_Mo_way_b69 hd hk13 h
    · rw [if_neg hc] at h
      refine zJ_iconst (n := 47) (v := 2) d_Mo_way_46 rfl zci_2 ?_
      refine zJ_iload (n := 49) (j := 6) (x := x6) d_Mo_way_47 rfl rfl ?_
      refine zJ_imul (n := 50) d_Mo_way_49 rfl ?_
      obtain ⟨v50, hv50, h⟩ := zli h
      refine zS_istore (n := 52) (j := 6) (x' := v50) d_Mo_way_50 rfl (Nat.le_of_ble_eq_true rfl) hv50 ?_
      refine zJ_goto (t := 37) d_Mo_way_52 (by decide) ?_
      exact ih _ _ _ _ _ _ _ _ h
theorem t_Mo_way_b34 {D : va_G} {tt : ClassId × ClassId × ClassId} {a : Nat → Nat} {d N : Nat} (hd : 0 ≤ d) {z : Int32 × zMem} {k13 : Int32 → Int32 → Int32 → Int32 → zMem → Option (Int32 × zMem)} (hk13 : ∀ (x1 x3 x4 x5 : Int32) (o2 o6 o7 : Option Value) (M : zMem), k13 x1 x3 x4 x5 M = some z → zS (zEn D tt) zshp a mz_Mo_way d zTr (zFs (zEn D tt) zshp a (zRv z)) 13 [some (.ref (a 45)), some (.int x1), o2, some (.int x3), some (.int x4), some (.int x5), o6, o7] [] M) {x1 : Int32} {x3 : Int32} {x4 : Int32} {x5 : Int32} {o2 : Option Value} {o6 : Option Value} {o7 : Option Value} {M : zMem} (h : f_Mo_way_b34 N k13 x1 x3 x4 x5 M = some z) : zS (zEn D tt) zshp a mz_Mo_way d zTr (zFs (zEn D tt) zshp a (zRv z)) 34 [some (.ref (a 45)), some (.int x1), o2, some (.int x3), some (.int x4), some (.int x5), o6, o7] [] M := by
  unfold f_Mo_way_b34 at h
  refine zJ_iconst (n := 35) (v := 1) d_Mo_way_34 rfl zci_1 ?_
  refine zS_istore (n := 37) (j := 6) (x' := (1 : Int32)) d_Mo_way_35 rfl (Nat.le_of_ble_eq_true rfl) rfl ?_
  exact t_Mo_way_l37 hd hk13 N _ _ _ _ _ _ _ _ h
theorem t_Mo_way_l13 {D : va_G} {tt : ClassId × ClassId × ClassId} {a : Nat → Nat} {d N : Nat} (hd : 0 ≤ d) {z : Int32 × zMem} : ∀ (n : Nat), ∀ (x1 x3 x4 x5 : Int32) (o2 o6 o7 : Option Value) (M : zMem), f_Mo_way_l13 N n x1 x3 x4 x5 M = some z → zS (zEn D tt) zshp a mz_Mo_way d zTr (zFs (zEn D tt) zshp a (zRv z)) 13 [some (.ref (a 45)), some (.int x1), o2, some (.int x3), some (.int x4), some (.int x5), o6, o7] [] M := by
  intro n
  induction n with
  | zero =>
    intro x1 x3 x4 x5 o2 o6 o7 M h
    rw [f_Mo_way_l13] at h
    cases h
  | succ n ih =>
    intro x1 x3 x4 x5 o2 o6 o7 M h
    rw [f_Mo_way_l13] at h
    refine zJ_iload (n := 15) (j := 5) (x := x5) d_Mo_way_13 rfl rfl ?_
    refine zJ_iconst (n := 16) (v := 1) d_Mo_way_15 rfl zci_1 ?_
    refine zJ_icmp_le (t := 177) (n := 19) d_Mo_way_16 (by decide) rfl (fun hc => ?_) (fun hc => ?_)
    · rw [if_pos hc] at h
      refine zJ_aload_n (n := 178) (j := 0) (x := a 45) d_Mo_way_177 rfl rfl rfl ?_
      refine zJ_iload (n := 180) (j := 4) (x := x4) d_Mo_way_178 rfl rfl ?_
      obtain ⟨M180, hM180, h⟩ := zli h
      refine zS_putN (n := 183) (k0 := 45) (j := 29) d_Mo_way_180 rfl (fl_Mo_168 D tt) zty_Mo rfl rfl rfl rfl rfl hM180 ?_
      refine zJ_aload_n (n := 184) (j := 0) (x := a 45) d_Mo_way_183 rfl rfl rfl ?_
      refine zJ_iload (n := 186) (j := 5) (x := x5) d_Mo_way_184 rfl rfl ?_
      obtain ⟨M186, hM186, h⟩ := zli h
      refine zS_putN (n := 189) (k0 := 45) (j := 30) d_Mo_way_186 rfl (fl_Mo_171 D tt) zty_Mo rfl rfl rfl rfl rfl hM186 ?_
      cases h
      exact zS_return d_Mo_way_189 rfl ⟨rfl, rfl⟩
    · rw [if_neg hc] at h
      refine zJ_iload_n (n := 20) (j := 3) (x := x3) d_Mo_way_19 rfl rfl rfl ?_
      refine zJ_if_eq (t := 34) (n := 23) d_Mo_way_20 (by decide) rfl (fun hc => ?_) (fun hc => ?_)
      · rw [if_pos hc] at h
        exact t_Mo_way_b34 hd ih h
      · rw [if_neg hc] at h
        refine zJ_iload (n := 25) (j := 4) (x := x4) d_Mo_way_23 rfl rfl ?_
        refine zJ_iload (n := 27) (j := 5) (x := x5) d_Mo_way_25 rfl rfl ?_
        refine zJ_iadd (n := 28) d_Mo_way_27 rfl ?_
        refine zJ_iconst (n := 29) (v := 1) d_Mo_way_28 rfl zci_1 ?_
        refine zJ_isub (n := 30) d_Mo_way_29 rfl ?_
        refine zJ_iload_n (n := 31) (j := 1) (x := x1) d_Mo_way_30 rfl rfl rfl ?_
        refine zJ_icmp_le (t := 177) (n := 34) d_Mo_way_31 (by decide) rfl (fun hc => ?_) (fun hc => ?_)
        · rw [if_pos hc] at h
          refine zJ_aload_n (n := 178) (j := 0) (x := a 45) d_Mo_way_177 rfl rfl rfl ?_
          refine zJ_iload (n := 180) (j := 4) (x := x4) d_Mo_way_178 rfl rfl ?_
          obtain ⟨M180, hM180, h⟩ := zli h
          refine zS_putN (n := 183) (k0 := 45) (j := 29) d_Mo_way_180 rfl (fl_Mo_168 D tt) zty_Mo rfl rfl rfl rfl rfl hM180 ?_
          refine zJ_aload_n (n := 184) (j := 0) (x := a 45) d_Mo_way_183 rfl rfl rfl ?_
          refine zJ_iload (n := 186) (j := 5) (x := x5) d_Mo_way_184 rfl rfl ?_
          obtain ⟨M186, hM186, h⟩ := zli h
          refine zS_putN (n := 189) (k0 := 45) (j := 30) d_Mo_way_186 rfl (fl_Mo_171 D tt) zty_Mo rfl rfl rfl rfl rfl hM186 ?_
          cases h
          exact zS_return d_Mo_way_189 rfl ⟨rfl, rfl⟩
        · rw [if_neg hc] at h
          exact t_Mo_way_b34 hd ih h
theorem t_Mo_way {D : va_G} {tt : ClassId × ClassId × ClassId} {a : Nat → Nat} {d N : Nat} (hd : 0 ≤ d) {x1 : Int32} {x2 : Int32} {x3 : Int32} {M : zMem} {z : Int32 × zMem} (h : f_Mo_way N x1 x2 x3 M = some z) : zK (zEn D tt) zshp a mz_Mo_way d [.ref (a 45), .int x1, .int x2, .int x3] M (zRv z) := by
  refine zK.enter (L := [some (.ref (a 45)), some (.int x1), some (.int x2), some (.int x3), none, none, none, none]) (by decide) rfl (Nat.le_of_ble_eq_true rfl) rfl ?_
  unfold f_Mo_way at h
  refine zJ_iconst (n := 1) (v := 0) d_Mo_way_0 rfl zci_0 ?_
  refine zS_istore (n := 3) (j := 4) (x' := (0 : Int32)) d_Mo_way_1 rfl (Nat.le_of_ble_eq_true rfl) rfl ?_
  refine zJ_iload_n (n := 4) (j := 2) (x := x2) d_Mo_way_3 rfl rfl rfl ?_
  refine zJ_iconst (n := 5) (v := 1) d_Mo_way_4 rfl zci_1 ?_
  refine zJ_iadd (n := 6) d_Mo_way_5 rfl ?_
  obtain ⟨v6, hv6, h⟩ := zli h
  refine zS_istore (n := 8) (j := 5) (x' := v6) d_Mo_way_6 rfl (Nat.le_of_ble_eq_true rfl) hv6 ?_
  refine zJ_aload_n (n := 9) (j := 0) (x := a 45) d_Mo_way_8 rfl rfl rfl ?_
  refine zJ_iconst (n := 10) (v := 0) d_Mo_way_9 rfl zci_0 ?_
  obtain ⟨M10, hM10, h⟩ := zli h
  refine zS_putN (n := 13) (k0 := 45) (j := 25) d_Mo_way_10 rfl (fl_Mo_165 D tt) zty_Mo rfl rfl rfl rfl rfl hM10 ?_
  exact t_Mo_way_l13 hd N _ _ _ _ _ _ _ _ h
theorem t_Mo_add {D : va_G} {tt : ClassId × ClassId × ClassId} {a : Nat → Nat} {d N : Nat} (hd : 0 ≤ d) {x1 : Int32} {x2 : Int32} {M : zMem} {z : Int32 × zMem} (h : f_Mo_add N x1 x2 M = some z) : zK (zEn D tt) zshp a mz_Mo_add d [.ref (a 45), .int x1, .int x2] M (zRv z) := by
  refine zK.enter (L := [some (.ref (a 45)), some (.int x1), some (.int x2)]) (by decide) rfl (Nat.le_of_ble_eq_true rfl) rfl ?_
  unfold f_Mo_add at h
  refine zJ_aload_n (n := 1) (j := 0) (x := a 45) d_Mo_add_0 rfl rfl rfl ?_
  refine zS_getr (n := 4) (k0 := 45) (j := 19) (q := 60) d_Mo_add_1 rfl (fl_Mo_53 D tt) rfl rfl ?_
  refine zJ_bipush (n := 6) (v := 30) d_Mo_add_4 rfl zcb_30 ?_
  refine zJ_iload_n (n := 7) (j := 1) (x := x1) d_Mo_add_6 rfl rfl rfl ?_
  refine zJ_imul (n := 8) d_Mo_add_7 rfl ?_
  refine zJ_aload_n (n := 9) (j := 0) (x := a 45) d_Mo_add_8 rfl rfl rfl ?_
  refine zS_getr (n := 12) (k0 := 45) (j := 20) (q := 61) d_Mo_add_9 rfl (fl_Mo_56 D tt) rfl rfl ?_
  refine zJ_iload_n (n := 13) (j := 1) (x := x1) d_Mo_add_12 rfl rfl rfl ?_
  obtain ⟨g13, h⟩ := zgd h
  refine zS_iald (n := 14) (k0 := 61) d_Mo_add_13 rfl rfl rfl rfl g13 ?_
  refine zJ_iadd (n := 15) d_Mo_add_14 rfl ?_
  refine zJ_iload_n (n := 16) (j := 2) (x := x2) d_Mo_add_15 rfl rfl rfl ?_
  obtain ⟨g16, h⟩ := zgd h
  obtain ⟨M16, hM16, h⟩ := zli h
  refine zS_iastN (n := 17) (k0 := 60) d_Mo_add_16 rfl rfl rfl rfl g16 hM16 ?_
  refine zJ_aload_n (n := 18) (j := 0) (x := a 45) d_Mo_add_17 rfl rfl rfl ?_
  refine zS_getr (n := 21) (k0 := 45) (j := 20) (q := 61) d_Mo_add_18 rfl (fl_Mo_56 D tt) rfl rfl ?_
  refine zJ_iload_n (n := 22) (j := 1) (x := x1) d_Mo_add_21 rfl rfl rfl ?_
  refine zJ_dup2 (n := 23) d_Mo_add_22 rfl rfl rfl ?_
  obtain ⟨g23, h⟩ := zgd h
  refine zS_iald (n := 24) (k0 := 61) d_Mo_add_23 rfl rfl rfl rfl g23 ?_
  refine zJ_iconst (n := 25) (v := 1) d_Mo_add_24 rfl zci_1 ?_
  refine zJ_iadd (n := 26) d_Mo_add_25 rfl ?_
  obtain ⟨g26, h⟩ := zgd h
  obtain ⟨M26, hM26, h⟩ := zli h
  refine zS_iastN (n := 27) (k0 := 61) d_Mo_add_26 rfl rfl rfl rfl g26 hM26 ?_
  cases h
  exact zS_return d_Mo_add_27 rfl ⟨rfl, rfl⟩
theorem t_Mo_lookup_l106 {D : va_G} {tt : ClassId × ClassId × ClassId} {a : Nat → Nat} {d N : Nat} (hd : 2 ≤ d) {z : Int32 × zMem} : ∀ (n : Nat), ∀ (x1 x2 x3 x4 x5 x6 x7 : Int32) (o8 : Option Value) (M : zMem), f_Mo_lookup_l106 N n x1 x2 x3 x4 x5 x6 x7 M = some z → zS (zEn D tt) zshp a mz_Mo_lookup d zTr (zFs (zEn D tt) zshp a (zRi z)) 106 [some (.ref (a 45)), some (.int x1), some (.int x2), some (.int x3), some (.int x4), some (.int x5), some (.int x6), some (.int x7), o8] [] M := by
  intro n
  induction n with
  | zero =>
    intro x1 x2 x3 x4 x5 x6 x7 o8 M h
    rw [f_Mo_lookup_l106] at h
    cases h
  | succ n ih =>
    intro x1 x2 x3 x4 x5 x6 x7 o8 M h
    rw [f_Mo_lookup_l106] at h
    refine zJ_iload (n := 108) (j := 7) (x := x7) d_Mo_lookup_106 rfl rfl ?_
    refine zJ_iload (n := 110) (j := 5) (x := x5) d_Mo_lookup_108 rfl rfl ?_
    refine zJ_icmp_ge (t := 159) (n := 113) d_Mo_lookup_110 (by decide) rfl (fun hc => ?_) (fun hc => ?_)
    · rw [if_pos hc] at h
      refine zJ_aload_n (n := 160) (j := 0) (x := a 45) d_Mo_lookup_159 rfl rfl rfl ?_
      refine zJ_iload (n := 162) (j := 5) (x := x5) d_Mo_lookup_160 rfl rfl ?_
      refine zJ_aload_n (n := 163) (j := 0) (x := a 45) d_Mo_lookup_162 rfl rfl rfl ?_
      refine zS_getr (n := 166) (k0 := 45) (j := 6) (q := 50) d_Mo_lookup_163 rfl (fl_Mo_23 D tt) rfl rfl ?_
      refine zJ_iload (n := 168) (j := 4) (x := x4) d_Mo_lookup_166 rfl rfl ?_
      obtain ⟨g168, h⟩ := zgd h
      refine zS_iald (n := 169) (k0 := 50) d_Mo_lookup_168 rfl rfl rfl rfl g168 ?_
      refine zJ_iadd (n := 170) d_Mo_lookup_169 rfl ?_
      obtain ⟨M170, hM170, h⟩ := zli h
      refine zS_putN (n := 173) (k0 := 45) (j := 22) d_Mo_lookup_170 rfl (fl_Mo_181 D tt) zty_Mo rfl rfl rfl rfl rfl hM170 ?_
      refine zJ_aload_n (n := 174) (j := 0) (x := a 45) d_Mo_lookup_173 rfl rfl rfl ?_
      refine zS_getr (n := 177) (k0 := 45) (j := 8) (q := 52) d_Mo_lookup_174 rfl (fl_Mo_29 D tt) rfl rfl ?_
      refine zJ_iload (n := 179) (j := 4) (x := x4) d_Mo_lookup_177 rfl rfl ?_
      obtain ⟨g179, h⟩ := zgd h
      refine zS_iald (n := 180) (k0 := 52) d_Mo_lookup_179 rfl rfl rfl rfl g179 ?_
      refine zJ_iload_n (n := 181) (j := 2) (x := x2) d_Mo_lookup_180 rfl rfl rfl ?_
      refine zJ_icmp_ne (t := 198) (n := 184) d_Mo_lookup_181 (by decide) rfl (fun hc => ?_) (fun hc => ?_)
      · rw [if_neg hc] at h
        refine zJ_iconst (n := 199) (v := 0) d_Mo_lookup_198 rfl zci_0 ?_
        cases h
        exact zS_ireturn d_Mo_lookup_199 rfl rfl ⟨rfl, rfl⟩
      · rw [if_pos hc] at h
        refine zJ_aload_n (n := 185) (j := 0) (x := a 45) d_Mo_lookup_184 rfl rfl rfl ?_
        refine zS_getr (n := 188) (k0 := 45) (j := 1) (q := 46) d_Mo_lookup_185 rfl (fl_Mo_7 D tt) rfl rfl ?_
        refine zJ_bipush (n := 190) (v := 64) d_Mo_lookup_188 rfl zcb_64 ?_
        refine zJ_iload_n (n := 191) (j := 3) (x := x3) d_Mo_lookup_190 rfl rfl rfl ?_
        refine zJ_imul (n := 192) d_Mo_lookup_191 rfl ?_
        refine zJ_iload_n (n := 193) (j := 2) (x := x2) d_Mo_lookup_192 rfl rfl rfl ?_
        refine zJ_iadd (n := 194) d_Mo_lookup_193 rfl ?_
        obtain ⟨g194, h⟩ := zgd h
        refine zS_iald (n := 195) (k0 := 46) d_Mo_lookup_194 rfl rfl rfl rfl g194 ?_
        refine zJ_goto (t := 199) d_Mo_lookup_195 (by decide) ?_
        cases h
        exact zS_ireturn d_Mo_lookup_199 rfl rfl ⟨rfl, rfl⟩
    · rw [if_neg hc] at h
      refine zJ_iconst (n := 114) (v := 2) d_Mo_lookup_113 rfl zci_2 ?_
      refine zJ_iload (n := 116) (j := 6) (x := x6) d_Mo_lookup_114 rfl rfl ?_
      refine zJ_imul (n := 117) d_Mo_lookup_116 rfl ?_
      refine zJ_iconst (n := 118) (v := 1) d_Mo_lookup_117 rfl zci_1 ?_
      refine zJ_iadd (n := 119) d_Mo_lookup_118 rfl ?_
      refine zJ_iload_n (n := 120) (j := 2) (x := x2) d_Mo_lookup_119 rfl rfl rfl ?_
      refine zJ_iload (n := 122) (j := 7) (x := x7) d_Mo_lookup_120 rfl rfl ?_
      obtain ⟨q122, hq122, h⟩ := zbd h
      refine zS_callSi (n := 125) (avs := [.int x2, .int x7]) (rest := [.int (((2 : Int32) * x6) + (1 : Int32))]) (z := q122) (d' := d - 1) d_Mo_lookup_122 rfl (sk_Mo_174 D tt) rfl rfl (Nat.le_of_ble_eq_true rfl) (by omega) (t_Mo_bit (by omega) hq122) ?_
      refine zJ_isub (n := 126) d_Mo_lookup_125 rfl ?_
      obtain ⟨v126, hv126, h⟩ := zli h
      refine zS_istore (n := 128) (j := 8) (x' := v126) d_Mo_lookup_126 rfl (Nat.le_of_ble_eq_true rfl) hv126 ?_
      refine zJ_aload_n (n := 129) (j := 0) (x := a 45) d_Mo_lookup_128 rfl rfl rfl ?_
      refine zJ_iload_n (n := 130) (j := 1) (x := x1) d_Mo_lookup_129 rfl rfl rfl ?_
      refine zJ_aload_n (n := 131) (j := 0) (x := a 45) d_Mo_lookup_130 rfl rfl rfl ?_
      refine zS_getr (n := 134) (k0 := 45) (j := 7) (q := 51) d_Mo_lookup_131 rfl (fl_Mo_26 D tt) rfl rfl ?_
      refine zJ_iload (n := 136) (j := 8) (x := v126) d_Mo_lookup_134 rfl rfl ?_
      obtain ⟨g136, h⟩ := zgd h
      refine zS_iald (n := 137) (k0 := 51) d_Mo_lookup_136 rfl rfl rfl rfl g136 ?_
      obtain ⟨q137, hq137, h⟩ := zbd h
      refine zS_callVv (n := 140) (k0 := 45) (avs := [.int x1, .int (q122.2 51 v126.toNatClampNeg)]) (rest := []) (z := q137) (d' := d - 1) d_Mo_lookup_137 rfl (vk_Mo_177 D tt) rfl rfl rfl (Nat.le_of_ble_eq_true rfl) (by omega) (t_Mo_add (by omega) hq137) ?_
      refine zJ_iconst (n := 141) (v := 2) d_Mo_lookup_140 rfl zci_2 ?_
      refine zJ_iload (n := 143) (j := 6) (x := x6) d_Mo_lookup_141 rfl rfl ?_
      refine zJ_imul (n := 144) d_Mo_lookup_143 rfl ?_
      refine zJ_iload_n (n := 145) (j := 2) (x := x2) d_Mo_lookup_144 rfl rfl rfl ?_
      refine zJ_iload (n := 147) (j := 7) (x := x7) d_Mo_lookup_145 rfl rfl ?_
      obtain ⟨q147, hq147, h⟩ := zbd h
      refine zS_callSi (n := 150) (avs := [.int x2, .int x7]) (rest := [.int ((2 : Int32) * x6)]) (z := q147) (d' := d - 1) d_Mo_lookup_147 rfl (sk_Mo_174 D tt) rfl rfl (Nat.le_of_ble_eq_true rfl) (by omega) (t_Mo_bit (by omega) hq147) ?_
      refine zJ_iadd (n := 151) d_Mo_lookup_150 rfl ?_
      obtain ⟨v151, hv151, h⟩ := zli h
      refine zS_istore (n := 153) (j := 6) (x' := v151) d_Mo_lookup_151 rfl (Nat.le_of_ble_eq_true rfl) hv151 ?_
      obtain ⟨v153, hv153, h⟩ := zli h
      refine zS_iinc (n := 156) (j := 7) (x := x7) (v := 1) (x' := v153) d_Mo_lookup_153 rfl rfl zci_1 (Nat.le_of_ble_eq_true rfl) hv153 ?_
      refine zJ_goto (t := 106) d_Mo_lookup_156 (by decide) ?_
      exact ih _ _ _ _ _ _ _ _ _ h
theorem t_Mo_lookup_b97 {D : va_G} {tt : ClassId × ClassId × ClassId} {a : Nat → Nat} {d N : Nat} (hd : 2 ≤ d) {z : Int32 × zMem} {x1 : Int32} {x2 : Int32} {x3 : Int32} {x4 : Int32} {x5 : Int32} {s1 : Int32} {s2 : Int32} {o6 : Option Value} {o7 : Option Value} {o8 : Option Value} {M : zMem} (h : f_Mo_lookup_b97 N x1 x2 x3 x4 x5 s1 s2 M = some z) : zS (zEn D tt) zshp a mz_Mo_lookup d zTr (zFs (zEn D tt) zshp a (zRi z)) 97 [some (.ref (a 45)), some (.int x1), some (.int x2), some (.int x3), some (.int x4), some (.int x5), o6, o7, o8] [.int s2, .int s1, .ref (a 45)] M := by
  unfold f_Mo_lookup_b97 at h
  obtain ⟨q97, hq97, h⟩ := zbd h
  refine zS_callVv (n := 100) (k0 := 45) (avs := [.int s1, .int s2]) (rest := []) (z := q97) (d' := d - 1) d_Mo_lookup_97 rfl (vk_Mo_177 D tt) rfl rfl rfl (Nat.le_of_ble_eq_true rfl) (by omega) (t_Mo_add (by omega) hq97) ?_
  refine zJ_iconst (n := 101) (v := 1) d_Mo_lookup_100 rfl zci_1 ?_
  refine zS_istore (n := 103) (j := 6) (x' := (1 : Int32)) d_Mo_lookup_101 rfl (Nat.le_of_ble_eq_true rfl) rfl ?_
  refine zJ_iconst (n := 104) (v := 0) d_Mo_lookup_103 rfl zci_0 ?_
  refine zS_istore (n := 106) (j := 7) (x' := (0 : Int32)) d_Mo_lookup_104 rfl (Nat.le_of_ble_eq_true rfl) rfl ?_
  exact t_Mo_lookup_l106 hd N _ _ _ _ _ _ _ _ _ h
theorem t_Mo_lookup_l14 {D : va_G} {tt : ClassId × ClassId × ClassId} {a : Nat → Nat} {d N : Nat} (hd : 2 ≤ d) {z : Int32 × zMem} : ∀ (n : Nat), ∀ (x1 x2 x3 x4 x5 : Int32) (o6 o7 o8 : Option Value) (M : zMem), f_Mo_lookup_l14 N n x1 x2 x3 x4 x5 M = some z → zS (zEn D tt) zshp a mz_Mo_lookup d zTr (zFs (zEn D tt) zshp a (zRi z)) 14 [some (.ref (a 45)), some (.int x1), some (.int x2), some (.int x3), some (.int x4), some (.int x5), o6, o7, o8] [] M := by
  intro n
  induction n with
  | zero =>
    intro x1 x2 x3 x4 x5 o6 o7 o8 M h
    rw [f_Mo_lookup_l14] at h
    cases h
  | succ n ih =>
    intro x1 x2 x3 x4 x5 o6 o7 o8 M h
    rw [f_Mo_lookup_l14] at h
    refine zJ_aload_n (n := 15) (j := 0) (x := a 45) d_Mo_lookup_14 rfl rfl rfl ?_
    refine zS_getr (n := 18) (k0 := 45) (j := 6) (q := 50) d_Mo_lookup_15 rfl (fl_Mo_23 D tt) rfl rfl ?_
    refine zJ_iload (n := 20) (j := 4) (x := x4) d_Mo_lookup_18 rfl rfl ?_
    obtain ⟨g20, h⟩ := zgd h
    refine zS_iald (n := 21) (k0 := 50) d_Mo_lookup_20 rfl rfl rfl rfl g20 ?_
    refine zJ_iconst (n := 22) (v := 1) d_Mo_lookup_21 rfl zci_1 ?_
    refine zJ_icmp_le (t := 44) (n := 25) d_Mo_lookup_22 (by decide) rfl (fun hc => ?_) (fun hc => ?_)
    · rw [if_pos hc] at h
      refine zJ_aload_n (n := 45) (j := 0) (x := a 45) d_Mo_lookup_44 rfl rfl rfl ?_
      refine zJ_iload_n (n := 46) (j := 1) (x := x1) d_Mo_lookup_45 rfl rfl rfl ?_
      refine zJ_iload (n := 48) (j := 5) (x := x5) d_Mo_lookup_46 rfl rfl ?_
      obtain ⟨q48, hq48, h⟩ := zbd h
      refine zS_callVv (n := 51) (k0 := 45) (avs := [.int x1, .int x5]) (rest := []) (z := q48) (d' := d - 1) d_Mo_lookup_48 rfl (vk_Mo_177 D tt) rfl rfl rfl (Nat.le_of_ble_eq_true rfl) (by omega) (t_Mo_add (by omega) hq48) ?_
      refine zJ_aload_n (n := 52) (j := 0) (x := a 45) d_Mo_lookup_51 rfl rfl rfl ?_
      refine zJ_iload_n (n := 53) (j := 1) (x := x1) d_Mo_lookup_52 rfl rfl rfl ?_
      refine zJ_aload_n (n := 54) (j := 0) (x := a 45) d_Mo_lookup_53 rfl rfl rfl ?_
      refine zS_getr (n := 57) (k0 := 45) (j := 8) (q := 52) d_Mo_lookup_54 rfl (fl_Mo_29 D tt) rfl rfl ?_
      refine zJ_iload (n := 59) (j := 4) (x := x4) d_Mo_lookup_57 rfl rfl ?_
      obtain ⟨g59, h⟩ := zgd h
      refine zS_iald (n := 60) (k0 := 52) d_Mo_lookup_59 rfl rfl rfl rfl g59 ?_
      obtain ⟨q60, hq60, h⟩ := zbd h
      refine zS_callVv (n := 63) (k0 := 45) (avs := [.int x1, .int (q48.2 52 x4.toNatClampNeg)]) (rest := []) (z := q60) (d' := d - 1) d_Mo_lookup_60 rfl (vk_Mo_177 D tt) rfl rfl rfl (Nat.le_of_ble_eq_true rfl) (by omega) (t_Mo_add (by omega) hq60) ?_
      refine zJ_aload_n (n := 64) (j := 0) (x := a 45) d_Mo_lookup_63 rfl rfl rfl ?_
      refine zJ_iload_n (n := 65) (j := 1) (x := x1) d_Mo_lookup_64 rfl rfl rfl ?_
      refine zJ_aload_n (n := 66) (j := 0) (x := a 45) d_Mo_lookup_65 rfl rfl rfl ?_
      refine zS_getr (n := 69) (k0 := 45) (j := 6) (q := 50) d_Mo_lookup_66 rfl (fl_Mo_23 D tt) rfl rfl ?_
      refine zJ_iload (n := 71) (j := 4) (x := x4) d_Mo_lookup_69 rfl rfl ?_
      obtain ⟨g71, h⟩ := zgd h
      refine zS_iald (n := 72) (k0 := 50) d_Mo_lookup_71 rfl rfl rfl rfl g71 ?_
      refine zJ_iconst (n := 73) (v := 1) d_Mo_lookup_72 rfl zci_1 ?_
      refine zJ_icmp_ne (t := 96) (n := 76) d_Mo_lookup_73 (by decide) rfl (fun hc => ?_) (fun hc => ?_)
      · rw [if_neg hc] at h
        refine zJ_iconst (n := 97) (v := 0) d_Mo_lookup_96 rfl zci_0 ?_
        exact t_Mo_lookup_b97 hd h
      · rw [if_pos hc] at h
        refine zJ_aload_n (n := 77) (j := 0) (x := a 45) d_Mo_lookup_76 rfl rfl rfl ?_
        refine zS_getr (n := 80) (k0 := 45) (j := 1) (q := 46) d_Mo_lookup_77 rfl (fl_Mo_7 D tt) rfl rfl ?_
        refine zJ_bipush (n := 82) (v := 64) d_Mo_lookup_80 rfl zcb_64 ?_
        refine zJ_iload_n (n := 83) (j := 3) (x := x3) d_Mo_lookup_82 rfl rfl rfl ?_
        refine zJ_imul (n := 84) d_Mo_lookup_83 rfl ?_
        refine zJ_aload_n (n := 85) (j := 0) (x := a 45) d_Mo_lookup_84 rfl rfl rfl ?_
        refine zS_getr (n := 88) (k0 := 45) (j := 8) (q := 52) d_Mo_lookup_85 rfl (fl_Mo_29 D tt) rfl rfl ?_
        refine zJ_iload (n := 90) (j := 4) (x := x4) d_Mo_lookup_88 rfl rfl ?_
        obtain ⟨g90, h⟩ := zgd h
        refine zS_iald (n := 91) (k0 := 52) d_Mo_lookup_90 rfl rfl rfl rfl g90 ?_
        refine zJ_iadd (n := 92) d_Mo_lookup_91 rfl ?_
        obtain ⟨g92, h⟩ := zgd h
        refine zS_iald (n := 93) (k0 := 46) d_Mo_lookup_92 rfl rfl rfl rfl g92 ?_
        refine zJ_goto (t := 97) d_Mo_lookup_93 (by decide) ?_
        exact t_Mo_lookup_b97 hd h
    · rw [if_neg hc] at h
      refine zJ_iconst (n := 26) (v := 2) d_Mo_lookup_25 rfl zci_2 ?_
      refine zJ_iload (n := 28) (j := 4) (x := x4) d_Mo_lookup_26 rfl rfl ?_
      refine zJ_imul (n := 29) d_Mo_lookup_28 rfl ?_
      refine zJ_iload_n (n := 30) (j := 2) (x := x2) d_Mo_lookup_29 rfl rfl rfl ?_
      refine zJ_iload (n := 32) (j := 5) (x := x5) d_Mo_lookup_30 rfl rfl ?_
      obtain ⟨q32, hq32, h⟩ := zbd h
      refine zS_callSi (n := 35) (avs := [.int x2, .int x5]) (rest := [.int ((2 : Int32) * x4)]) (z := q32) (d' := d - 1) d_Mo_lookup_32 rfl (sk_Mo_174 D tt) rfl rfl (Nat.le_of_ble_eq_true rfl) (by omega) (t_Mo_bit (by omega) hq32) ?_
      refine zJ_iadd (n := 36) d_Mo_lookup_35 rfl ?_
      obtain ⟨v36, hv36, h⟩ := zli h
      refine zS_istore (n := 38) (j := 4) (x' := v36) d_Mo_lookup_36 rfl (Nat.le_of_ble_eq_true rfl) hv36 ?_
      obtain ⟨v38, hv38, h⟩ := zli h
      refine zS_iinc (n := 41) (j := 5) (x := x5) (v := 1) (x' := v38) d_Mo_lookup_38 rfl rfl zci_1 (Nat.le_of_ble_eq_true rfl) hv38 ?_
      refine zJ_goto (t := 14) d_Mo_lookup_41 (by decide) ?_
      exact ih _ _ _ _ _ _ _ _ _ h
theorem t_Mo_lookup {D : va_G} {tt : ClassId × ClassId × ClassId} {a : Nat → Nat} {d N : Nat} (hd : 2 ≤ d) {x1 : Int32} {x2 : Int32} {x3 : Int32} {M : zMem} {z : Int32 × zMem} (h : f_Mo_lookup N x1 x2 x3 M = some z) : zK (zEn D tt) zshp a mz_Mo_lookup d [.ref (a 45), .int x1, .int x2, .int x3] M (zRi z) := by
  refine zK.enter (L := [some (.ref (a 45)), some (.int x1), some (.int x2), some (.int x3), none, none, none, none, none]) (by decide) rfl (Nat.le_of_ble_eq_true rfl) rfl ?_
  unfold f_Mo_lookup at h
  refine zJ_aload_n (n := 1) (j := 0) (x := a 45) d_Mo_lookup_0 rfl rfl rfl ?_
  refine zJ_bipush (n := 3) (v := 64) d_Mo_lookup_1 rfl zcb_64 ?_
  refine zJ_iload_n (n := 4) (j := 3) (x := x3) d_Mo_lookup_3 rfl rfl rfl ?_
  refine zJ_imul (n := 5) d_Mo_lookup_4 rfl ?_
  obtain ⟨q5, hq5, h⟩ := zbd h
  refine zS_callVv (n := 8) (k0 := 45) (avs := [.int ((64 : Int32) * x3)]) (rest := []) (z := q5) (d' := d - 1) d_Mo_lookup_5 rfl (vk_Mo_148 D tt) rfl rfl rfl (Nat.le_of_ble_eq_true rfl) (by omega) (t_Mo_grow (by omega) hq5) ?_
  refine zJ_iconst (n := 9) (v := 1) d_Mo_lookup_8 rfl zci_1 ?_
  refine zS_istore (n := 11) (j := 4) (x' := (1 : Int32)) d_Mo_lookup_9 rfl (Nat.le_of_ble_eq_true rfl) rfl ?_
  refine zJ_iconst (n := 12) (v := 0) d_Mo_lookup_11 rfl zci_0 ?_
  refine zS_istore (n := 14) (j := 5) (x' := (0 : Int32)) d_Mo_lookup_12 rfl (Nat.le_of_ble_eq_true rfl) rfl ?_
  exact t_Mo_lookup_l14 hd N _ _ _ _ _ _ _ _ _ h
theorem t_Mo_prove_b204 {D : va_G} {tt : ClassId × ClassId × ClassId} {a : Nat → Nat} {d N : Nat} (hd : 3 ≤ d) {z : Int32 × zMem} {x1 : Int32} {x2 : Int32} {x6 : Int32} {o3 : Option Value} {o4 : Option Value} {o5 : Option Value} {o7 : Option Value} {o8 : Option Value} {M : zMem} (h : f_Mo_prove_b204 N x1 x2 x6 M = some z) : zS (zEn D tt) zshp a mz_Mo_prove d zTr (zFs (zEn D tt) zshp a (zRi z)) 204 [some (.ref (a 45)), some (.int x1), some (.int x2), o3, o4, o5, some (.int x6), o7, o8] [] M := by
  unfold f_Mo_prove_b204 at h
  refine zJ_aload_n (n := 205) (j := 0) (x := a 45) d_Mo_prove_204 rfl rfl rfl ?_
  refine zJ_aload_n (n := 206) (j := 0) (x := a 45) d_Mo_prove_205 rfl rfl rfl ?_
  refine zS_getr (n := 209) (k0 := 45) (j := 20) (q := 61) d_Mo_prove_206 rfl (fl_Mo_56 D tt) rfl rfl ?_
  refine zJ_iload_n (n := 210) (j := 1) (x := x1) d_Mo_prove_209 rfl rfl rfl ?_
  obtain ⟨g210, h⟩ := zgd h
  refine zS_iald (n := 211) (k0 := 61) d_Mo_prove_210 rfl rfl rfl rfl g210 ?_
  obtain ⟨M211, hM211, h⟩ := zli h
  refine zS_putN (n := 214) (k0 := 45) (j := 21) d_Mo_prove_211 rfl (fl_Mo_191 D tt) zty_Mo rfl rfl rfl rfl rfl hM211 ?_
  refine zJ_iload_n (n := 215) (j := 2) (x := x2) d_Mo_prove_214 rfl rfl rfl ?_
  refine zJ_if_ne (t := 223) (n := 218) d_Mo_prove_215 (by decide) rfl (fun hc => ?_) (fun hc => ?_)
  · rw [if_neg hc] at h
    refine zJ_aload_n (n := 224) (j := 0) (x := a 45) d_Mo_prove_223 rfl rfl rfl ?_
    refine zS_geti (n := 227) (k0 := 45) (j := 21) d_Mo_prove_224 rfl (fl_Mo_191 D tt) rfl rfl ?_
    cases h
    exact zS_ireturn d_Mo_prove_227 rfl rfl ⟨rfl, rfl⟩
  · rw [if_pos hc] at h
    refine zJ_iload (n := 220) (j := 6) (x := x6) d_Mo_prove_218 rfl rfl ?_
    refine zJ_goto (t := 227) d_Mo_prove_220 (by decide) ?_
    cases h
    exact zS_ireturn d_Mo_prove_227 rfl rfl ⟨rfl, rfl⟩
theorem t_Mo_prove_l166 {D : va_G} {tt : ClassId × ClassId × ClassId} {a : Nat → Nat} {d N : Nat} (hd : 3 ≤ d) {z : Int32 × zMem} : ∀ (n : Nat), ∀ (x1 x2 x6 x7 : Int32) (o3 o4 o5 o8 : Option Value) (M : zMem), f_Mo_prove_l166 N n x1 x2 x6 x7 M = some z → zS (zEn D tt) zshp a mz_Mo_prove d zTr (zFs (zEn D tt) zshp a (zRi z)) 166 [some (.ref (a 45)), some (.int x1), some (.int x2), o3, o4, o5, some (.int x6), some (.int x7), o8] [] M := by
  intro n
  induction n with
  | zero =>
    intro x1 x2 x6 x7 o3 o4 o5 o8 M h
    rw [f_Mo_prove_l166] at h
    cases h
  | succ n ih =>
    intro x1 x2 x6 x7 o3 o4 o5 o8 M h
    rw [f_Mo_prove_l166] at h
    refine zJ_iload (n := 168) (j := 7) (x := x7) d_Mo_prove_166 rfl rfl ?_
    refine zJ_if_lt (t := 204) (n := 171) d_Mo_prove_168 (by decide) rfl (fun hc => ?_) (fun hc => ?_)
    · rw [if_pos hc] at h
      exact t_Mo_prove_b204 hd h
    · rw [if_neg hc] at h
      refine zJ_aload_n (n := 172) (j := 0) (x := a 45) d_Mo_prove_171 rfl rfl rfl ?_
      refine zJ_aload_n (n := 173) (j := 0) (x := a 45) d_Mo_prove_172 rfl rfl rfl ?_
      refine zS_getr (n := 176) (k0 := 45) (j := 27) (q := 65) d_Mo_prove_173 rfl (fl_Mo_68 D tt) rfl rfl ?_
      refine zJ_iload (n := 178) (j := 7) (x := x7) d_Mo_prove_176 rfl rfl ?_
      obtain ⟨g178, h⟩ := zgd h
      refine zS_iald (n := 179) (k0 := 65) d_Mo_prove_178 rfl rfl rfl rfl g178 ?_
      refine zJ_aload_n (n := 180) (j := 0) (x := a 45) d_Mo_prove_179 rfl rfl rfl ?_
      refine zS_getr (n := 183) (k0 := 45) (j := 28) (q := 66) d_Mo_prove_180 rfl (fl_Mo_71 D tt) rfl rfl ?_
      refine zJ_iload (n := 185) (j := 7) (x := x7) d_Mo_prove_183 rfl rfl ?_
      obtain ⟨g185, h⟩ := zgd h
      refine zS_iald (n := 186) (k0 := 66) d_Mo_prove_185 rfl rfl rfl rfl g185 ?_
      obtain ⟨q186, hq186, h⟩ := zbd h
      refine zS_callVi (n := 189) (k0 := 45) (avs := [.int (M 65 x7.toNatClampNeg), .int (M 66 x7.toNatClampNeg)]) (rest := []) (z := q186) (d' := d - 1) d_Mo_prove_186 rfl (vk_Mo_161 D tt) rfl rfl rfl (Nat.le_of_ble_eq_true rfl) (by omega) (t_Mo_row (by omega) hq186) ?_
      refine zS_istore (n := 191) (j := 8) (x' := q186.1) d_Mo_prove_189 rfl (Nat.le_of_ble_eq_true rfl) rfl ?_
      refine zJ_aload_n (n := 192) (j := 0) (x := a 45) d_Mo_prove_191 rfl rfl rfl ?_
      refine zJ_iload_n (n := 193) (j := 1) (x := x1) d_Mo_prove_192 rfl rfl rfl ?_
      refine zJ_iload (n := 195) (j := 8) (x := q186.1) d_Mo_prove_193 rfl rfl ?_
      obtain ⟨q195, hq195, h⟩ := zbd h
      refine zS_callVv (n := 198) (k0 := 45) (avs := [.int x1, .int q186.1]) (rest := []) (z := q195) (d' := d - 1) d_Mo_prove_195 rfl (vk_Mo_177 D tt) rfl rfl rfl (Nat.le_of_ble_eq_true rfl) (by omega) (t_Mo_add (by omega) hq195) ?_
      obtain ⟨v198, hv198, h⟩ := zli h
      refine zS_iinc (n := 201) (j := 7) (x := x7) (v := -1) (x' := v198) d_Mo_prove_198 rfl rfl zci_m1 (Nat.le_of_ble_eq_true rfl) hv198 ?_
      refine zJ_goto (t := 166) d_Mo_prove_201 (by decide) ?_
      exact ih _ _ _ _ _ _ _ _ _ h
theorem t_Mo_prove_b158 {D : va_G} {tt : ClassId × ClassId × ClassId} {a : Nat → Nat} {d N : Nat} (hd : 3 ≤ d) {z : Int32 × zMem} {x1 : Int32} {x2 : Int32} {x6 : Int32} {o3 : Option Value} {o4 : Option Value} {o5 : Option Value} {o7 : Option Value} {o8 : Option Value} {M : zMem} (h : f_Mo_prove_b158 N x1 x2 x6 M = some z) : zS (zEn D tt) zshp a mz_Mo_prove d zTr (zFs (zEn D tt) zshp a (zRi z)) 158 [some (.ref (a 45)), some (.int x1), some (.int x2), o3, o4, o5, some (.int x6), o7, o8] [] M := by
  unfold f_Mo_prove_b158 at h
  refine zJ_aload_n (n := 159) (j := 0) (x := a 45) d_Mo_prove_158 rfl rfl rfl ?_
  refine zS_geti (n := 162) (k0 := 45) (j := 25) d_Mo_prove_159 rfl (fl_Mo_165 D tt) rfl rfl ?_
  refine zJ_iconst (n := 163) (v := 1) d_Mo_prove_162 rfl zci_1 ?_
  refine zJ_isub (n := 164) d_Mo_prove_163 rfl ?_
  obtain ⟨v164, hv164, h⟩ := zli h
  refine zS_istore (n := 166) (j := 7) (x' := v164) d_Mo_prove_164 rfl (Nat.le_of_ble_eq_true rfl) hv164 ?_
  exact t_Mo_prove_l166 hd N _ _ _ _ _ _ _ _ _ h
theorem t_Mo_prove_b122 {D : va_G} {tt : ClassId × ClassId × ClassId} {a : Nat → Nat} {d N : Nat} (hd : 3 ≤ d) {z : Int32 × zMem} {x1 : Int32} {x2 : Int32} {x6 : Int32} {s1 : Int32} {s2 : Int32} {s3 : Int32} {o3 : Option Value} {o4 : Option Value} {o5 : Option Value} {o7 : Option Value} {o8 : Option Value} {M : zMem} (h : f_Mo_prove_b122 N x1 x2 x6 s1 s2 s3 M = some z) : zS (zEn D tt) zshp a mz_Mo_prove d zTr (zFs (zEn D tt) zshp a (zRi z)) 122 [some (.ref (a 45)), some (.int x1), some (.int x2), o3, o4, o5, some (.int x6), o7, o8] [.int s3, .int s2, .int s1, .ref (a 45)] M := by
  unfold f_Mo_prove_b122 at h
  obtain ⟨q122, hq122, h⟩ := zbd h
  refine zS_callVv (n := 125) (k0 := 45) (avs := [.int s1, .int s2, .int s3]) (rest := []) (z := q122) (d' := d - 1) d_Mo_prove_122 rfl (vk_Mo_187 D tt) rfl rfl rfl (Nat.le_of_ble_eq_true rfl) (by omega) (t_Mo_way (by omega) hq122) ?_
  refine zJ_iload_n (n := 126) (j := 2) (x := x2) d_Mo_prove_125 rfl rfl rfl ?_
  refine zJ_iconst (n := 127) (v := 2) d_Mo_prove_126 rfl zci_2 ?_
  refine zJ_icmp_ne (t := 158) (n := 130) d_Mo_prove_127 (by decide) rfl (fun hc => ?_) (fun hc => ?_)
  · rw [if_neg hc] at h
    exact t_Mo_prove_b158 hd h
  · rw [if_pos hc] at h
    refine zJ_aload_n (n := 131) (j := 0) (x := a 45) d_Mo_prove_130 rfl rfl rfl ?_
    refine zS_geti (n := 134) (k0 := 45) (j := 29) d_Mo_prove_131 rfl (fl_Mo_168 D tt) rfl rfl ?_
    refine zJ_if_le (t := 158) (n := 137) d_Mo_prove_134 (by decide) rfl (fun hc => ?_) (fun hc => ?_)
    · rw [if_pos hc] at h
      exact t_Mo_prove_b158 hd h
    · rw [if_neg hc] at h
      refine zJ_aload_n (n := 138) (j := 0) (x := a 45) d_Mo_prove_137 rfl rfl rfl ?_
      refine zJ_aload_n (n := 139) (j := 0) (x := a 45) d_Mo_prove_138 rfl rfl rfl ?_
      refine zS_geti (n := 142) (k0 := 45) (j := 29) d_Mo_prove_139 rfl (fl_Mo_168 D tt) rfl rfl ?_
      refine zJ_aload_n (n := 143) (j := 0) (x := a 45) d_Mo_prove_142 rfl rfl rfl ?_
      refine zS_geti (n := 146) (k0 := 45) (j := 30) d_Mo_prove_143 rfl (fl_Mo_171 D tt) rfl rfl ?_
      obtain ⟨q146, hq146, h⟩ := zbd h
      refine zS_callVi (n := 149) (k0 := 45) (avs := [.int (q122.2 45 29), .int (q122.2 45 30)]) (rest := []) (z := q146) (d' := d - 1) d_Mo_prove_146 rfl (vk_Mo_161 D tt) rfl rfl rfl (Nat.le_of_ble_eq_true rfl) (by omega) (t_Mo_row (by omega) hq146) ?_
      refine zS_istore (n := 151) (j := 7) (x' := q146.1) d_Mo_prove_149 rfl (Nat.le_of_ble_eq_true rfl) rfl ?_
      refine zJ_aload_n (n := 152) (j := 0) (x := a 45) d_Mo_prove_151 rfl rfl rfl ?_
      refine zJ_iload_n (n := 153) (j := 1) (x := x1) d_Mo_prove_152 rfl rfl rfl ?_
      refine zJ_iload (n := 155) (j := 7) (x := q146.1) d_Mo_prove_153 rfl rfl ?_
      obtain ⟨q155, hq155, h⟩ := zbd h
      refine zS_callVv (n := 158) (k0 := 45) (avs := [.int x1, .int q146.1]) (rest := []) (z := q155) (d' := d - 1) d_Mo_prove_155 rfl (vk_Mo_177 D tt) rfl rfl rfl (Nat.le_of_ble_eq_true rfl) (by omega) (t_Mo_add (by omega) hq155) ?_
      exact t_Mo_prove_b158 hd h
theorem t_Mo_prove_b81 {D : va_G} {tt : ClassId × ClassId × ClassId} {a : Nat → Nat} {d N : Nat} (hd : 3 ≤ d) {z : Int32 × zMem} {x1 : Int32} {x2 : Int32} {x3 : Int32} {x4 : Int32} {o5 : Option Value} {o6 : Option Value} {o7 : Option Value} {o8 : Option Value} {M : zMem} (h : f_Mo_prove_b81 N x1 x2 x3 x4 M = some z) : zS (zEn D tt) zshp a mz_Mo_prove d zTr (zFs (zEn D tt) zshp a (zRi z)) 81 [some (.ref (a 45)), some (.int x1), some (.int x2), some (.int x3), some (.int x4), o5, o6, o7, o8] [] M := by
  unfold f_Mo_prove_b81 at h
  refine zJ_aload_n (n := 82) (j := 0) (x := a 45) d_Mo_prove_81 rfl rfl rfl ?_
  refine zS_getr (n := 85) (k0 := 45) (j := 20) (q := 61) d_Mo_prove_82 rfl (fl_Mo_56 D tt) rfl rfl ?_
  refine zJ_iload_n (n := 86) (j := 1) (x := x1) d_Mo_prove_85 rfl rfl rfl ?_
  refine zJ_iconst (n := 87) (v := 0) d_Mo_prove_86 rfl zci_0 ?_
  obtain ⟨g87, h⟩ := zgd h
  obtain ⟨M87, hM87, h⟩ := zli h
  refine zS_iastN (n := 88) (k0 := 61) d_Mo_prove_87 rfl rfl rfl rfl g87 hM87 ?_
  refine zJ_iconst (n := 89) (v := 0) d_Mo_prove_88 rfl zci_0 ?_
  refine zS_istore (n := 91) (j := 6) (x' := (0 : Int32)) d_Mo_prove_89 rfl (Nat.le_of_ble_eq_true rfl) rfl ?_
  refine zJ_iload_n (n := 92) (j := 2) (x := x2) d_Mo_prove_91 rfl rfl rfl ?_
  refine zJ_if_ne (t := 108) (n := 95) d_Mo_prove_92 (by decide) rfl (fun hc => ?_) (fun hc => ?_)
  · rw [if_neg hc] at h
    refine zJ_aload_n (n := 109) (j := 0) (x := a 45) d_Mo_prove_108 rfl rfl rfl ?_
    refine zJ_iload_n (n := 110) (j := 3) (x := x3) d_Mo_prove_109 rfl rfl rfl ?_
    refine zJ_iload (n := 112) (j := 4) (x := x4) d_Mo_prove_110 rfl rfl ?_
    refine zJ_iload_n (n := 113) (j := 2) (x := x2) d_Mo_prove_112 rfl rfl rfl ?_
    refine zJ_iconst (n := 114) (v := 2) d_Mo_prove_113 rfl zci_2 ?_
    refine zJ_icmp_ne (t := 121) (n := 117) d_Mo_prove_114 (by decide) rfl (fun hc => ?_) (fun hc => ?_)
    · rw [if_neg hc] at h
      refine zJ_iconst (n := 122) (v := 0) d_Mo_prove_121 rfl zci_0 ?_
      exact t_Mo_prove_b122 hd h
    · rw [if_pos hc] at h
      refine zJ_iconst (n := 118) (v := 1) d_Mo_prove_117 rfl zci_1 ?_
      refine zJ_goto (t := 122) d_Mo_prove_118 (by decide) ?_
      exact t_Mo_prove_b122 hd h
  · rw [if_pos hc] at h
    refine zJ_aload_n (n := 96) (j := 0) (x := a 45) d_Mo_prove_95 rfl rfl rfl ?_
    refine zJ_iload_n (n := 97) (j := 1) (x := x1) d_Mo_prove_96 rfl rfl rfl ?_
    refine zJ_iload_n (n := 98) (j := 3) (x := x3) d_Mo_prove_97 rfl rfl rfl ?_
    refine zJ_iload (n := 100) (j := 4) (x := x4) d_Mo_prove_98 rfl rfl ?_
    obtain ⟨q100, hq100, h⟩ := zbd h
    refine zS_callVi (n := 103) (k0 := 45) (avs := [.int x1, .int x3, .int x4]) (rest := []) (z := q100) (d' := d - 1) d_Mo_prove_100 rfl (vk_Mo_184 D tt) rfl rfl rfl (Nat.le_of_ble_eq_true rfl) (by omega) (t_Mo_lookup (by omega) hq100) ?_
    refine zS_istore (n := 105) (j := 6) (x' := q100.1) d_Mo_prove_103 rfl (Nat.le_of_ble_eq_true rfl) rfl ?_
    refine zJ_goto (t := 204) d_Mo_prove_105 (by decide) ?_
    exact t_Mo_prove_b204 hd h
theorem t_Mo_prove_b65 {D : va_G} {tt : ClassId × ClassId × ClassId} {a : Nat → Nat} {d N : Nat} (hd : 3 ≤ d) {z : Int32 × zMem} {x1 : Int32} {x2 : Int32} {x3 : Int32} {x4 : Int32} {o5 : Option Value} {o6 : Option Value} {o7 : Option Value} {o8 : Option Value} {M : zMem} (h : f_Mo_prove_b65 N x1 x2 x3 x4 M = some z) : zS (zEn D tt) zshp a mz_Mo_prove d zTr (zFs (zEn D tt) zshp a (zRi z)) 65 [some (.ref (a 45)), some (.int x1), some (.int x2), some (.int x3), some (.int x4), o5, o6, o7, o8] [] M := by
  unfold f_Mo_prove_b65 at h
  refine zJ_iload_n (n := 66) (j := 2) (x := x2) d_Mo_prove_65 rfl rfl rfl ?_
  refine zJ_if_le (t := 81) (n := 69) d_Mo_prove_66 (by decide) rfl (fun hc => ?_) (fun hc => ?_)
  · rw [if_pos hc] at h
    exact t_Mo_prove_b81 hd h
  · rw [if_neg hc] at h
    refine zJ_iload_n (n := 70) (j := 3) (x := x3) d_Mo_prove_69 rfl rfl rfl ?_
    refine zJ_if_lt (t := 79) (n := 73) d_Mo_prove_70 (by decide) rfl (fun hc => ?_) (fun hc => ?_)
    · rw [if_pos hc] at h
      refine zJ_iconst (n := 80) (v := -1) d_Mo_prove_79 rfl zci_m1 ?_
      cases h
      exact zS_ireturn d_Mo_prove_80 rfl rfl ⟨rfl, rfl⟩
    · rw [if_neg hc] at h
      refine zJ_iload_n (n := 74) (j := 3) (x := x3) d_Mo_prove_73 rfl rfl rfl ?_
      refine zJ_iload (n := 76) (j := 4) (x := x4) d_Mo_prove_74 rfl rfl ?_
      refine zJ_icmp_le (t := 81) (n := 79) d_Mo_prove_76 (by decide) rfl (fun hc => ?_) (fun hc => ?_)
      · rw [if_pos hc] at h
        exact t_Mo_prove_b81 hd h
      · rw [if_neg hc] at h
        refine zJ_iconst (n := 80) (v := -1) d_Mo_prove_79 rfl zci_m1 ?_
        cases h
        exact zS_ireturn d_Mo_prove_80 rfl rfl ⟨rfl, rfl⟩
theorem t_Mo_prove_b29 {D : va_G} {tt : ClassId × ClassId × ClassId} {a : Nat → Nat} {d N : Nat} (hd : 3 ≤ d) {z : Int32 × zMem} {x1 : Int32} {x2 : Int32} {x3 : Int32} {x4 : Int32} {s0 : Int32} {o5 : Option Value} {o6 : Option Value} {o7 : Option Value} {o8 : Option Value} {M : zMem} (h : f_Mo_prove_b29 N x1 x2 x3 x4 s0 M = some z) : zS (zEn D tt) zshp a mz_Mo_prove d zTr (zFs (zEn D tt) zshp a (zRi z)) 29 [some (.ref (a 45)), some (.int x1), some (.int x2), some (.int x3), some (.int x4), o5, o6, o7, o8] [.int s0] M := by
  unfold f_Mo_prove_b29 at h
  refine zS_istore (n := 31) (j := 5) (x' := s0) d_Mo_prove_29 rfl (Nat.le_of_ble_eq_true rfl) rfl ?_
  refine zJ_iload_n (n := 32) (j := 1) (x := x1) d_Mo_prove_31 rfl rfl rfl ?_
  refine zJ_if_lt (t := 79) (n := 35) d_Mo_prove_32 (by decide) rfl (fun hc => ?_) (fun hc => ?_)
  · rw [if_pos hc] at h
    refine zJ_iconst (n := 80) (v := -1) d_Mo_prove_79 rfl zci_m1 ?_
    cases h
    exact zS_ireturn d_Mo_prove_80 rfl rfl ⟨rfl, rfl⟩
  · rw [if_neg hc] at h
    refine zJ_iload_n (n := 36) (j := 1) (x := x1) d_Mo_prove_35 rfl rfl rfl ?_
    refine zJ_iconst (n := 37) (v := 3) d_Mo_prove_36 rfl zci_3 ?_
    refine zJ_icmp_gt (t := 79) (n := 40) d_Mo_prove_37 (by decide) rfl (fun hc => ?_) (fun hc => ?_)
    · rw [if_pos hc] at h
      refine zJ_iconst (n := 80) (v := -1) d_Mo_prove_79 rfl zci_m1 ?_
      cases h
      exact zS_ireturn d_Mo_prove_80 rfl rfl ⟨rfl, rfl⟩
    · rw [if_neg hc] at h
      refine zJ_iload_n (n := 41) (j := 2) (x := x2) d_Mo_prove_40 rfl rfl rfl ?_
      refine zJ_if_lt (t := 79) (n := 44) d_Mo_prove_41 (by decide) rfl (fun hc => ?_) (fun hc => ?_)
      · rw [if_pos hc] at h
        refine zJ_iconst (n := 80) (v := -1) d_Mo_prove_79 rfl zci_m1 ?_
        cases h
        exact zS_ireturn d_Mo_prove_80 rfl rfl ⟨rfl, rfl⟩
      · rw [if_neg hc] at h
        refine zJ_iload_n (n := 45) (j := 2) (x := x2) d_Mo_prove_44 rfl rfl rfl ?_
        refine zJ_iconst (n := 46) (v := 2) d_Mo_prove_45 rfl zci_2 ?_
        refine zJ_icmp_gt (t := 79) (n := 49) d_Mo_prove_46 (by decide) rfl (fun hc => ?_) (fun hc => ?_)
        · rw [if_pos hc] at h
          refine zJ_iconst (n := 80) (v := -1) d_Mo_prove_79 rfl zci_m1 ?_
          cases h
          exact zS_ireturn d_Mo_prove_80 rfl rfl ⟨rfl, rfl⟩
        · rw [if_neg hc] at h
          refine zJ_iload (n := 51) (j := 5) (x := s0) d_Mo_prove_49 rfl rfl ?_
          refine zJ_if_eq (t := 79) (n := 54) d_Mo_prove_51 (by decide) rfl (fun hc => ?_) (fun hc => ?_)
          · rw [if_pos hc] at h
            refine zJ_iconst (n := 80) (v := -1) d_Mo_prove_79 rfl zci_m1 ?_
            cases h
            exact zS_ireturn d_Mo_prove_80 rfl rfl ⟨rfl, rfl⟩
          · rw [if_neg hc] at h
            refine zJ_iload_n (n := 55) (j := 2) (x := x2) d_Mo_prove_54 rfl rfl rfl ?_
            refine zJ_if_ne (t := 65) (n := 58) d_Mo_prove_55 (by decide) rfl (fun hc => ?_) (fun hc => ?_)
            · rw [if_neg hc] at h
              exact t_Mo_prove_b65 hd h
            · rw [if_pos hc] at h
              refine zJ_iload_n (n := 59) (j := 3) (x := x3) d_Mo_prove_58 rfl rfl rfl ?_
              obtain ⟨q59, hq59, h⟩ := zbd h
              refine zS_callSi (n := 62) (avs := [.int x3]) (rest := []) (z := q59) (d' := d - 1) d_Mo_prove_59 rfl (sk_Mo_110 D tt) rfl rfl (Nat.le_of_ble_eq_true rfl) (by omega) (t_Mo_isName (by omega) hq59) ?_
              refine zJ_if_eq (t := 79) (n := 65) d_Mo_prove_62 (by decide) rfl (fun hc => ?_) (fun hc => ?_)
              · rw [if_pos hc] at h
                refine zJ_iconst (n := 80) (v := -1) d_Mo_prove_79 rfl zci_m1 ?_
                cases h
                exact zS_ireturn d_Mo_prove_80 rfl rfl ⟨rfl, rfl⟩
              · rw [if_neg hc] at h
                exact t_Mo_prove_b65 hd h
theorem t_Mo_prove_b28 {D : va_G} {tt : ClassId × ClassId × ClassId} {a : Nat → Nat} {d N : Nat} (hd : 3 ≤ d) {z : Int32 × zMem} {x1 : Int32} {x2 : Int32} {x3 : Int32} {x4 : Int32} {o5 : Option Value} {o6 : Option Value} {o7 : Option Value} {o8 : Option Value} {M : zMem} (h : f_Mo_prove_b28 N x1 x2 x3 x4 M = some z) : zS (zEn D tt) zshp a mz_Mo_prove d zTr (zFs (zEn D tt) zshp a (zRi z)) 28 [some (.ref (a 45)), some (.int x1), some (.int x2), some (.int x3), some (.int x4), o5, o6, o7, o8] [] M := by
  unfold f_Mo_prove_b28 at h
  refine zJ_iconst (n := 29) (v := 0) d_Mo_prove_28 rfl zci_0 ?_
  exact t_Mo_prove_b29 hd h
theorem t_Mo_prove {D : va_G} {tt : ClassId × ClassId × ClassId} {a : Nat → Nat} {d N : Nat} (hd : 3 ≤ d) {x1 : Int32} {x2 : Int32} {x3 : Int32} {x4 : Int32} {M : zMem} {z : Int32 × zMem} (h : f_Mo_prove N x1 x2 x3 x4 M = some z) : zK (zEn D tt) zshp a mz_Mo_prove d [.ref (a 45), .int x1, .int x2, .int x3, .int x4] M (zRi z) := by
  refine zK.enter (L := [some (.ref (a 45)), some (.int x1), some (.int x2), some (.int x3), some (.int x4), none, none, none, none]) (by decide) rfl (Nat.le_of_ble_eq_true rfl) rfl ?_
  unfold f_Mo_prove at h
  refine zJ_aload_n (n := 1) (j := 0) (x := a 45) d_Mo_prove_0 rfl rfl rfl ?_
  refine zS_geti (n := 4) (k0 := 45) (j := 18) d_Mo_prove_1 rfl (fl_Mo_106 D tt) rfl rfl ?_
  refine zJ_if_eq (t := 10) (n := 7) d_Mo_prove_4 (by decide) rfl (fun hc => ?_) (fun hc => ?_)
  · rw [if_pos hc] at h
    refine zJ_iload (n := 12) (j := 4) (x := x4) d_Mo_prove_10 rfl rfl ?_
    refine zJ_if_lt (t := 28) (n := 15) d_Mo_prove_12 (by decide) rfl (fun hc => ?_) (fun hc => ?_)
    · rw [if_pos hc] at h
      exact t_Mo_prove_b28 hd h
    · rw [if_neg hc] at h
      refine zJ_iload (n := 17) (j := 4) (x := x4) d_Mo_prove_15 rfl rfl ?_
      refine zJ_aload_n (n := 18) (j := 0) (x := a 45) d_Mo_prove_17 rfl rfl rfl ?_
      refine zS_geti (n := 21) (k0 := 45) (j := 4) d_Mo_prove_18 rfl (fl_Mo_145 D tt) rfl rfl ?_
      refine zJ_icmp_ge (t := 28) (n := 24) d_Mo_prove_21 (by decide) rfl (fun hc => ?_) (fun hc => ?_)
      · rw [if_pos hc] at h
        exact t_Mo_prove_b28 hd h
      · rw [if_neg hc] at h
        refine zJ_iconst (n := 25) (v := 1) d_Mo_prove_24 rfl zci_1 ?_
        refine zJ_goto (t := 29) d_Mo_prove_25 (by decide) ?_
        exact t_Mo_prove_b29 hd h
  · rw [if_neg hc] at h
    refine zJ_bipush (n := 9) (v := -9) d_Mo_prove_7 rfl zcb_m9 ?_
    cases h
    exact zS_ireturn d_Mo_prove_9 rfl rfl ⟨rfl, rfl⟩
theorem t_Mo_word {D : va_G} {tt : ClassId × ClassId × ClassId} {a : Nat → Nat} {d N : Nat} (hd : 0 ≤ d) {x1 : Int32} {x2 : Int32} {M : zMem} {z : Int32 × zMem} (h : f_Mo_word N x1 x2 M = some z) : zK (zEn D tt) zshp a mz_Mo_word d [.ref (a 45), .int x1, .int x2] M (zRi z) := by
  refine zK.enter (L := [some (.ref (a 45)), some (.int x1), some (.int x2)]) (by decide) rfl (Nat.le_of_ble_eq_true rfl) rfl ?_
  unfold f_Mo_word at h
  refine zJ_iload_n (n := 1) (j := 1) (x := x1) d_Mo_word_0 rfl rfl rfl ?_
  refine zJ_if_lt (t := 24) (n := 4) d_Mo_word_1 (by decide) rfl (fun hc => ?_) (fun hc => ?_)
  · rw [if_pos hc] at h
    refine zJ_bipush (n := 26) (v := -2) d_Mo_word_24 rfl zcb_m2 ?_
    cases h
    exact zS_ireturn d_Mo_word_26 rfl rfl ⟨rfl, rfl⟩
  · rw [if_neg hc] at h
    refine zJ_iload_n (n := 5) (j := 1) (x := x1) d_Mo_word_4 rfl rfl rfl ?_
    refine zJ_iconst (n := 6) (v := 3) d_Mo_word_5 rfl zci_3 ?_
    refine zJ_icmp_gt (t := 24) (n := 9) d_Mo_word_6 (by decide) rfl (fun hc => ?_) (fun hc => ?_)
    · rw [if_pos hc] at h
      refine zJ_bipush (n := 26) (v := -2) d_Mo_word_24 rfl zcb_m2 ?_
      cases h
      exact zS_ireturn d_Mo_word_26 rfl rfl ⟨rfl, rfl⟩
    · rw [if_neg hc] at h
      refine zJ_iload_n (n := 10) (j := 2) (x := x2) d_Mo_word_9 rfl rfl rfl ?_
      refine zJ_iconst (n := 11) (v := -1) d_Mo_word_10 rfl zci_m1 ?_
      refine zJ_icmp_lt (t := 24) (n := 14) d_Mo_word_11 (by decide) rfl (fun hc => ?_) (fun hc => ?_)
      · rw [if_pos hc] at h
        refine zJ_bipush (n := 26) (v := -2) d_Mo_word_24 rfl zcb_m2 ?_
        cases h
        exact zS_ireturn d_Mo_word_26 rfl rfl ⟨rfl, rfl⟩
      · rw [if_neg hc] at h
        refine zJ_iload_n (n := 15) (j := 2) (x := x2) d_Mo_word_14 rfl rfl rfl ?_
        refine zJ_aload_n (n := 16) (j := 0) (x := a 45) d_Mo_word_15 rfl rfl rfl ?_
        refine zS_getr (n := 19) (k0 := 45) (j := 20) (q := 61) d_Mo_word_16 rfl (fl_Mo_56 D tt) rfl rfl ?_
        refine zJ_iload_n (n := 20) (j := 1) (x := x1) d_Mo_word_19 rfl rfl rfl ?_
        obtain ⟨g20, h⟩ := zgd h
        refine zS_iald (n := 21) (k0 := 61) d_Mo_word_20 rfl rfl rfl rfl g20 ?_
        refine zJ_icmp_lt (t := 27) (n := 24) d_Mo_word_21 (by decide) rfl (fun hc => ?_) (fun hc => ?_)
        · rw [if_pos hc] at h
          refine zJ_iload_n (n := 28) (j := 2) (x := x2) d_Mo_word_27 rfl rfl rfl ?_
          refine zJ_if_ge (t := 40) (n := 31) d_Mo_word_28 (by decide) rfl (fun hc => ?_) (fun hc => ?_)
          · rw [if_pos hc] at h
            refine zJ_aload_n (n := 41) (j := 0) (x := a 45) d_Mo_word_40 rfl rfl rfl ?_
            refine zS_getr (n := 44) (k0 := 45) (j := 19) (q := 60) d_Mo_word_41 rfl (fl_Mo_53 D tt) rfl rfl ?_
            refine zJ_bipush (n := 46) (v := 30) d_Mo_word_44 rfl zcb_30 ?_
            refine zJ_iload_n (n := 47) (j := 1) (x := x1) d_Mo_word_46 rfl rfl rfl ?_
            refine zJ_imul (n := 48) d_Mo_word_47 rfl ?_
            refine zJ_iload_n (n := 49) (j := 2) (x := x2) d_Mo_word_48 rfl rfl rfl ?_
            refine zJ_iadd (n := 50) d_Mo_word_49 rfl ?_
            obtain ⟨g50, h⟩ := zgd h
            refine zS_iald (n := 51) (k0 := 60) d_Mo_word_50 rfl rfl rfl rfl g50 ?_
            cases h
            exact zS_ireturn d_Mo_word_51 rfl rfl ⟨rfl, rfl⟩
          · rw [if_neg hc] at h
            refine zJ_aload_n (n := 32) (j := 0) (x := a 45) d_Mo_word_31 rfl rfl rfl ?_
            refine zS_getr (n := 35) (k0 := 45) (j := 20) (q := 61) d_Mo_word_32 rfl (fl_Mo_56 D tt) rfl rfl ?_
            refine zJ_iload_n (n := 36) (j := 1) (x := x1) d_Mo_word_35 rfl rfl rfl ?_
            obtain ⟨g36, h⟩ := zgd h
            refine zS_iald (n := 37) (k0 := 61) d_Mo_word_36 rfl rfl rfl rfl g36 ?_
            refine zJ_goto (t := 51) d_Mo_word_37 (by decide) ?_
            cases h
            exact zS_ireturn d_Mo_word_51 rfl rfl ⟨rfl, rfl⟩
        · rw [if_neg hc] at h
          refine zJ_bipush (n := 26) (v := -2) d_Mo_word_24 rfl zcb_m2 ?_
          cases h
          exact zS_ireturn d_Mo_word_26 rfl rfl ⟨rfl, rfl⟩
theorem t_Mo_poke {D : va_G} {tt : ClassId × ClassId × ClassId} {a : Nat → Nat} {d N : Nat} (hd : 0 ≤ d) {x1 : Int32} {x2 : Int32} {x3 : Int32} {M : zMem} {z : Int32 × zMem} (h : f_Mo_poke N x1 x2 x3 M = some z) : zK (zEn D tt) zshp a mz_Mo_poke d [.ref (a 45), .int x1, .int x2, .int x3] M (zRi z) := by
  refine zK.enter (L := [some (.ref (a 45)), some (.int x1), some (.int x2), some (.int x3)]) (by decide) rfl (Nat.le_of_ble_eq_true rfl) rfl ?_
  unfold f_Mo_poke at h
  refine zJ_iload_n (n := 1) (j := 1) (x := x1) d_Mo_poke_0 rfl rfl rfl ?_
  refine zJ_if_lt (t := 29) (n := 4) d_Mo_poke_1 (by decide) rfl (fun hc => ?_) (fun hc => ?_)
  · rw [if_pos hc] at h
    refine zJ_iconst (n := 30) (v := 0) d_Mo_poke_29 rfl zci_0 ?_
    cases h
    exact zS_ireturn d_Mo_poke_30 rfl rfl ⟨rfl, rfl⟩
  · rw [if_neg hc] at h
    refine zJ_iload_n (n := 5) (j := 1) (x := x1) d_Mo_poke_4 rfl rfl rfl ?_
    refine zJ_iconst (n := 6) (v := 3) d_Mo_poke_5 rfl zci_3 ?_
    refine zJ_icmp_gt (t := 29) (n := 9) d_Mo_poke_6 (by decide) rfl (fun hc => ?_) (fun hc => ?_)
    · rw [if_pos hc] at h
      refine zJ_iconst (n := 30) (v := 0) d_Mo_poke_29 rfl zci_0 ?_
      cases h
      exact zS_ireturn d_Mo_poke_30 rfl rfl ⟨rfl, rfl⟩
    · rw [if_neg hc] at h
      refine zJ_iload_n (n := 10) (j := 2) (x := x2) d_Mo_poke_9 rfl rfl rfl ?_
      refine zJ_if_lt (t := 29) (n := 13) d_Mo_poke_10 (by decide) rfl (fun hc => ?_) (fun hc => ?_)
      · rw [if_pos hc] at h
        refine zJ_iconst (n := 30) (v := 0) d_Mo_poke_29 rfl zci_0 ?_
        cases h
        exact zS_ireturn d_Mo_poke_30 rfl rfl ⟨rfl, rfl⟩
      · rw [if_neg hc] at h
        refine zJ_iload_n (n := 14) (j := 2) (x := x2) d_Mo_poke_13 rfl rfl rfl ?_
        refine zJ_aload_n (n := 15) (j := 0) (x := a 45) d_Mo_poke_14 rfl rfl rfl ?_
        refine zS_getr (n := 18) (k0 := 45) (j := 20) (q := 61) d_Mo_poke_15 rfl (fl_Mo_56 D tt) rfl rfl ?_
        refine zJ_iload_n (n := 19) (j := 1) (x := x1) d_Mo_poke_18 rfl rfl rfl ?_
        obtain ⟨g19, h⟩ := zgd h
        refine zS_iald (n := 20) (k0 := 61) d_Mo_poke_19 rfl rfl rfl rfl g19 ?_
        refine zJ_icmp_gt (t := 29) (n := 23) d_Mo_poke_20 (by decide) rfl (fun hc => ?_) (fun hc => ?_)
        · rw [if_pos hc] at h
          refine zJ_iconst (n := 30) (v := 0) d_Mo_poke_29 rfl zci_0 ?_
          cases h
          exact zS_ireturn d_Mo_poke_30 rfl rfl ⟨rfl, rfl⟩
        · rw [if_neg hc] at h
          refine zJ_iload_n (n := 24) (j := 2) (x := x2) d_Mo_poke_23 rfl rfl rfl ?_
          refine zJ_bipush (n := 26) (v := 29) d_Mo_poke_24 rfl zcb_29 ?_
          refine zJ_icmp_le (t := 31) (n := 29) d_Mo_poke_26 (by decide) rfl (fun hc => ?_) (fun hc => ?_)
          · rw [if_pos hc] at h
            refine zJ_aload_n (n := 32) (j := 0) (x := a 45) d_Mo_poke_31 rfl rfl rfl ?_
            refine zS_getr (n := 35) (k0 := 45) (j := 19) (q := 60) d_Mo_poke_32 rfl (fl_Mo_53 D tt) rfl rfl ?_
            refine zJ_bipush (n := 37) (v := 30) d_Mo_poke_35 rfl zcb_30 ?_
            refine zJ_iload_n (n := 38) (j := 1) (x := x1) d_Mo_poke_37 rfl rfl rfl ?_
            refine zJ_imul (n := 39) d_Mo_poke_38 rfl ?_
            refine zJ_iload_n (n := 40) (j := 2) (x := x2) d_Mo_poke_39 rfl rfl rfl ?_
            refine zJ_iadd (n := 41) d_Mo_poke_40 rfl ?_
            refine zJ_iload_n (n := 42) (j := 3) (x := x3) d_Mo_poke_41 rfl rfl rfl ?_
            obtain ⟨g42, h⟩ := zgd h
            obtain ⟨M42, hM42, h⟩ := zli h
            refine zS_iastN (n := 43) (k0 := 60) d_Mo_poke_42 rfl rfl rfl rfl g42 hM42 ?_
            refine zJ_aload_n (n := 44) (j := 0) (x := a 45) d_Mo_poke_43 rfl rfl rfl ?_
            refine zS_getr (n := 47) (k0 := 45) (j := 20) (q := 61) d_Mo_poke_44 rfl (fl_Mo_56 D tt) rfl rfl ?_
            refine zJ_iload_n (n := 48) (j := 1) (x := x1) d_Mo_poke_47 rfl rfl rfl ?_
            refine zJ_iload_n (n := 49) (j := 2) (x := x2) d_Mo_poke_48 rfl rfl rfl ?_
            refine zJ_aload_n (n := 50) (j := 0) (x := a 45) d_Mo_poke_49 rfl rfl rfl ?_
            refine zS_getr (n := 53) (k0 := 45) (j := 20) (q := 61) d_Mo_poke_50 rfl (fl_Mo_56 D tt) rfl rfl ?_
            refine zJ_iload_n (n := 54) (j := 1) (x := x1) d_Mo_poke_53 rfl rfl rfl ?_
            obtain ⟨g54, h⟩ := zgd h
            refine zS_iald (n := 55) (k0 := 61) d_Mo_poke_54 rfl rfl rfl rfl g54 ?_
            refine zJ_icmp_ne (t := 64) (n := 58) d_Mo_poke_55 (by decide) rfl (fun hc => ?_) (fun hc => ?_)
            · rw [if_neg hc] at h
              refine zJ_aload_n (n := 65) (j := 0) (x := a 45) d_Mo_poke_64 rfl rfl rfl ?_
              refine zS_getr (n := 68) (k0 := 45) (j := 20) (q := 61) d_Mo_poke_65 rfl (fl_Mo_56 D tt) rfl rfl ?_
              refine zJ_iload_n (n := 69) (j := 1) (x := x1) d_Mo_poke_68 rfl rfl rfl ?_
              obtain ⟨g69, h⟩ := zgd h
              refine zS_iald (n := 70) (k0 := 61) d_Mo_poke_69 rfl rfl rfl rfl g69 ?_
              obtain ⟨g70, h⟩ := zgd h
              obtain ⟨M70, hM70, h⟩ := zli h
              refine zS_iastN (n := 71) (k0 := 61) d_Mo_poke_70 rfl rfl rfl rfl g70 hM70 ?_
              refine zJ_iconst (n := 72) (v := 1) d_Mo_poke_71 rfl zci_1 ?_
              cases h
              exact zS_ireturn d_Mo_poke_72 rfl rfl ⟨rfl, rfl⟩
            · rw [if_pos hc] at h
              refine zJ_iload_n (n := 59) (j := 2) (x := x2) d_Mo_poke_58 rfl rfl rfl ?_
              refine zJ_iconst (n := 60) (v := 1) d_Mo_poke_59 rfl zci_1 ?_
              refine zJ_iadd (n := 61) d_Mo_poke_60 rfl ?_
              refine zJ_goto (t := 70) d_Mo_poke_61 (by decide) ?_
              obtain ⟨g70, h⟩ := zgd h
              obtain ⟨M70, hM70, h⟩ := zli h
              refine zS_iastN (n := 71) (k0 := 61) d_Mo_poke_70 rfl rfl rfl rfl g70 hM70 ?_
              refine zJ_iconst (n := 72) (v := 1) d_Mo_poke_71 rfl zci_1 ?_
              cases h
              exact zS_ireturn d_Mo_poke_72 rfl rfl ⟨rfl, rfl⟩
          · rw [if_neg hc] at h
            refine zJ_iconst (n := 30) (v := 0) d_Mo_poke_29 rfl zci_0 ?_
            cases h
            exact zS_ireturn d_Mo_poke_30 rfl rfl ⟨rfl, rfl⟩
theorem t_Mo_trim {D : va_G} {tt : ClassId × ClassId × ClassId} {a : Nat → Nat} {d N : Nat} (hd : 0 ≤ d) {x1 : Int32} {x2 : Int32} {M : zMem} {z : Int32 × zMem} (h : f_Mo_trim N x1 x2 M = some z) : zK (zEn D tt) zshp a mz_Mo_trim d [.ref (a 45), .int x1, .int x2] M (zRi z) := by
  refine zK.enter (L := [some (.ref (a 45)), some (.int x1), some (.int x2)]) (by decide) rfl (Nat.le_of_ble_eq_true rfl) rfl ?_
  unfold f_Mo_trim at h
  refine zJ_iload_n (n := 1) (j := 1) (x := x1) d_Mo_trim_0 rfl rfl rfl ?_
  refine zJ_if_lt (t := 23) (n := 4) d_Mo_trim_1 (by decide) rfl (fun hc => ?_) (fun hc => ?_)
  · rw [if_pos hc] at h
    refine zJ_iconst (n := 24) (v := 0) d_Mo_trim_23 rfl zci_0 ?_
    cases h
    exact zS_ireturn d_Mo_trim_24 rfl rfl ⟨rfl, rfl⟩
  · rw [if_neg hc] at h
    refine zJ_iload_n (n := 5) (j := 1) (x := x1) d_Mo_trim_4 rfl rfl rfl ?_
    refine zJ_iconst (n := 6) (v := 3) d_Mo_trim_5 rfl zci_3 ?_
    refine zJ_icmp_gt (t := 23) (n := 9) d_Mo_trim_6 (by decide) rfl (fun hc => ?_) (fun hc => ?_)
    · rw [if_pos hc] at h
      refine zJ_iconst (n := 24) (v := 0) d_Mo_trim_23 rfl zci_0 ?_
      cases h
      exact zS_ireturn d_Mo_trim_24 rfl rfl ⟨rfl, rfl⟩
    · rw [if_neg hc] at h
      refine zJ_iload_n (n := 10) (j := 2) (x := x2) d_Mo_trim_9 rfl rfl rfl ?_
      refine zJ_if_lt (t := 23) (n := 13) d_Mo_trim_10 (by decide) rfl (fun hc => ?_) (fun hc => ?_)
      · rw [if_pos hc] at h
        refine zJ_iconst (n := 24) (v := 0) d_Mo_trim_23 rfl zci_0 ?_
        cases h
        exact zS_ireturn d_Mo_trim_24 rfl rfl ⟨rfl, rfl⟩
      · rw [if_neg hc] at h
        refine zJ_iload_n (n := 14) (j := 2) (x := x2) d_Mo_trim_13 rfl rfl rfl ?_
        refine zJ_aload_n (n := 15) (j := 0) (x := a 45) d_Mo_trim_14 rfl rfl rfl ?_
        refine zS_getr (n := 18) (k0 := 45) (j := 20) (q := 61) d_Mo_trim_15 rfl (fl_Mo_56 D tt) rfl rfl ?_
        refine zJ_iload_n (n := 19) (j := 1) (x := x1) d_Mo_trim_18 rfl rfl rfl ?_
        obtain ⟨g19, h⟩ := zgd h
        refine zS_iald (n := 20) (k0 := 61) d_Mo_trim_19 rfl rfl rfl rfl g19 ?_
        refine zJ_icmp_le (t := 25) (n := 23) d_Mo_trim_20 (by decide) rfl (fun hc => ?_) (fun hc => ?_)
        · rw [if_pos hc] at h
          refine zJ_aload_n (n := 26) (j := 0) (x := a 45) d_Mo_trim_25 rfl rfl rfl ?_
          refine zS_getr (n := 29) (k0 := 45) (j := 20) (q := 61) d_Mo_trim_26 rfl (fl_Mo_56 D tt) rfl rfl ?_
          refine zJ_iload_n (n := 30) (j := 1) (x := x1) d_Mo_trim_29 rfl rfl rfl ?_
          refine zJ_iload_n (n := 31) (j := 2) (x := x2) d_Mo_trim_30 rfl rfl rfl ?_
          obtain ⟨g31, h⟩ := zgd h
          obtain ⟨M31, hM31, h⟩ := zli h
          refine zS_iastN (n := 32) (k0 := 61) d_Mo_trim_31 rfl rfl rfl rfl g31 hM31 ?_
          refine zJ_iconst (n := 33) (v := 1) d_Mo_trim_32 rfl zci_1 ?_
          cases h
          exact zS_ireturn d_Mo_trim_33 rfl rfl ⟨rfl, rfl⟩
        · rw [if_neg hc] at h
          refine zJ_iconst (n := 24) (v := 0) d_Mo_trim_23 rfl zci_0 ?_
          cases h
          exact zS_ireturn d_Mo_trim_24 rfl rfl ⟨rfl, rfl⟩
