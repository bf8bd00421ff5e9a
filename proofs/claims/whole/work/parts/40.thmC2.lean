theorem t_ED_prove_b71 {D : va_G} {tt : ClassId × ClassId × ClassId} {a : Nat → Nat} {d N : Nat} (hd : 4 ≤ d) {z : Int32 × zMem} {p12 : Nat} (g_p12 : zis_Bu p12 = true) {x2 : Int32} {x3 : Int32} {x4 : Int32} {o1 : Option Value} {M : zMem} (h : f_ED_prove_b71 N p12 x2 x3 x4 M = some z) : zS (zEn D tt) zshp a mz_ED_prove d zTr (zFs (zEn D tt) zshp a (zRi z)) 71 [some (.ref (a 0)), o1, some (.int x2), some (.int x3), some (.int x4), some (.ref (a p12))] [] M := by
  unfold f_ED_prove_b71 at h
  refine zJ_iload_n (n := 72) (j := 3) (x := x3) d_ED_prove_71 rfl rfl rfl ?_
  refine zJ_if_lt (t := 81) (n := 75) d_ED_prove_72 (by decide) rfl (fun hc => ?_) (fun hc => ?_)
  · rw [if_pos hc] at h
    refine zJ_iconst (n := 82) (v := -1) d_ED_prove_81 rfl zci_m1 ?_
    cases h
    exact zS_ireturn d_ED_prove_82 rfl rfl ⟨rfl, rfl⟩
  · rw [if_neg hc] at h
    refine zJ_iload_n (n := 76) (j := 3) (x := x3) d_ED_prove_75 rfl rfl rfl ?_
    refine zJ_iload (n := 78) (j := 4) (x := x4) d_ED_prove_76 rfl rfl ?_
    refine zJ_icmp_le (t := 83) (n := 81) d_ED_prove_78 (by decide) rfl (fun hc => ?_) (fun hc => ?_)
    · rw [if_pos hc] at h
      refine zJ_aload_n (n := 84) (j := 0) (x := a 0) d_ED_prove_83 rfl rfl rfl ?_
      refine zJ_aload (n := 86) (j := 5) (x := a p12) d_ED_prove_84 rfl rfl ?_
      refine zJ_iload_n (n := 87) (j := 2) (x := x2) d_ED_prove_86 rfl rfl rfl ?_
      refine zJ_iload_n (n := 88) (j := 3) (x := x3) d_ED_prove_87 rfl rfl rfl ?_
      refine zJ_iload (n := 90) (j := 4) (x := x4) d_ED_prove_88 rfl rfl ?_
      obtain ⟨q90, hq90, h⟩ := zbd h
      refine zS_callVi (n := 93) (k0 := 0) (avs := [.ref (a p12), .int x2, .int x3, .int x4]) (rest := []) (z := q90) (d' := d - 1) d_ED_prove_90 rfl (vk_ED_174 D tt) rfl rfl rfl (Nat.le_of_ble_eq_true rfl) (by omega) (t_ED_proveHistory (by omega) hq90) ?_
      cases h
      exact zS_ireturn d_ED_prove_93 rfl rfl ⟨rfl, rfl⟩
    · rw [if_neg hc] at h
      refine zJ_iconst (n := 82) (v := -1) d_ED_prove_81 rfl zci_m1 ?_
      cases h
      exact zS_ireturn d_ED_prove_82 rfl rfl ⟨rfl, rfl⟩
theorem t_ED_prove {D : va_G} {tt : ClassId × ClassId × ClassId} {a : Nat → Nat} {d N : Nat} (hd : 4 ≤ d) {x1 : Int32} {x2 : Int32} {x3 : Int32} {x4 : Int32} {M : zMem} {z : Int32 × zMem} (h : f_ED_prove N x1 x2 x3 x4 M = some z) : zK (zEn D tt) zshp a mz_ED_prove d [.ref (a 0), .int x1, .int x2, .int x3, .int x4] M (zRi z) := by
  refine zK.enter (L := [some (.ref (a 0)), some (.int x1), some (.int x2), some (.int x3), some (.int x4), none]) (by decide) rfl (Nat.le_of_ble_eq_true rfl) rfl ?_
  unfold f_ED_prove at h
  refine zJ_aload_n (n := 1) (j := 0) (x := a 0) d_ED_prove_0 rfl rfl rfl ?_
  refine zS_geti (n := 4) (k0 := 0) (j := 11) d_ED_prove_1 rfl (fl_ED_87 D tt) rfl rfl ?_
  refine zJ_if_eq (t := 10) (n := 7) d_ED_prove_4 (by decide) rfl (fun hc => ?_) (fun hc => ?_)
  · rw [if_pos hc] at h
    refine zJ_aload_n (n := 11) (j := 0) (x := a 0) d_ED_prove_10 rfl rfl rfl ?_
    refine zJ_iload_n (n := 12) (j := 1) (x := x1) d_ED_prove_11 rfl rfl rfl ?_
    obtain ⟨q12, hq12, h⟩ := zbd h
    refine zS_callVr (n := 15) (k0 := 0) (avs := [.int x1]) (rest := []) (z := q12) (d' := d - 1) d_ED_prove_12 rfl (vk_ED_166 D tt) rfl rfl rfl (Nat.le_of_ble_eq_true rfl) (by omega) (t_ED_bufferAt (by omega) hq12) ?_
    rcases zcsi h with ⟨he12, h⟩ | ⟨p12, he12, h⟩
    · rw [he12]
      show zS (zEn D tt) zshp a mz_ED_prove d zTr (zFs (zEn D tt) zshp a (zRi z)) 15 [some (.ref (a 0)), some (.int x1), some (.int x2), some (.int x3), some (.int x4), none] [.null] q12.2
      refine zJ_astoreN (n := 17) (j := 5) d_ED_prove_15 rfl (Nat.le_of_ble_eq_true rfl) ?_
      refine zJ_aloadN (n := 19) (j := 5) d_ED_prove_17 rfl rfl ?_
      refine zJ_ifnullN (t := 34) d_ED_prove_19 (by decide) ?_
      refine zJ_iconst (n := 35) (v := -1) d_ED_prove_34 rfl zci_m1 ?_
      cases h
      exact zS_ireturn d_ED_prove_35 rfl rfl ⟨rfl, rfl⟩
    · rw [he12]
      show zS (zEn D tt) zshp a mz_ED_prove d zTr (zFs (zEn D tt) zshp a (zRi z)) 15 [some (.ref (a 0)), some (.int x1), some (.int x2), some (.int x3), some (.int x4), none] [.ref (a p12)] q12.2
      obtain ⟨g_p12, h⟩ := zgd h
      refine zJ_astore (n := 17) (j := 5) d_ED_prove_15 rfl (Nat.le_of_ble_eq_true rfl) ?_
      refine zJ_aload (n := 19) (j := 5) (x := a p12) d_ED_prove_17 rfl rfl ?_
      refine zJ_ifnull (n := 22) d_ED_prove_19 rfl ?_
      refine zJ_aload_n (n := 23) (j := 0) (x := a 0) d_ED_prove_22 rfl rfl rfl ?_
      refine zS_getr (n := 26) (k0 := 0) (j := 4) (q := 18) d_ED_prove_23 rfl (fl_ED_44 D tt) rfl rfl ?_
      refine zJ_iload (n := 28) (j := 4) (x := x4) d_ED_prove_26 rfl rfl ?_
      obtain ⟨q28, hq28, h⟩ := zbd h
      refine zS_callVi (n := 31) (k0 := 18) (avs := [.int x4]) (rest := []) (z := q28) (d' := d - 1) d_ED_prove_28 rfl (vk_ED_136 D tt) rfl rfl rfl (Nat.le_of_ble_eq_true rfl) (by omega) (t_Hi_isClosed (by omega) hq28) ?_
      refine zJ_if_ne (t := 36) (n := 34) d_ED_prove_31 (by decide) rfl (fun hc => ?_) (fun hc => ?_)
      · rw [if_neg hc] at h
        refine zJ_iload_n (n := 37) (j := 2) (x := x2) d_ED_prove_36 rfl rfl rfl ?_
        refine zJ_if_ne (t := 61) (n := 40) d_ED_prove_37 (by decide) rfl (fun hc => ?_) (fun hc => ?_)
        · rw [if_neg hc] at h
          refine zJ_iload_n (n := 62) (j := 2) (x := x2) d_ED_prove_61 rfl rfl rfl ?_
          refine zJ_iconst (n := 63) (v := 1) d_ED_prove_62 rfl zci_1 ?_
          refine zJ_icmp_eq (t := 71) (n := 66) d_ED_prove_63 (by decide) rfl (fun hc => ?_) (fun hc => ?_)
          · rw [if_pos hc] at h
            exact t_ED_prove_b71 hd g_p12 h
          · rw [if_neg hc] at h
            refine zJ_iload_n (n := 67) (j := 2) (x := x2) d_ED_prove_66 rfl rfl rfl ?_
            refine zJ_iconst (n := 68) (v := 2) d_ED_prove_67 rfl zci_2 ?_
            refine zJ_icmp_ne (t := 81) (n := 71) d_ED_prove_68 (by decide) rfl (fun hc => ?_) (fun hc => ?_)
            · rw [if_neg hc] at h
              refine zJ_iconst (n := 82) (v := -1) d_ED_prove_81 rfl zci_m1 ?_
              cases h
              exact zS_ireturn d_ED_prove_82 rfl rfl ⟨rfl, rfl⟩
            · rw [if_pos hc] at h
              exact t_ED_prove_b71 hd g_p12 h
        · rw [if_pos hc] at h
          refine zJ_iload_n (n := 41) (j := 3) (x := x3) d_ED_prove_40 rfl rfl rfl ?_
          obtain ⟨q41, hq41, h⟩ := zbd h
          refine zS_callSi (n := 44) (avs := [.int x3]) (rest := []) (z := q41) (d' := d - 1) d_ED_prove_41 rfl (sk_ED_91 D tt) rfl rfl (Nat.le_of_ble_eq_true rfl) (by omega) (t_ED_isName (by omega) hq41) ?_
          refine zJ_if_eq (t := 59) (n := 47) d_ED_prove_44 (by decide) rfl (fun hc => ?_) (fun hc => ?_)
          · rw [if_pos hc] at h
            refine zJ_iconst (n := 60) (v := -1) d_ED_prove_59 rfl zci_m1 ?_
            cases h
            exact zS_ireturn d_ED_prove_60 rfl rfl ⟨rfl, rfl⟩
          · rw [if_neg hc] at h
            refine zJ_aload_n (n := 48) (j := 0) (x := a 0) d_ED_prove_47 rfl rfl rfl ?_
            refine zJ_aload (n := 50) (j := 5) (x := a p12) d_ED_prove_48 rfl rfl ?_
            refine zJ_iload_n (n := 51) (j := 3) (x := x3) d_ED_prove_50 rfl rfl rfl ?_
            refine zJ_iload (n := 53) (j := 4) (x := x4) d_ED_prove_51 rfl rfl ?_
            obtain ⟨q53, hq53, h⟩ := zbd h
            refine zS_callVi (n := 56) (k0 := 0) (avs := [.ref (a p12), .int x3, .int x4]) (rest := []) (z := q53) (d' := d - 1) d_ED_prove_53 rfl (vk_ED_170 D tt) rfl rfl rfl (Nat.le_of_ble_eq_true rfl) (by omega) (t_ED_proveLookup (by omega) hq53) ?_
            refine zJ_goto (t := 60) d_ED_prove_56 (by decide) ?_
            cases h
            exact zS_ireturn d_ED_prove_60 rfl rfl ⟨rfl, rfl⟩
      · rw [if_pos hc] at h
        refine zJ_iconst (n := 35) (v := -1) d_ED_prove_34 rfl zci_m1 ?_
        cases h
        exact zS_ireturn d_ED_prove_35 rfl rfl ⟨rfl, rfl⟩
  · rw [if_neg hc] at h
    refine zJ_bipush (n := 9) (v := -9) d_ED_prove_7 rfl zcb_m9 ?_
    cases h
    exact zS_ireturn d_ED_prove_9 rfl rfl ⟨rfl, rfl⟩
theorem t_ED_word {D : va_G} {tt : ClassId × ClassId × ClassId} {a : Nat → Nat} {d N : Nat} (hd : 1 ≤ d) {x1 : Int32} {x2 : Int32} {M : zMem} {z : Int32 × zMem} (h : f_ED_word N x1 x2 M = some z) : zK (zEn D tt) zshp a mz_ED_word d [.ref (a 0), .int x1, .int x2] M (zRi z) := by
  refine zK.enter (L := [some (.ref (a 0)), some (.int x1), some (.int x2), none]) (by decide) rfl (Nat.le_of_ble_eq_true rfl) rfl ?_
  unfold f_ED_word at h
  refine zJ_aload_n (n := 1) (j := 0) (x := a 0) d_ED_word_0 rfl rfl rfl ?_
  refine zJ_iload_n (n := 2) (j := 1) (x := x1) d_ED_word_1 rfl rfl rfl ?_
  obtain ⟨q2, hq2, h⟩ := zbd h
  refine zS_callVr (n := 5) (k0 := 0) (avs := [.int x1]) (rest := []) (z := q2) (d' := d - 1) d_ED_word_2 rfl (vk_ED_166 D tt) rfl rfl rfl (Nat.le_of_ble_eq_true rfl) (by omega) (t_ED_bufferAt (by omega) hq2) ?_
  rcases zcsi h with ⟨he2, h⟩ | ⟨p2, he2, h⟩
  · rw [he2]
    show zS (zEn D tt) zshp a mz_ED_word d zTr (zFs (zEn D tt) zshp a (zRi z)) 5 [some (.ref (a 0)), some (.int x1), some (.int x2), none] [.null] q2.2
    refine zJ_astore_nN (n := 6) (j := 3) d_ED_word_5 rfl rfl (Nat.le_of_ble_eq_true rfl) ?_
    refine zJ_aload_nN (n := 7) (j := 3) d_ED_word_6 rfl rfl rfl ?_
    refine zJ_ifnonnullN (n := 10) d_ED_word_7 rfl ?_
    refine zJ_bipush (n := 12) (v := -2) d_ED_word_10 rfl zcb_m2 ?_
    cases h
    exact zS_ireturn d_ED_word_12 rfl rfl ⟨rfl, rfl⟩
  · rw [he2]
    show zS (zEn D tt) zshp a mz_ED_word d zTr (zFs (zEn D tt) zshp a (zRi z)) 5 [some (.ref (a 0)), some (.int x1), some (.int x2), none] [.ref (a p2)] q2.2
    obtain ⟨g_p2, h⟩ := zgd h
    refine zJ_astore_n (n := 6) (j := 3) d_ED_word_5 rfl rfl (Nat.le_of_ble_eq_true rfl) ?_
    refine zJ_aload_n (n := 7) (j := 3) (x := a p2) d_ED_word_6 rfl rfl rfl ?_
    refine zJ_ifnonnull (t := 13) d_ED_word_7 (by decide) ?_
    refine zJ_iload_n (n := 14) (j := 2) (x := x2) d_ED_word_13 rfl rfl rfl ?_
    refine zJ_iconst (n := 15) (v := -1) d_ED_word_14 rfl zci_m1 ?_
    refine zJ_icmp_ne (t := 23) (n := 18) d_ED_word_15 (by decide) rfl (fun hc => ?_) (fun hc => ?_)
    · rw [if_neg hc] at h
      refine zJ_iload_n (n := 24) (j := 2) (x := x2) d_ED_word_23 rfl rfl rfl ?_
      refine zJ_if_lt (t := 44) (n := 27) d_ED_word_24 (by decide) rfl (fun hc => ?_) (fun hc => ?_)
      · rw [if_pos hc] at h
        refine zJ_bipush (n := 46) (v := -2) d_ED_word_44 rfl zcb_m2 ?_
        cases h
        exact zS_ireturn d_ED_word_46 rfl rfl ⟨rfl, rfl⟩
      · rw [if_neg hc] at h
        refine zJ_iload_n (n := 28) (j := 2) (x := x2) d_ED_word_27 rfl rfl rfl ?_
        refine zJ_aload_n (n := 29) (j := 3) (x := a p2) d_ED_word_28 rfl rfl rfl ?_
        refine zS_geti (n := 32) (k0 := p2) (j := 1) d_ED_word_29 rfl (fl_ED_178 D tt) (zis_Bu_o g_p2) rfl ?_
        refine zJ_icmp_ge (t := 44) (n := 35) d_ED_word_32 (by decide) rfl (fun hc => ?_) (fun hc => ?_)
        · rw [if_pos hc] at h
          refine zJ_bipush (n := 46) (v := -2) d_ED_word_44 rfl zcb_m2 ?_
          cases h
          exact zS_ireturn d_ED_word_46 rfl rfl ⟨rfl, rfl⟩
        · rw [if_neg hc] at h
          refine zJ_aload_n (n := 36) (j := 3) (x := a p2) d_ED_word_35 rfl rfl rfl ?_
          refine zS_getr (n := 39) (k0 := p2) (j := 0) (q := p2 + 1) d_ED_word_36 rfl (fl_ED_179 D tt) (zis_Bu_o g_p2) rfl ?_
          refine zJ_iload_n (n := 40) (j := 2) (x := x2) d_ED_word_39 rfl rfl rfl ?_
          obtain ⟨g40, h⟩ := zgd h
          refine zS_iald (n := 41) (k0 := p2 + 1) d_ED_word_40 rfl (zis_Bu_1 g_p2) rfl rfl g40 ?_
          refine zJ_goto (t := 46) d_ED_word_41 (by decide) ?_
          cases h
          exact zS_ireturn d_ED_word_46 rfl rfl ⟨rfl, rfl⟩
    · rw [if_pos hc] at h
      refine zJ_aload_n (n := 19) (j := 3) (x := a p2) d_ED_word_18 rfl rfl rfl ?_
      refine zS_geti (n := 22) (k0 := p2) (j := 1) d_ED_word_19 rfl (fl_ED_178 D tt) (zis_Bu_o g_p2) rfl ?_
      cases h
      exact zS_ireturn d_ED_word_22 rfl rfl ⟨rfl, rfl⟩
theorem t_ED_poke {D : va_G} {tt : ClassId × ClassId × ClassId} {a : Nat → Nat} {d N : Nat} (hd : 2 ≤ d) {x1 : Int32} {x2 : Int32} {x3 : Int32} {M : zMem} {z : Int32 × zMem} (h : f_ED_poke N x1 x2 x3 M = some z) : zK (zEn D tt) zshp a mz_ED_poke d [.ref (a 0), .int x1, .int x2, .int x3] M (zRi z) := by
  refine zK.enter (L := [some (.ref (a 0)), some (.int x1), some (.int x2), some (.int x3), none]) (by decide) rfl (Nat.le_of_ble_eq_true rfl) rfl ?_
  unfold f_ED_poke at h
  refine zJ_aload_n (n := 1) (j := 0) (x := a 0) d_ED_poke_0 rfl rfl rfl ?_
  refine zJ_iload_n (n := 2) (j := 1) (x := x1) d_ED_poke_1 rfl rfl rfl ?_
  obtain ⟨q2, hq2, h⟩ := zbd h
  refine zS_callVr (n := 5) (k0 := 0) (avs := [.int x1]) (rest := []) (z := q2) (d' := d - 1) d_ED_poke_2 rfl (vk_ED_166 D tt) rfl rfl rfl (Nat.le_of_ble_eq_true rfl) (by omega) (t_ED_bufferAt (by omega) hq2) ?_
  rcases zcsi h with ⟨he2, h⟩ | ⟨p2, he2, h⟩
  · rw [he2]
    show zS (zEn D tt) zshp a mz_ED_poke d zTr (zFs (zEn D tt) zshp a (zRi z)) 5 [some (.ref (a 0)), some (.int x1), some (.int x2), some (.int x3), none] [.null] q2.2
    refine zJ_astoreN (n := 7) (j := 4) d_ED_poke_5 rfl (Nat.le_of_ble_eq_true rfl) ?_
    refine zJ_aloadN (n := 9) (j := 4) d_ED_poke_7 rfl rfl ?_
    refine zJ_ifnullN (t := 26) d_ED_poke_9 (by decide) ?_
    refine zJ_iconst (n := 27) (v := 0) d_ED_poke_26 rfl zci_0 ?_
    cases h
    exact zS_ireturn d_ED_poke_27 rfl rfl ⟨rfl, rfl⟩
  · rw [he2]
    show zS (zEn D tt) zshp a mz_ED_poke d zTr (zFs (zEn D tt) zshp a (zRi z)) 5 [some (.ref (a 0)), some (.int x1), some (.int x2), some (.int x3), none] [.ref (a p2)] q2.2
    obtain ⟨g_p2, h⟩ := zgd h
    refine zJ_astore (n := 7) (j := 4) d_ED_poke_5 rfl (Nat.le_of_ble_eq_true rfl) ?_
    refine zJ_aload (n := 9) (j := 4) (x := a p2) d_ED_poke_7 rfl rfl ?_
    refine zJ_ifnull (n := 12) d_ED_poke_9 rfl ?_
    refine zJ_aload (n := 14) (j := 4) (x := a p2) d_ED_poke_12 rfl rfl ?_
    refine zJ_iload_n (n := 15) (j := 2) (x := x2) d_ED_poke_14 rfl rfl rfl ?_
    refine zJ_iload_n (n := 16) (j := 3) (x := x3) d_ED_poke_15 rfl rfl rfl ?_
    obtain ⟨q16, hq16, h⟩ := zbd h
    refine zS_callVi (n := 19) (k0 := p2) (avs := [.int x2, .int x3]) (rest := []) (z := q16) (d' := d - 1) d_ED_poke_16 rfl (vk_ED_182 D tt) (zis_Bu_o g_p2) rfl rfl (Nat.le_of_ble_eq_true rfl) (by omega) (t_Bu_replaceOrAppend (by omega) hq16) ?_
    refine zJ_if_eq (t := 26) (n := 22) d_ED_poke_19 (by decide) rfl (fun hc => ?_) (fun hc => ?_)
    · rw [if_pos hc] at h
      refine zJ_iconst (n := 27) (v := 0) d_ED_poke_26 rfl zci_0 ?_
      cases h
      exact zS_ireturn d_ED_poke_27 rfl rfl ⟨rfl, rfl⟩
    · rw [if_neg hc] at h
      refine zJ_iconst (n := 23) (v := 1) d_ED_poke_22 rfl zci_1 ?_
      refine zJ_goto (t := 27) d_ED_poke_23 (by decide) ?_
      cases h
      exact zS_ireturn d_ED_poke_27 rfl rfl ⟨rfl, rfl⟩
theorem t_ED_trim {D : va_G} {tt : ClassId × ClassId × ClassId} {a : Nat → Nat} {d N : Nat} (hd : 1 ≤ d) {x1 : Int32} {x2 : Int32} {M : zMem} {z : Int32 × zMem} (h : f_ED_trim N x1 x2 M = some z) : zK (zEn D tt) zshp a mz_ED_trim d [.ref (a 0), .int x1, .int x2] M (zRi z) := by
  refine zK.enter (L := [some (.ref (a 0)), some (.int x1), some (.int x2), none]) (by decide) rfl (Nat.le_of_ble_eq_true rfl) rfl ?_
  unfold f_ED_trim at h
  refine zJ_aload_n (n := 1) (j := 0) (x := a 0) d_ED_trim_0 rfl rfl rfl ?_
  refine zJ_iload_n (n := 2) (j := 1) (x := x1) d_ED_trim_1 rfl rfl rfl ?_
  obtain ⟨q2, hq2, h⟩ := zbd h
  refine zS_callVr (n := 5) (k0 := 0) (avs := [.int x1]) (rest := []) (z := q2) (d' := d - 1) d_ED_trim_2 rfl (vk_ED_166 D tt) rfl rfl rfl (Nat.le_of_ble_eq_true rfl) (by omega) (t_ED_bufferAt (by omega) hq2) ?_
  rcases zcsi h with ⟨he2, h⟩ | ⟨p2, he2, h⟩
  · rw [he2]
    show zS (zEn D tt) zshp a mz_ED_trim d zTr (zFs (zEn D tt) zshp a (zRi z)) 5 [some (.ref (a 0)), some (.int x1), some (.int x2), none] [.null] q2.2
    refine zJ_astore_nN (n := 6) (j := 3) d_ED_trim_5 rfl rfl (Nat.le_of_ble_eq_true rfl) ?_
    refine zJ_aload_nN (n := 7) (j := 3) d_ED_trim_6 rfl rfl rfl ?_
    refine zJ_ifnullN (t := 22) d_ED_trim_7 (by decide) ?_
    refine zJ_iconst (n := 23) (v := 0) d_ED_trim_22 rfl zci_0 ?_
    cases h
    exact zS_ireturn d_ED_trim_23 rfl rfl ⟨rfl, rfl⟩
  · rw [he2]
    show zS (zEn D tt) zshp a mz_ED_trim d zTr (zFs (zEn D tt) zshp a (zRi z)) 5 [some (.ref (a 0)), some (.int x1), some (.int x2), none] [.ref (a p2)] q2.2
    obtain ⟨g_p2, h⟩ := zgd h
    refine zJ_astore_n (n := 6) (j := 3) d_ED_trim_5 rfl rfl (Nat.le_of_ble_eq_true rfl) ?_
    refine zJ_aload_n (n := 7) (j := 3) (x := a p2) d_ED_trim_6 rfl rfl rfl ?_
    refine zJ_ifnull (n := 10) d_ED_trim_7 rfl ?_
    refine zJ_iload_n (n := 11) (j := 2) (x := x2) d_ED_trim_10 rfl rfl rfl ?_
    refine zJ_if_lt (t := 22) (n := 14) d_ED_trim_11 (by decide) rfl (fun hc => ?_) (fun hc => ?_)
    · rw [if_pos hc] at h
      refine zJ_iconst (n := 23) (v := 0) d_ED_trim_22 rfl zci_0 ?_
      cases h
      exact zS_ireturn d_ED_trim_23 rfl rfl ⟨rfl, rfl⟩
    · rw [if_neg hc] at h
      refine zJ_iload_n (n := 15) (j := 2) (x := x2) d_ED_trim_14 rfl rfl rfl ?_
      refine zJ_aload_n (n := 16) (j := 3) (x := a p2) d_ED_trim_15 rfl rfl rfl ?_
      refine zS_geti (n := 19) (k0 := p2) (j := 1) d_ED_trim_16 rfl (fl_ED_178 D tt) (zis_Bu_o g_p2) rfl ?_
      refine zJ_icmp_le (t := 24) (n := 22) d_ED_trim_19 (by decide) rfl (fun hc => ?_) (fun hc => ?_)
      · rw [if_pos hc] at h
        refine zJ_aload_n (n := 25) (j := 3) (x := a p2) d_ED_trim_24 rfl rfl rfl ?_
        refine zJ_iload_n (n := 26) (j := 2) (x := x2) d_ED_trim_25 rfl rfl rfl ?_
        obtain ⟨M26, hM26, h⟩ := zli h
        refine zS_putN (n := 29) (k0 := p2) (j := 1) d_ED_trim_26 rfl (fl_ED_178 D tt) zty_Bu rfl (zis_Bu_o g_p2) rfl rfl rfl hM26 ?_
        refine zJ_iconst (n := 30) (v := 1) d_ED_trim_29 rfl zci_1 ?_
        cases h
        exact zS_ireturn d_ED_trim_30 rfl rfl ⟨rfl, rfl⟩
      · rw [if_neg hc] at h
        refine zJ_iconst (n := 23) (v := 0) d_ED_trim_22 rfl zci_0 ?_
        cases h
        exact zS_ireturn d_ED_trim_23 rfl rfl ⟨rfl, rfl⟩
theorem t_LC_sharePrefix {D : va_G} {tt : ClassId × ClassId × ClassId} {a : Nat → Nat} {d N : Nat} (hd : 0 ≤ d) {x0 : Int32} {x1 : Int32} {x2 : Int32} {M : zMem} {z : Int32 × zMem} (h : f_LC_sharePrefix N x0 x1 x2 M = some z) : zK (zEn D tt) zshp a mz_LC_sharePrefix d [.int x0, .int x1, .int x2] M (zRi z) := by
  refine zK.enter (L := [some (.int x0), some (.int x1), some (.int x2)]) (by decide) rfl (Nat.le_of_ble_eq_true rfl) rfl ?_
  unfold f_LC_sharePrefix at h
  refine zJ_iload_n (n := 1) (j := 0) (x := x0) d_LC_sharePrefix_0 rfl rfl rfl ?_
  refine zJ_bipush (n := 3) (v := 6) d_LC_sharePrefix_1 rfl zcb_6 ?_
  refine zJ_iload_n (n := 4) (j := 2) (x := x2) d_LC_sharePrefix_3 rfl rfl rfl ?_
  refine zJ_isub (n := 5) d_LC_sharePrefix_4 rfl ?_
  refine zJ_ishr (n := 6) d_LC_sharePrefix_5 rfl ?_
  refine zJ_iload_n (n := 7) (j := 1) (x := x1) d_LC_sharePrefix_6 rfl rfl rfl ?_
  refine zJ_bipush (n := 9) (v := 6) d_LC_sharePrefix_7 rfl zcb_6 ?_
  refine zJ_iload_n (n := 10) (j := 2) (x := x2) d_LC_sharePrefix_9 rfl rfl rfl ?_
  refine zJ_isub (n := 11) d_LC_sharePrefix_10 rfl ?_
  refine zJ_ishr (n := 12) d_LC_sharePrefix_11 rfl ?_
  refine zJ_icmp_ne (t := 19) (n := 15) d_LC_sharePrefix_12 (by decide) rfl (fun hc => ?_) (fun hc => ?_)
  · rw [if_neg hc] at h
    refine zJ_iconst (n := 20) (v := 0) d_LC_sharePrefix_19 rfl zci_0 ?_
    cases h
    exact zS_ireturn d_LC_sharePrefix_20 rfl rfl ⟨rfl, rfl⟩
  · rw [if_pos hc] at h
    refine zJ_iconst (n := 16) (v := 1) d_LC_sharePrefix_15 rfl zci_1 ?_
    refine zJ_goto (t := 20) d_LC_sharePrefix_16 (by decide) ?_
    cases h
    exact zS_ireturn d_LC_sharePrefix_20 rfl rfl ⟨rfl, rfl⟩
theorem t_LC_hasForm {D : va_G} {tt : ClassId × ClassId × ClassId} {a : Nat → Nat} {d N : Nat} (hd : 1 ≤ d) {p0 : Nat} {x1 : Int32} {M : zMem} {z : Int32 × zMem} (h : f_LC_hasForm N p0 x1 M = some z) : zK (zEn D tt) zshp a mz_LC_hasForm d [.ref (a p0), .int x1] M (zRi z) := by
  refine zK.enter (L := [some (.ref (a p0)), some (.int x1), none, none]) (by decide) rfl (Nat.le_of_ble_eq_true rfl) rfl ?_
  unfold f_LC_hasForm at h
  obtain ⟨g_p0, h⟩ := zgd h
  refine zJ_aload_n (n := 1) (j := 0) (x := a p0) d_LC_hasForm_0 rfl rfl rfl ?_
  refine zS_geti (n := 4) (k0 := p0) (j := 1) d_LC_hasForm_1 rfl (fl_LC_43 D tt) (zis_Bu_o g_p0) rfl ?_
  refine zJ_iconst (n := 5) (v := 3) d_LC_hasForm_4 rfl zci_3 ?_
  refine zJ_icmp_lt (t := 32) (n := 8) d_LC_hasForm_5 (by decide) rfl (fun hc => ?_) (fun hc => ?_)
  · rw [if_pos hc] at h
    refine zJ_iconst (n := 33) (v := 0) d_LC_hasForm_32 rfl zci_0 ?_
    cases h
    exact zS_ireturn d_LC_hasForm_33 rfl rfl ⟨rfl, rfl⟩
  · rw [if_neg hc] at h
    refine zJ_aload_n (n := 9) (j := 0) (x := a p0) d_LC_hasForm_8 rfl rfl rfl ?_
    refine zS_geti (n := 12) (k0 := p0) (j := 1) d_LC_hasForm_9 rfl (fl_LC_43 D tt) (zis_Bu_o g_p0) rfl ?_
    refine zJ_bipush (n := 14) (v := 9) d_LC_hasForm_12 rfl zcb_9 ?_
    refine zJ_icmp_gt (t := 32) (n := 17) d_LC_hasForm_14 (by decide) rfl (fun hc => ?_) (fun hc => ?_)
    · rw [if_pos hc] at h
      refine zJ_iconst (n := 33) (v := 0) d_LC_hasForm_32 rfl zci_0 ?_
      cases h
      exact zS_ireturn d_LC_hasForm_33 rfl rfl ⟨rfl, rfl⟩
    · rw [if_neg hc] at h
      refine zJ_aload_n (n := 18) (j := 0) (x := a p0) d_LC_hasForm_17 rfl rfl rfl ?_
      refine zS_getr (n := 21) (k0 := p0) (j := 0) (q := p0 + 1) d_LC_hasForm_18 rfl (fl_LC_23 D tt) (zis_Bu_o g_p0) rfl ?_
      refine zJ_iconst (n := 22) (v := 0) d_LC_hasForm_21 rfl zci_0 ?_
      refine zS_iald (n := 23) (k0 := p0 + 1) (jj := 0) d_LC_hasForm_22 rfl (zis_Bu_1 g_p0) rfl (by decide) (by decide) ?_
      refine zJ_aload_n (n := 24) (j := 0) (x := a p0) d_LC_hasForm_23 rfl rfl rfl ?_
      refine zS_geti (n := 27) (k0 := p0) (j := 1) d_LC_hasForm_24 rfl (fl_LC_43 D tt) (zis_Bu_o g_p0) rfl ?_
      refine zJ_iconst (n := 28) (v := 3) d_LC_hasForm_27 rfl zci_3 ?_
      refine zJ_isub (n := 29) d_LC_hasForm_28 rfl ?_
      refine zJ_icmp_eq (t := 34) (n := 32) d_LC_hasForm_29 (by decide) rfl (fun hc => ?_) (fun hc => ?_)
      · rw [if_pos hc] at h
        refine zJ_aload_n (n := 35) (j := 0) (x := a p0) d_LC_hasForm_34 rfl rfl rfl ?_
        refine zS_getr (n := 38) (k0 := p0) (j := 0) (q := p0 + 1) d_LC_hasForm_35 rfl (fl_LC_23 D tt) (zis_Bu_o g_p0) rfl ?_
        refine zJ_iconst (n := 39) (v := 1) d_LC_hasForm_38 rfl zci_1 ?_
        refine zS_iald (n := 40) (k0 := p0 + 1) (jj := 1) d_LC_hasForm_39 rfl (zis_Bu_1 g_p0) rfl (by decide) (by decide) ?_
        obtain ⟨v40, hv40, h⟩ := zli h
        refine zS_istore_n (n := 41) (j := 2) (x' := v40) d_LC_hasForm_40 rfl rfl (Nat.le_of_ble_eq_true rfl) hv40 ?_
        refine zJ_aload_n (n := 42) (j := 0) (x := a p0) d_LC_hasForm_41 rfl rfl rfl ?_
        refine zS_getr (n := 45) (k0 := p0) (j := 0) (q := p0 + 1) d_LC_hasForm_42 rfl (fl_LC_23 D tt) (zis_Bu_o g_p0) rfl ?_
        refine zJ_iconst (n := 46) (v := 2) d_LC_hasForm_45 rfl zci_2 ?_
        refine zS_iald (n := 47) (k0 := p0 + 1) (jj := 2) d_LC_hasForm_46 rfl (zis_Bu_1 g_p0) rfl (by decide) (by decide) ?_
        obtain ⟨v47, hv47, h⟩ := zli h
        refine zS_istore_n (n := 48) (j := 3) (x' := v47) d_LC_hasForm_47 rfl rfl (Nat.le_of_ble_eq_true rfl) hv47 ?_
        refine zJ_iload_n (n := 49) (j := 2) (x := v40) d_LC_hasForm_48 rfl rfl rfl ?_
        refine zJ_iconst (n := 50) (v := -1) d_LC_hasForm_49 rfl zci_m1 ?_
        refine zJ_icmp_ne (t := 63) (n := 53) d_LC_hasForm_50 (by decide) rfl (fun hc => ?_) (fun hc => ?_)
        · rw [if_neg hc] at h
          refine zJ_iload_n (n := 64) (j := 2) (x := v40) d_LC_hasForm_63 rfl rfl rfl ?_
          obtain ⟨q64, hq64, h⟩ := zbd h
          refine zS_callSi (n := 67) (avs := [.int v40]) (rest := []) (z := q64) (d' := d - 1) d_LC_hasForm_64 rfl (sk_LC_46 D tt) rfl rfl (Nat.le_of_ble_eq_true rfl) (by omega) (t_ED_isName (by omega) hq64) ?_
          refine zJ_if_eq (t := 101) (n := 70) d_LC_hasForm_67 (by decide) rfl (fun hc => ?_) (fun hc => ?_)
          · rw [if_pos hc] at h
            refine zJ_iconst (n := 102) (v := 0) d_LC_hasForm_101 rfl zci_0 ?_
            cases h
            exact zS_ireturn d_LC_hasForm_102 rfl rfl ⟨rfl, rfl⟩
          · rw [if_neg hc] at h
            refine zJ_iload_n (n := 71) (j := 3) (x := v47) d_LC_hasForm_70 rfl rfl rfl ?_
            obtain ⟨q71, hq71, h⟩ := zbd h
            refine zS_callSi (n := 74) (avs := [.int v47]) (rest := []) (z := q71) (d' := d - 1) d_LC_hasForm_71 rfl (sk_LC_50 D tt) rfl rfl (Nat.le_of_ble_eq_true rfl) (by omega) (t_ED_isKey (by omega) hq71) ?_
            refine zJ_if_eq (t := 101) (n := 77) d_LC_hasForm_74 (by decide) rfl (fun hc => ?_) (fun hc => ?_)
            · rw [if_pos hc] at h
              refine zJ_iconst (n := 102) (v := 0) d_LC_hasForm_101 rfl zci_0 ?_
              cases h
              exact zS_ireturn d_LC_hasForm_102 rfl rfl ⟨rfl, rfl⟩
            · rw [if_neg hc] at h
              refine zJ_iload_n (n := 78) (j := 2) (x := v40) d_LC_hasForm_77 rfl rfl rfl ?_
              obtain ⟨q78, hq78, h⟩ := zbd h
              refine zS_callSi (n := 81) (avs := [.int v40]) (rest := []) (z := q78) (d' := d - 1) d_LC_hasForm_78 rfl (sk_LC_35 D tt) rfl rfl (Nat.le_of_ble_eq_true rfl) (by omega) (t_ED_indexOf (by omega) hq78) ?_
              refine zJ_iload_n (n := 82) (j := 1) (x := x1) d_LC_hasForm_81 rfl rfl rfl ?_
              obtain ⟨q82, hq82, h⟩ := zbd h
              refine zS_callSi (n := 85) (avs := [.int x1]) (rest := [.int q78.1]) (z := q82) (d' := d - 1) d_LC_hasForm_82 rfl (sk_LC_35 D tt) rfl rfl (Nat.le_of_ble_eq_true rfl) (by omega) (t_ED_indexOf (by omega) hq82) ?_
              refine zJ_aload_n (n := 86) (j := 0) (x := a p0) d_LC_hasForm_85 rfl rfl rfl ?_
              refine zS_getr (n := 89) (k0 := p0) (j := 0) (q := p0 + 1) d_LC_hasForm_86 rfl (fl_LC_23 D tt) (zis_Bu_o g_p0) rfl ?_
              refine zJ_iconst (n := 90) (v := 0) d_LC_hasForm_89 rfl zci_0 ?_
              refine zS_iald (n := 91) (k0 := p0 + 1) (jj := 0) d_LC_hasForm_90 rfl (zis_Bu_1 g_p0) rfl (by decide) (by decide) ?_
              obtain ⟨q91, hq91, h⟩ := zbd h
              refine zS_callSi (n := 94) (avs := [.int q78.1, .int q82.1, .int (q82.2 (p0 + 1) 0)]) (rest := []) (z := q91) (d' := d - 1) d_LC_hasForm_91 rfl (sk_LC_53 D tt) rfl rfl (Nat.le_of_ble_eq_true rfl) (by omega) (t_LC_sharePrefix (by omega) hq91) ?_
              refine zJ_if_eq (t := 101) (n := 97) d_LC_hasForm_94 (by decide) rfl (fun hc => ?_) (fun hc => ?_)
              · rw [if_pos hc] at h
                refine zJ_iconst (n := 102) (v := 0) d_LC_hasForm_101 rfl zci_0 ?_
                cases h
                exact zS_ireturn d_LC_hasForm_102 rfl rfl ⟨rfl, rfl⟩
              · rw [if_neg hc] at h
                refine zJ_iconst (n := 98) (v := 1) d_LC_hasForm_97 rfl zci_1 ?_
                refine zJ_goto (t := 102) d_LC_hasForm_98 (by decide) ?_
                cases h
                exact zS_ireturn d_LC_hasForm_102 rfl rfl ⟨rfl, rfl⟩
        · rw [if_pos hc] at h
          refine zJ_iload_n (n := 54) (j := 3) (x := v47) d_LC_hasForm_53 rfl rfl rfl ?_
          refine zJ_if_ne (t := 61) (n := 57) d_LC_hasForm_54 (by decide) rfl (fun hc => ?_) (fun hc => ?_)
          · rw [if_neg hc] at h
            refine zJ_iconst (n := 62) (v := 0) d_LC_hasForm_61 rfl zci_0 ?_
            cases h
            exact zS_ireturn d_LC_hasForm_62 rfl rfl ⟨rfl, rfl⟩
          · rw [if_pos hc] at h
            refine zJ_iconst (n := 58) (v := 1) d_LC_hasForm_57 rfl zci_1 ?_
            refine zJ_goto (t := 62) d_LC_hasForm_58 (by decide) ?_
            cases h
            exact zS_ireturn d_LC_hasForm_62 rfl rfl ⟨rfl, rfl⟩
      · rw [if_neg hc] at h
        refine zJ_iconst (n := 33) (v := 0) d_LC_hasForm_32 rfl zci_0 ?_
        cases h
        exact zS_ireturn d_LC_hasForm_33 rfl rfl ⟨rfl, rfl⟩
theorem t_LC_keepInput {D : va_G} {tt : ClassId × ClassId × ClassId} {a : Nat → Nat} {d N : Nat} (hd : 1 ≤ d) {t : Nat} {x1 : Int32} {x2 : Int32} {x3 : Int32} {x4 : Int32} {M : zMem} {z : Int32 × zMem} (h : f_LC_keepInput N t x1 x2 x3 x4 M = some z) : zK (zEn D tt) zshp a mz_LC_keepInput d [.ref (a t), .int x1, .int x2, .int x3, .int x4] M (zRi z) := by
  refine zK.enter (L := [some (.ref (a t)), some (.int x1), some (.int x2), some (.int x3), some (.int x4)]) (by decide) rfl (Nat.le_of_ble_eq_true rfl) rfl ?_
  unfold f_LC_keepInput at h
  obtain ⟨g_t, h⟩ := zgd h
  refine zJ_aload_n (n := 1) (j := 0) (x := a t) d_LC_keepInput_0 rfl rfl rfl ?_
  refine zS_getr (n := 4) (k0 := t) (j := 1) (q := t + 1) d_LC_keepInput_1 rfl (fl_LC_9 D tt) (zis_LC_o g_t) rfl ?_
  refine zJ_iconst (n := 5) (v := 3) d_LC_keepInput_4 rfl zci_3 ?_
  refine zJ_iload_n (n := 6) (j := 1) (x := x1) d_LC_keepInput_5 rfl rfl rfl ?_
  refine zJ_imul (n := 7) d_LC_keepInput_6 rfl ?_
  refine zJ_iload_n (n := 8) (j := 2) (x := x2) d_LC_keepInput_7 rfl rfl rfl ?_
  obtain ⟨g8, h⟩ := zgd h
  obtain ⟨M8, hM8, h⟩ := zli h
  refine zS_iastN (n := 9) (k0 := t + 1) d_LC_keepInput_8 rfl (zis_LC_1 g_t) rfl rfl g8 hM8 ?_
  refine zJ_aload_n (n := 10) (j := 0) (x := a t) d_LC_keepInput_9 rfl rfl rfl ?_
  refine zS_getr (n := 13) (k0 := t) (j := 1) (q := t + 1) d_LC_keepInput_10 rfl (fl_LC_9 D tt) (zis_LC_o g_t) rfl ?_
  refine zJ_iconst (n := 14) (v := 3) d_LC_keepInput_13 rfl zci_3 ?_
  refine zJ_iload_n (n := 15) (j := 1) (x := x1) d_LC_keepInput_14 rfl rfl rfl ?_
  refine zJ_imul (n := 16) d_LC_keepInput_15 rfl ?_
  refine zJ_iconst (n := 17) (v := 1) d_LC_keepInput_16 rfl zci_1 ?_
  refine zJ_iadd (n := 18) d_LC_keepInput_17 rfl ?_
  refine zJ_iload_n (n := 19) (j := 3) (x := x3) d_LC_keepInput_18 rfl rfl rfl ?_
  obtain ⟨g19, h⟩ := zgd h
  obtain ⟨M19, hM19, h⟩ := zli h
  refine zS_iastN (n := 20) (k0 := t + 1) d_LC_keepInput_19 rfl (zis_LC_1 g_t) rfl rfl g19 hM19 ?_
  refine zJ_aload_n (n := 21) (j := 0) (x := a t) d_LC_keepInput_20 rfl rfl rfl ?_
  refine zS_getr (n := 24) (k0 := t) (j := 1) (q := t + 1) d_LC_keepInput_21 rfl (fl_LC_9 D tt) (zis_LC_o g_t) rfl ?_
  refine zJ_iconst (n := 25) (v := 3) d_LC_keepInput_24 rfl zci_3 ?_
  refine zJ_iload_n (n := 26) (j := 1) (x := x1) d_LC_keepInput_25 rfl rfl rfl ?_
  refine zJ_imul (n := 27) d_LC_keepInput_26 rfl ?_
  refine zJ_iconst (n := 28) (v := 2) d_LC_keepInput_27 rfl zci_2 ?_
  refine zJ_iadd (n := 29) d_LC_keepInput_28 rfl ?_
  refine zJ_iload (n := 31) (j := 4) (x := x4) d_LC_keepInput_29 rfl rfl ?_
  obtain ⟨g31, h⟩ := zgd h
  obtain ⟨M31, hM31, h⟩ := zli h
  refine zS_iastN (n := 32) (k0 := t + 1) d_LC_keepInput_31 rfl (zis_LC_1 g_t) rfl rfl g31 hM31 ?_
  refine zJ_aload_n (n := 33) (j := 0) (x := a t) d_LC_keepInput_32 rfl rfl rfl ?_
  refine zS_getr (n := 36) (k0 := t) (j := 0) (q := 1) d_LC_keepInput_33 rfl (fl_LC_15 D tt) (zis_LC_o g_t) rfl ?_
  refine zJ_iload_n (n := 37) (j := 2) (x := x2) d_LC_keepInput_36 rfl rfl rfl ?_
  refine zJ_iload_n (n := 38) (j := 3) (x := x3) d_LC_keepInput_37 rfl rfl rfl ?_
  refine zJ_iload (n := 40) (j := 4) (x := x4) d_LC_keepInput_38 rfl rfl ?_
  obtain ⟨q40, hq40, h⟩ := zbd h
  refine zS_callVi (n := 43) (k0 := 1) (avs := [.int x2, .int x3, .int x4]) (rest := []) (z := q40) (d' := d - 1) d_LC_keepInput_40 rfl (vk_LC_65 D tt) rfl rfl rfl (Nat.le_of_ble_eq_true rfl) (by omega) (t_Dg_digest (by omega) hq40) ?_
  cases h
  exact zS_ireturn d_LC_keepInput_43 rfl rfl ⟨rfl, rfl⟩
theorem t_LC_rootOf_b92 {D : va_G} {tt : ClassId × ClassId × ClassId} {a : Nat → Nat} {d N : Nat} (hd : 2 ≤ d) {z : Int32 × zMem} {t : Nat} (g_t : zis_LC t = true) {p1 : Nat} (g_p1 : zis_Bu p1 = true) {k44 : Int32 → Int32 → Int32 → zMem → Option (Int32 × zMem)} (hk44 : ∀ (x2 x3 x4 : Int32) (o5 : Option Value) (M : zMem), k44 x2 x3 x4 M = some z → zS (zEn D tt) zshp a mz_LC_rootOf d zTr (zFs (zEn D tt) zshp a (zRi z)) 44 [some (.ref (a t)), some (.ref (a p1)), some (.int x2), some (.int x3), some (.int x4), o5] [] M) {x2 : Int32} {x4 : Int32} {s0 : Int32} {o3 : Option Value} {o5 : Option Value} {M : zMem} (h : f_LC_rootOf_b92 N k44 t p1 x2 x4 s0 M = some z) : zS (zEn D tt) zshp a mz_LC_rootOf d zTr (zFs (zEn D tt) zshp a (zRi z)) 92 [some (.ref (a t)), some (.ref (a p1)), some (.int x2), o3, some (.int x4), o5] [.int s0] M := by
  unfold f_LC_rootOf_b92 at h
  refine zS_istore_n (n := 93) (j := 3) (x' := s0) d_LC_rootOf_92 rfl rfl (Nat.le_of_ble_eq_true rfl) rfl ?_
  obtain ⟨v93, hv93, h⟩ := zli h
  refine zS_iinc (n := 96) (j := 4) (x := x4) (v := -1) (x' := v93) d_LC_rootOf_93 rfl rfl zci_m1 (Nat.le_of_ble_eq_true rfl) hv93 ?_
  refine zJ_goto (t := 44) d_LC_rootOf_96 (by decide) ?_
  exact hk44 _ _ _ _ _ h
theorem t_LC_rootOf_l44 {D : va_G} {tt : ClassId × ClassId × ClassId} {a : Nat → Nat} {d N : Nat} (hd : 2 ≤ d) {z : Int32 × zMem} {t : Nat} (g_t : zis_LC t = true) {p1 : Nat} (g_p1 : zis_Bu p1 = true) : ∀ (n : Nat), ∀ (x2 x3 x4 : Int32) (o5 : Option Value) (M : zMem), f_LC_rootOf_l44 N t p1 n x2 x3 x4 M = some z → zS (zEn D tt) zshp a mz_LC_rootOf d zTr (zFs (zEn D tt) zshp a (zRi z)) 44 [some (.ref (a t)), some (.ref (a p1)), some (.int x2), some (.int x3), some (.int x4), o5] [] M := by
  intro n
  induction n with
  | zero =>
    intro x2 x3 x4 o5 M h
    rw [f_LC_rootOf_l44] at h
    cases h
  | succ n ih =>
    intro x2 x3 x4 o5 M h
    rw [f_LC_rootOf_l44] at h
    refine zJ_iload (n := 46) (j := 4) (x := x4) d_LC_rootOf_44 rfl rfl ?_
    refine zJ_if_lt (t := 99) (n := 49) d_LC_rootOf_46 (by decide) rfl (fun hc => ?_) (fun hc => ?_)
    · rw [if_pos hc] at h
      refine zJ_iload_n (n := 100) (j := 3) (x := x3) d_LC_rootOf_99 rfl rfl rfl ?_
      cases h
      exact zS_ireturn d_LC_rootOf_100 rfl rfl ⟨rfl, rfl⟩
    · rw [if_neg hc] at h
      refine zJ_aload_n (n := 50) (j := 1) (x := a p1) d_LC_rootOf_49 rfl rfl rfl ?_
      refine zS_getr (n := 53) (k0 := p1) (j := 0) (q := p1 + 1) d_LC_rootOf_50 rfl (fl_LC_23 D tt) (zis_Bu_o g_p1) rfl ?_
      refine zJ_iconst (n := 54) (v := 3) d_LC_rootOf_53 rfl zci_3 ?_
      refine zJ_iload (n := 56) (j := 4) (x := x4) d_LC_rootOf_54 rfl rfl ?_
      refine zJ_iadd (n := 57) d_LC_rootOf_56 rfl ?_
      obtain ⟨g57, h⟩ := zgd h
      refine zS_iald (n := 58) (k0 := p1 + 1) d_LC_rootOf_57 rfl (zis_Bu_1 g_p1) rfl rfl g57 ?_
      obtain ⟨v58, hv58, h⟩ := zli h
      refine zS_istore (n := 60) (j := 5) (x' := v58) d_LC_rootOf_58 rfl (Nat.le_of_ble_eq_true rfl) hv58 ?_
      refine zJ_iload_n (n := 61) (j := 2) (x := x2) d_LC_rootOf_60 rfl rfl rfl ?_
      refine zJ_iload (n := 63) (j := 4) (x := x4) d_LC_rootOf_61 rfl rfl ?_
      obtain ⟨q63, hq63, h⟩ := zbd h
      refine zS_callSi (n := 66) (avs := [.int x2, .int x4]) (rest := []) (z := q63) (d' := d - 1) d_LC_rootOf_63 rfl (sk_LC_61 D tt) rfl rfl (Nat.le_of_ble_eq_true rfl) (by omega) (t_ED_bitOf (by omega) hq63) ?_
      refine zJ_if_ne (t := 82) (n := 69) d_LC_rootOf_66 (by decide) rfl (fun hc => ?_) (fun hc => ?_)
      · rw [if_neg hc] at h
        refine zJ_aload_n (n := 83) (j := 0) (x := a t) d_LC_rootOf_82 rfl rfl rfl ?_
        refine zJ_iload (n := 85) (j := 4) (x := x4) d_LC_rootOf_83 rfl rfl ?_
        refine zJ_iconst (n := 86) (v := 2) d_LC_rootOf_85 rfl zci_2 ?_
        refine zJ_iload (n := 88) (j := 5) (x := v58) d_LC_rootOf_86 rfl rfl ?_
        refine zJ_iload_n (n := 89) (j := 3) (x := x3) d_LC_rootOf_88 rfl rfl rfl ?_
        obtain ⟨q89, hq89, h⟩ := zbd h
        refine zS_callVi (n := 92) (k0 := t) (avs := [.int x4, .int (2 : Int32), .int v58, .int x3]) (rest := []) (z := q89) (d' := d - 1) d_LC_rootOf_89 rfl (vk_LC_57 D tt) (zis_LC_o g_t) rfl rfl (Nat.le_of_ble_eq_true rfl) (by omega) (t_LC_keepInput (by omega) hq89) ?_
        exact t_LC_rootOf_b92 hd g_t g_p1 ih h
      · rw [if_pos hc] at h
        refine zJ_aload_n (n := 70) (j := 0) (x := a t) d_LC_rootOf_69 rfl rfl rfl ?_
        refine zJ_iload (n := 72) (j := 4) (x := x4) d_LC_rootOf_70 rfl rfl ?_
        refine zJ_iconst (n := 73) (v := 2) d_LC_rootOf_72 rfl zci_2 ?_
        refine zJ_iload_n (n := 74) (j := 3) (x := x3) d_LC_rootOf_73 rfl rfl rfl ?_
        refine zJ_iload (n := 76) (j := 5) (x := v58) d_LC_rootOf_74 rfl rfl ?_
        obtain ⟨q76, hq76, h⟩ := zbd h
        refine zS_callVi (n := 79) (k0 := t) (avs := [.int x4, .int (2 : Int32), .int x3, .int v58]) (rest := []) (z := q76) (d' := d - 1) d_LC_rootOf_76 rfl (vk_LC_57 D tt) (zis_LC_o g_t) rfl rfl (Nat.le_of_ble_eq_true rfl) (by omega) (t_LC_keepInput (by omega) hq76) ?_
        refine zJ_goto (t := 92) d_LC_rootOf_79 (by decide) ?_
        exact t_LC_rootOf_b92 hd g_t g_p1 ih h
theorem t_LC_rootOf_b35 {D : va_G} {tt : ClassId × ClassId × ClassId} {a : Nat → Nat} {d N : Nat} (hd : 2 ≤ d) {z : Int32 × zMem} {t : Nat} (g_t : zis_LC t = true) {p1 : Nat} (g_p1 : zis_Bu p1 = true) {x2 : Int32} {s0 : Int32} {o3 : Option Value} {o4 : Option Value} {o5 : Option Value} {M : zMem} (h : f_LC_rootOf_b35 N t p1 x2 s0 M = some z) : zS (zEn D tt) zshp a mz_LC_rootOf d zTr (zFs (zEn D tt) zshp a (zRi z)) 35 [some (.ref (a t)), some (.ref (a p1)), some (.int x2), o3, o4, o5] [.int s0] M := by
  unfold f_LC_rootOf_b35 at h
  refine zS_istore_n (n := 36) (j := 3) (x' := s0) d_LC_rootOf_35 rfl rfl (Nat.le_of_ble_eq_true rfl) rfl ?_
  refine zJ_aload_n (n := 37) (j := 0) (x := a t) d_LC_rootOf_36 rfl rfl rfl ?_
  refine zS_geti (n := 40) (k0 := t) (j := 2) d_LC_rootOf_37 rfl (fl_LC_28 D tt) (zis_LC_o g_t) rfl ?_
  refine zJ_iconst (n := 41) (v := 1) d_LC_rootOf_40 rfl zci_1 ?_
  refine zJ_isub (n := 42) d_LC_rootOf_41 rfl ?_
  obtain ⟨v42, hv42, h⟩ := zli h
  refine zS_istore (n := 44) (j := 4) (x' := v42) d_LC_rootOf_42 rfl (Nat.le_of_ble_eq_true rfl) hv42 ?_
  exact t_LC_rootOf_l44 hd g_t g_p1 N _ _ _ _ _ h
theorem t_LC_rootOf {D : va_G} {tt : ClassId × ClassId × ClassId} {a : Nat → Nat} {d N : Nat} (hd : 2 ≤ d) {t : Nat} {p1 : Nat} {x2 : Int32} {M : zMem} {z : Int32 × zMem} (h : f_LC_rootOf N t p1 x2 M = some z) : zK (zEn D tt) zshp a mz_LC_rootOf d [.ref (a t), .ref (a p1), .int x2] M (zRi z) := by
  refine zK.enter (L := [some (.ref (a t)), some (.ref (a p1)), some (.int x2), none, none, none]) (by decide) rfl (Nat.le_of_ble_eq_true rfl) rfl ?_
  unfold f_LC_rootOf at h
  obtain ⟨g_t, h⟩ := zgd h
  obtain ⟨g_p1, h⟩ := zgd h
  refine zJ_aload_n (n := 1) (j := 1) (x := a p1) d_LC_rootOf_0 rfl rfl rfl ?_
  refine zS_getr (n := 4) (k0 := p1) (j := 0) (q := p1 + 1) d_LC_rootOf_1 rfl (fl_LC_23 D tt) (zis_Bu_o g_p1) rfl ?_
  refine zJ_iconst (n := 5) (v := 1) d_LC_rootOf_4 rfl zci_1 ?_
  refine zS_iald (n := 6) (k0 := p1 + 1) (jj := 1) d_LC_rootOf_5 rfl (zis_Bu_1 g_p1) rfl (by decide) (by decide) ?_
  refine zJ_iconst (n := 7) (v := -1) d_LC_rootOf_6 rfl zci_m1 ?_
  refine zJ_icmp_ne (t := 14) (n := 10) d_LC_rootOf_7 (by decide) rfl (fun hc => ?_) (fun hc => ?_)
  · rw [if_neg hc] at h
    refine zJ_aload_n (n := 15) (j := 0) (x := a t) d_LC_rootOf_14 rfl rfl rfl ?_
    refine zJ_aload_n (n := 16) (j := 0) (x := a t) d_LC_rootOf_15 rfl rfl rfl ?_
    refine zS_geti (n := 19) (k0 := t) (j := 2) d_LC_rootOf_16 rfl (fl_LC_28 D tt) (zis_LC_o g_t) rfl ?_
    refine zJ_iconst (n := 20) (v := 1) d_LC_rootOf_19 rfl zci_1 ?_
    refine zJ_aload_n (n := 21) (j := 1) (x := a p1) d_LC_rootOf_20 rfl rfl rfl ?_
    refine zS_getr (n := 24) (k0 := p1) (j := 0) (q := p1 + 1) d_LC_rootOf_21 rfl (fl_LC_23 D tt) (zis_Bu_o g_p1) rfl ?_
    refine zJ_iconst (n := 25) (v := 1) d_LC_rootOf_24 rfl zci_1 ?_
    refine zS_iald (n := 26) (k0 := p1 + 1) (jj := 1) d_LC_rootOf_25 rfl (zis_Bu_1 g_p1) rfl (by decide) (by decide) ?_
    refine zJ_aload_n (n := 27) (j := 1) (x := a p1) d_LC_rootOf_26 rfl rfl rfl ?_
    refine zS_getr (n := 30) (k0 := p1) (j := 0) (q := p1 + 1) d_LC_rootOf_27 rfl (fl_LC_23 D tt) (zis_Bu_o g_p1) rfl ?_
    refine zJ_iconst (n := 31) (v := 2) d_LC_rootOf_30 rfl zci_2 ?_
    refine zS_iald (n := 32) (k0 := p1 + 1) (jj := 2) d_LC_rootOf_31 rfl (zis_Bu_1 g_p1) rfl (by decide) (by decide) ?_
    obtain ⟨q32, hq32, h⟩ := zbd h
    refine zS_callVi (n := 35) (k0 := t) (avs := [.int (M t 2), .int (1 : Int32), .int (M (p1 + 1) 1), .int (M (p1 + 1) 2)]) (rest := []) (z := q32) (d' := d - 1) d_LC_rootOf_32 rfl (vk_LC_57 D tt) (zis_LC_o g_t) rfl rfl (Nat.le_of_ble_eq_true rfl) (by omega) (t_LC_keepInput (by omega) hq32) ?_
    exact t_LC_rootOf_b35 hd g_t g_p1 h
  · rw [if_pos hc] at h
    refine zJ_iconst (n := 11) (v := 0) d_LC_rootOf_10 rfl zci_0 ?_
    refine zJ_goto (t := 35) d_LC_rootOf_11 (by decide) ?_
    exact t_LC_rootOf_b35 hd g_t g_p1 h
theorem t_LC_accepts_b41 {D : va_G} {tt : ClassId × ClassId × ClassId} {a : Nat → Nat} {d N : Nat} (hd : 3 ≤ d) {z : Int32 × zMem} {t : Nat} (g_t : zis_LC t = true) {p1 : Nat} (g_p1 : zis_Bu p1 = true) {x2 : Int32} {x3 : Int32} {s1 : Int32} {M : zMem} (h : f_LC_accepts_b41 N t p1 x2 x3 s1 M = some z) : zS (zEn D tt) zshp a mz_LC_accepts d zTr (zFs (zEn D tt) zshp a (zRi z)) 41 [some (.ref (a t)), some (.ref (a p1)), some (.int x2), some (.int x3)] [.int s1, .ref (a t)] M := by
  unfold f_LC_accepts_b41 at h
  obtain ⟨M41, hM41, h⟩ := zli h
  refine zS_putN (n := 44) (k0 := t) (j := 3) d_LC_accepts_41 rfl (fl_LC_32 D tt) zty_LC rfl (zis_LC_o g_t) rfl rfl rfl hM41 ?_
  refine zJ_aload_n (n := 45) (j := 0) (x := a t) d_LC_accepts_44 rfl rfl rfl ?_
  refine zJ_aload_n (n := 46) (j := 1) (x := a p1) d_LC_accepts_45 rfl rfl rfl ?_
  refine zJ_iload_n (n := 47) (j := 2) (x := x2) d_LC_accepts_46 rfl rfl rfl ?_
  obtain ⟨q47, hq47, h⟩ := zbd h
  refine zS_callSi (n := 50) (avs := [.int x2]) (rest := [.ref (a p1), .ref (a t)]) (z := q47) (d' := d - 1) d_LC_accepts_47 rfl (sk_LC_35 D tt) rfl rfl (Nat.le_of_ble_eq_true rfl) (by omega) (t_ED_indexOf (by omega) hq47) ?_
  obtain ⟨q50, hq50, h⟩ := zbd h
  refine zS_callVi (n := 53) (k0 := t) (avs := [.ref (a p1), .int q47.1]) (rest := []) (z := q50) (d' := d - 1) d_LC_accepts_50 rfl (vk_LC_39 D tt) (zis_LC_o g_t) rfl rfl (Nat.le_of_ble_eq_true rfl) (by omega) (t_LC_rootOf (by omega) hq50) ?_
  refine zJ_iload_n (n := 54) (j := 3) (x := x3) d_LC_accepts_53 rfl rfl rfl ?_
  refine zJ_icmp_ne (t := 61) (n := 57) d_LC_accepts_54 (by decide) rfl (fun hc => ?_) (fun hc => ?_)
  · rw [if_neg hc] at h
    refine zJ_iconst (n := 62) (v := 0) d_LC_accepts_61 rfl zci_0 ?_
    cases h
    exact zS_ireturn d_LC_accepts_62 rfl rfl ⟨rfl, rfl⟩
  · rw [if_pos hc] at h
    refine zJ_iconst (n := 58) (v := 1) d_LC_accepts_57 rfl zci_1 ?_
    refine zJ_goto (t := 62) d_LC_accepts_58 (by decide) ?_
    cases h
    exact zS_ireturn d_LC_accepts_62 rfl rfl ⟨rfl, rfl⟩
theorem t_LC_accepts {D : va_G} {tt : ClassId × ClassId × ClassId} {a : Nat → Nat} {d N : Nat} (hd : 3 ≤ d) {t : Nat} {p1 : Nat} {x2 : Int32} {x3 : Int32} {M : zMem} {z : Int32 × zMem} (h : f_LC_accepts N t p1 x2 x3 M = some z) : zK (zEn D tt) zshp a mz_LC_accepts d [.ref (a t), .ref (a p1), .int x2, .int x3] M (zRi z) := by
  refine zK.enter (L := [some (.ref (a t)), some (.ref (a p1)), some (.int x2), some (.int x3)]) (by decide) rfl (Nat.le_of_ble_eq_true rfl) rfl ?_
  unfold f_LC_accepts at h
  obtain ⟨g_t, h⟩ := zgd h
  obtain ⟨g_p1, h⟩ := zgd h
  refine zJ_aload_n (n := 1) (j := 1) (x := a p1) d_LC_accepts_0 rfl rfl rfl ?_
  refine zJ_iload_n (n := 2) (j := 2) (x := x2) d_LC_accepts_1 rfl rfl rfl ?_
  obtain ⟨q2, hq2, h⟩ := zbd h
  refine zS_callSi (n := 5) (avs := [.ref (a p1), .int x2]) (rest := []) (z := q2) (d' := d - 1) d_LC_accepts_2 rfl (sk_LC_19 D tt) rfl rfl (Nat.le_of_ble_eq_true rfl) (by omega) (t_LC_hasForm (by omega) hq2) ?_
  refine zJ_if_ne (t := 10) (n := 8) d_LC_accepts_5 (by decide) rfl (fun hc => ?_) (fun hc => ?_)
  · rw [if_neg hc] at h
    refine zJ_aload_n (n := 11) (j := 0) (x := a t) d_LC_accepts_10 rfl rfl rfl ?_
    refine zJ_aload_n (n := 12) (j := 1) (x := a p1) d_LC_accepts_11 rfl rfl rfl ?_
    refine zS_getr (n := 15) (k0 := p1) (j := 0) (q := p1 + 1) d_LC_accepts_12 rfl (fl_LC_23 D tt) (zis_Bu_o g_p1) rfl ?_
    refine zJ_iconst (n := 16) (v := 0) d_LC_accepts_15 rfl zci_0 ?_
    refine zS_iald (n := 17) (k0 := p1 + 1) (jj := 0) d_LC_accepts_16 rfl (zis_Bu_1 g_p1) rfl (by decide) (by decide) ?_
    obtain ⟨M17, hM17, h⟩ := zli h
    refine zS_putN (n := 20) (k0 := t) (j := 2) d_LC_accepts_17 rfl (fl_LC_28 D tt) zty_LC rfl (zis_LC_o g_t) rfl rfl rfl hM17 ?_
    refine zJ_aload_n (n := 21) (j := 0) (x := a t) d_LC_accepts_20 rfl rfl rfl ?_
    refine zJ_aload_n (n := 22) (j := 1) (x := a p1) d_LC_accepts_21 rfl rfl rfl ?_
    refine zS_getr (n := 25) (k0 := p1) (j := 0) (q := p1 + 1) d_LC_accepts_22 rfl (fl_LC_23 D tt) (zis_Bu_o g_p1) rfl ?_
    refine zJ_iconst (n := 26) (v := 1) d_LC_accepts_25 rfl zci_1 ?_
    refine zS_iald (n := 27) (k0 := p1 + 1) (jj := 1) d_LC_accepts_26 rfl (zis_Bu_1 g_p1) rfl (by decide) (by decide) ?_
    refine zJ_iload_n (n := 28) (j := 2) (x := x2) d_LC_accepts_27 rfl rfl rfl ?_
    refine zJ_icmp_ne (t := 40) (n := 31) d_LC_accepts_28 (by decide) rfl (fun hc => ?_) (fun hc => ?_)
    · rw [if_neg hc] at h
      refine zJ_iconst (n := 41) (v := 0) d_LC_accepts_40 rfl zci_0 ?_
      exact t_LC_accepts_b41 hd g_t g_p1 h
    · rw [if_pos hc] at h
      refine zJ_aload_n (n := 32) (j := 1) (x := a p1) d_LC_accepts_31 rfl rfl rfl ?_
      refine zS_getr (n := 35) (k0 := p1) (j := 0) (q := p1 + 1) d_LC_accepts_32 rfl (fl_LC_23 D tt) (zis_Bu_o g_p1) rfl ?_
      refine zJ_iconst (n := 36) (v := 2) d_LC_accepts_35 rfl zci_2 ?_
      refine zS_iald (n := 37) (k0 := p1 + 1) (jj := 2) d_LC_accepts_36 rfl (zis_Bu_1 g_p1) rfl (by decide) (by decide) ?_
      refine zJ_goto (t := 41) d_LC_accepts_37 (by decide) ?_
      exact t_LC_accepts_b41 hd g_t g_p1 h
  · rw [if_pos hc] at h
    refine zJ_iconst (n := 9) (v := 0) d_LC_accepts_8 rfl zci_0 ?_
    cases h
    exact zS_ireturn d_LC_accepts_9 rfl rfl ⟨rfl, rfl⟩
theorem t_ED_check {D : va_G} {tt : ClassId × ClassId × ClassId} {a : Nat → Nat} {d N : Nat} (hd : 4 ≤ d) {x1 : Int32} {x2 : Int32} {x3 : Int32} {M : zMem} {z : Int32 × zMem} (h : f_ED_check N x1 x2 x3 M = some z) : zK (zEn D tt) zshp a mz_ED_check d [.ref (a 0), .int x1, .int x2, .int x3] M (zRi z) := by
  refine zK.enter (L := [some (.ref (a 0)), some (.int x1), some (.int x2), some (.int x3), none]) (by decide) rfl (Nat.le_of_ble_eq_true rfl) rfl ?_
  unfold f_ED_check at h
  refine zJ_aload_n (n := 1) (j := 0) (x := a 0) d_ED_check_0 rfl rfl rfl ?_
  refine zJ_iload_n (n := 2) (j := 1) (x := x1) d_ED_check_1 rfl rfl rfl ?_
  obtain ⟨q2, hq2, h⟩ := zbd h
  refine zS_callVr (n := 5) (k0 := 0) (avs := [.int x1]) (rest := []) (z := q2) (d' := d - 1) d_ED_check_2 rfl (vk_ED_166 D tt) rfl rfl rfl (Nat.le_of_ble_eq_true rfl) (by omega) (t_ED_bufferAt (by omega) hq2) ?_
  rcases zcsi h with ⟨he2, h⟩ | ⟨p2, he2, h⟩
  · rw [he2]
    show zS (zEn D tt) zshp a mz_ED_check d zTr (zFs (zEn D tt) zshp a (zRi z)) 5 [some (.ref (a 0)), some (.int x1), some (.int x2), some (.int x3), none] [.null] q2.2
    refine zJ_astoreN (n := 7) (j := 4) d_ED_check_5 rfl (Nat.le_of_ble_eq_true rfl) ?_
    refine zJ_aloadN (n := 9) (j := 4) d_ED_check_7 rfl rfl ?_
    refine zJ_ifnullN (t := 33) d_ED_check_9 (by decide) ?_
    refine zJ_iconst (n := 34) (v := -1) d_ED_check_33 rfl zci_m1 ?_
    cases h
    exact zS_ireturn d_ED_check_34 rfl rfl ⟨rfl, rfl⟩
  · rw [he2]
    show zS (zEn D tt) zshp a mz_ED_check d zTr (zFs (zEn D tt) zshp a (zRi z)) 5 [some (.ref (a 0)), some (.int x1), some (.int x2), some (.int x3), none] [.ref (a p2)] q2.2
    obtain ⟨g_p2, h⟩ := zgd h
    refine zJ_astore (n := 7) (j := 4) d_ED_check_5 rfl (Nat.le_of_ble_eq_true rfl) ?_
    refine zJ_aload (n := 9) (j := 4) (x := a p2) d_ED_check_7 rfl rfl ?_
    refine zJ_ifnull (n := 12) d_ED_check_9 rfl ?_
    refine zJ_iload_n (n := 13) (j := 2) (x := x2) d_ED_check_12 rfl rfl rfl ?_
    obtain ⟨q13, hq13, h⟩ := zbd h
    refine zS_callSi (n := 16) (avs := [.int x2]) (rest := []) (z := q13) (d' := d - 1) d_ED_check_13 rfl (sk_ED_91 D tt) rfl rfl (Nat.le_of_ble_eq_true rfl) (by omega) (t_ED_isName (by omega) hq13) ?_
    refine zJ_if_eq (t := 33) (n := 19) d_ED_check_16 (by decide) rfl (fun hc => ?_) (fun hc => ?_)
    · rw [if_pos hc] at h
      refine zJ_iconst (n := 34) (v := -1) d_ED_check_33 rfl zci_m1 ?_
      cases h
      exact zS_ireturn d_ED_check_34 rfl rfl ⟨rfl, rfl⟩
    · rw [if_neg hc] at h
      refine zJ_aload_n (n := 20) (j := 0) (x := a 0) d_ED_check_19 rfl rfl rfl ?_
      refine zS_getr (n := 23) (k0 := 0) (j := 7) (q := 36) d_ED_check_20 rfl (fl_ED_65 D tt) rfl rfl ?_
      refine zJ_aload (n := 25) (j := 4) (x := a p2) d_ED_check_23 rfl rfl ?_
      refine zJ_iload_n (n := 26) (j := 2) (x := x2) d_ED_check_25 rfl rfl rfl ?_
      refine zJ_iload_n (n := 27) (j := 3) (x := x3) d_ED_check_26 rfl rfl rfl ?_
      obtain ⟨q27, hq27, h⟩ := zbd h
      refine zS_callVi (n := 30) (k0 := 36) (avs := [.ref (a p2), .int x2, .int x3]) (rest := []) (z := q27) (d' := d - 1) d_ED_check_27 rfl (vk_ED_186 D tt) rfl rfl rfl (Nat.le_of_ble_eq_true rfl) (by omega) (t_LC_accepts (by omega) hq27) ?_
      refine zJ_if_ne (t := 35) (n := 33) d_ED_check_30 (by decide) rfl (fun hc => ?_) (fun hc => ?_)
      · rw [if_neg hc] at h
        refine zJ_aload_n (n := 36) (j := 0) (x := a 0) d_ED_check_35 rfl rfl rfl ?_
        refine zS_getr (n := 39) (k0 := 0) (j := 7) (q := 36) d_ED_check_36 rfl (fl_ED_65 D tt) rfl rfl ?_
        refine zS_geti (n := 42) (k0 := 36) (j := 3) d_ED_check_39 rfl (fl_ED_190 D tt) rfl rfl ?_
        cases h
        exact zS_ireturn d_ED_check_42 rfl rfl ⟨rfl, rfl⟩
      · rw [if_pos hc] at h
        refine zJ_iconst (n := 34) (v := -1) d_ED_check_33 rfl zci_m1 ?_
        cases h
        exact zS_ireturn d_ED_check_34 rfl rfl ⟨rfl, rfl⟩
theorem t_HC_areInOrder {D : va_G} {tt : ClassId × ClassId × ClassId} {a : Nat → Nat} {d N : Nat} (hd : 0 ≤ d) {x0 : Int32} {x1 : Int32} {M : zMem} {z : Int32 × zMem} (h : f_HC_areInOrder N x0 x1 M = some z) : zK (zEn D tt) zshp a mz_HC_areInOrder d [.int x0, .int x1] M (zRi z) := by
  refine zK.enter (L := [some (.int x0), some (.int x1)]) (by decide) rfl (Nat.le_of_ble_eq_true rfl) rfl ?_
  unfold f_HC_areInOrder at h
  refine zJ_iload_n (n := 1) (j := 0) (x := x0) d_HC_areInOrder_0 rfl rfl rfl ?_
  refine zJ_if_lt (t := 19) (n := 4) d_HC_areInOrder_1 (by decide) rfl (fun hc => ?_) (fun hc => ?_)
  · rw [if_pos hc] at h
    refine zJ_iconst (n := 20) (v := 0) d_HC_areInOrder_19 rfl zci_0 ?_
    cases h
    exact zS_ireturn d_HC_areInOrder_20 rfl rfl ⟨rfl, rfl⟩
  · rw [if_neg hc] at h
    refine zJ_iload_n (n := 5) (j := 0) (x := x0) d_HC_areInOrder_4 rfl rfl rfl ?_
    refine zJ_iload_n (n := 6) (j := 1) (x := x1) d_HC_areInOrder_5 rfl rfl rfl ?_
    refine zJ_icmp_gt (t := 19) (n := 9) d_HC_areInOrder_6 (by decide) rfl (fun hc => ?_) (fun hc => ?_)
    · rw [if_pos hc] at h
      refine zJ_iconst (n := 20) (v := 0) d_HC_areInOrder_19 rfl zci_0 ?_
      cases h
      exact zS_ireturn d_HC_areInOrder_20 rfl rfl ⟨rfl, rfl⟩
    · rw [if_neg hc] at h
      refine zJ_iload_n (n := 10) (j := 1) (x := x1) d_HC_areInOrder_9 rfl rfl rfl ?_
      refine zJ_bipush (n := 12) (v := 40) d_HC_areInOrder_10 rfl zcb_40 ?_
      refine zJ_icmp_ge (t := 19) (n := 15) d_HC_areInOrder_12 (by decide) rfl (fun hc => ?_) (fun hc => ?_)
      · rw [if_pos hc] at h
        refine zJ_iconst (n := 20) (v := 0) d_HC_areInOrder_19 rfl zci_0 ?_
        cases h
        exact zS_ireturn d_HC_areInOrder_20 rfl rfl ⟨rfl, rfl⟩
      · rw [if_neg hc] at h
        refine zJ_iconst (n := 16) (v := 1) d_HC_areInOrder_15 rfl zci_1 ?_
        refine zJ_goto (t := 20) d_HC_areInOrder_16 (by decide) ?_
        cases h
        exact zS_ireturn d_HC_areInOrder_20 rfl rfl ⟨rfl, rfl⟩
theorem t_Wy_isOtherBefore {D : va_G} {tt : ClassId × ClassId × ClassId} {a : Nat → Nat} {d N : Nat} (hd : 0 ≤ d) {t : Nat} {x1 : Int32} {M : zMem} {z : Int32 × zMem} (h : f_Wy_isOtherBefore N t x1 M = some z) : zK (zEn D tt) zshp a mz_Wy_isOtherBefore d [.ref (a t), .int x1] M (zRi z) := by
  refine zK.enter (L := [some (.ref (a t)), some (.int x1)]) (by decide) rfl (Nat.le_of_ble_eq_true rfl) rfl ?_
  unfold f_Wy_isOtherBefore at h
  obtain ⟨g_t, h⟩ := zgd h
  refine zJ_aload_n (n := 1) (j := 0) (x := a t) d_Wy_isOtherBefore_0 rfl rfl rfl ?_
  refine zS_getr (n := 4) (k0 := t) (j := 0) (q := t + 1) d_Wy_isOtherBefore_1 rfl (fl_Wy_9 D tt) (zis_Wy_o g_t) rfl ?_
  refine zJ_iload_n (n := 5) (j := 1) (x := x1) d_Wy_isOtherBefore_4 rfl rfl rfl ?_
  obtain ⟨g5, h⟩ := zgd h
  refine zS_iald (n := 6) (k0 := t + 1) d_Wy_isOtherBefore_5 rfl (zis_Wy_1 g_t) rfl rfl g5 ?_
  refine zJ_aload_n (n := 7) (j := 0) (x := a t) d_Wy_isOtherBefore_6 rfl rfl rfl ?_
  refine zS_geti (n := 10) (k0 := t) (j := 3) d_Wy_isOtherBefore_7 rfl (fl_Wy_16 D tt) (zis_Wy_o g_t) rfl ?_
  refine zJ_icmp_ge (t := 17) (n := 13) d_Wy_isOtherBefore_10 (by decide) rfl (fun hc => ?_) (fun hc => ?_)
  · rw [if_pos hc] at h
    refine zJ_iconst (n := 18) (v := 0) d_Wy_isOtherBefore_17 rfl zci_0 ?_
    cases h
    exact zS_ireturn d_Wy_isOtherBefore_18 rfl rfl ⟨rfl, rfl⟩
  · rw [if_neg hc] at h
    refine zJ_iconst (n := 14) (v := 1) d_Wy_isOtherBefore_13 rfl zci_1 ?_
    refine zJ_goto (t := 18) d_Wy_isOtherBefore_14 (by decide) ?_
    cases h
    exact zS_ireturn d_Wy_isOtherBefore_18 rfl rfl ⟨rfl, rfl⟩
theorem t_HC_join {D : va_G} {tt : ClassId × ClassId × ClassId} {a : Nat → Nat} {d N : Nat} (hd : 1 ≤ d) {x1 : Int32} {x2 : Int32} {x3 : Int32} {M : zMem} {z : Int32 × zMem} (h : f_HC_join N x1 x2 x3 M = some z) : zK (zEn D tt) zshp a mz_HC_join d [.ref (a 40), .int x1, .int x2, .int x3] M (zRi z) := by
  refine zK.enter (L := [some (.ref (a 40)), some (.int x1), some (.int x2), some (.int x3)]) (by decide) rfl (Nat.le_of_ble_eq_true rfl) rfl ?_
  unfold f_HC_join at h
  refine zJ_aload_n (n := 1) (j := 0) (x := a 40) d_HC_join_0 rfl rfl rfl ?_
  refine zS_getr (n := 4) (k0 := 40) (j := 1) (q := 41) d_HC_join_1 rfl (fl_HC_12 D tt) rfl rfl ?_
  refine zJ_iload_n (n := 5) (j := 3) (x := x3) d_HC_join_4 rfl rfl rfl ?_
  obtain ⟨q5, hq5, h⟩ := zbd h
  refine zS_callVi (n := 8) (k0 := 41) (avs := [.int x3]) (rest := []) (z := q5) (d' := d - 1) d_HC_join_5 rfl (vk_HC_55 D tt) rfl rfl rfl (Nat.le_of_ble_eq_true rfl) (by omega) (t_Wy_isOtherBefore (by omega) hq5) ?_
  refine zJ_if_eq (t := 24) (n := 11) d_HC_join_8 (by decide) rfl (fun hc => ?_) (fun hc => ?_)
  · rw [if_pos hc] at h
    refine zJ_aload_n (n := 25) (j := 0) (x := a 40) d_HC_join_24 rfl rfl rfl ?_
    refine zS_getr (n := 28) (k0 := 40) (j := 0) (q := 1) d_HC_join_25 rfl (fl_HC_18 D tt) rfl rfl ?_
    refine zJ_iconst (n := 29) (v := 4) d_HC_join_28 rfl zci_4 ?_
    refine zJ_iload_n (n := 30) (j := 1) (x := x1) d_HC_join_29 rfl rfl rfl ?_
    refine zJ_iload_n (n := 31) (j := 2) (x := x2) d_HC_join_30 rfl rfl rfl ?_
    obtain ⟨q31, hq31, h⟩ := zbd h
    refine zS_callVi (n := 34) (k0 := 1) (avs := [.int (4 : Int32), .int x1, .int x2]) (rest := []) (z := q31) (d' := d - 1) d_HC_join_31 rfl (vk_HC_39 D tt) rfl rfl rfl (Nat.le_of_ble_eq_true rfl) (by omega) (t_Dg_digest (by omega) hq31) ?_
    cases h
    exact zS_ireturn d_HC_join_34 rfl rfl ⟨rfl, rfl⟩
  · rw [if_neg hc] at h
    refine zJ_aload_n (n := 12) (j := 0) (x := a 40) d_HC_join_11 rfl rfl rfl ?_
    refine zS_getr (n := 15) (k0 := 40) (j := 0) (q := 1) d_HC_join_12 rfl (fl_HC_18 D tt) rfl rfl ?_
    refine zJ_iconst (n := 16) (v := 4) d_HC_join_15 rfl zci_4 ?_
    refine zJ_iload_n (n := 17) (j := 2) (x := x2) d_HC_join_16 rfl rfl rfl ?_
    refine zJ_iload_n (n := 18) (j := 1) (x := x1) d_HC_join_17 rfl rfl rfl ?_
    obtain ⟨q18, hq18, h⟩ := zbd h
    refine zS_callVi (n := 21) (k0 := 1) (avs := [.int (4 : Int32), .int x2, .int x1]) (rest := []) (z := q18) (d' := d - 1) d_HC_join_18 rfl (vk_HC_39 D tt) rfl rfl rfl (Nat.le_of_ble_eq_true rfl) (by omega) (t_Dg_digest (by omega) hq18) ?_
    refine zJ_goto (t := 34) d_HC_join_21 (by decide) ?_
    cases h
    exact zS_ireturn d_HC_join_34 rfl rfl ⟨rfl, rfl⟩
theorem t_HC_acceptsInclusion_l52 {D : va_G} {tt : ClassId × ClassId × ClassId} {a : Nat → Nat} {d N : Nat} (hd : 2 ≤ d) {z : Int32 × zMem} {p1 : Nat} (g_p1 : zis_Bu p1 = true) : ∀ (n : Nat), ∀ (x5 x6 x7 : Int32) (o2 o3 o4 : Option Value) (M : zMem), f_HC_acceptsInclusion_l52 N p1 n x5 x6 x7 M = some z → zS (zEn D tt) zshp a mz_HC_acceptsInclusion d zTr (zFs (zEn D tt) zshp a (zRi z)) 52 [some (.ref (a 40)), some (.ref (a p1)), o2, o3, o4, some (.int x5), some (.int x6), some (.int x7)] [] M := by
  intro n
  induction n with
  | zero =>
    intro x5 x6 x7 o2 o3 o4 M h
    rw [f_HC_acceptsInclusion_l52] at h
    cases h
  | succ n ih =>
    intro x5 x6 x7 o2 o3 o4 M h
    rw [f_HC_acceptsInclusion_l52] at h
    refine zJ_iload (n := 54) (j := 7) (x := x7) d_HC_acceptsInclusion_52 rfl rfl ?_
    refine zJ_aload_n (n := 55) (j := 0) (x := a 40) d_HC_acceptsInclusion_54 rfl rfl rfl ?_
    refine zS_getr (n := 58) (k0 := 40) (j := 1) (q := 41) d_HC_acceptsInclusion_55 rfl (fl_HC_12 D tt) rfl rfl ?_
    refine zS_geti (n := 61) (k0 := 41) (j := 2) d_HC_acceptsInclusion_58 rfl (fl_HC_36 D tt) rfl rfl ?_
    refine zJ_icmp_ge (t := 97) (n := 64) d_HC_acceptsInclusion_61 (by decide) rfl (fun hc => ?_) (fun hc => ?_)
    · rw [if_pos hc] at h
      refine zJ_iload (n := 99) (j := 6) (x := x6) d_HC_acceptsInclusion_97 rfl rfl ?_
      refine zJ_iload (n := 101) (j := 5) (x := x5) d_HC_acceptsInclusion_99 rfl rfl ?_
      refine zJ_icmp_ne (t := 108) (n := 104) d_HC_acceptsInclusion_101 (by decide) rfl (fun hc => ?_) (fun hc => ?_)
      · rw [if_neg hc] at h
        refine zJ_iconst (n := 109) (v := 0) d_HC_acceptsInclusion_108 rfl zci_0 ?_
        cases h
        exact zS_ireturn d_HC_acceptsInclusion_109 rfl rfl ⟨rfl, rfl⟩
      · rw [if_pos hc] at h
        refine zJ_iconst (n := 105) (v := 1) d_HC_acceptsInclusion_104 rfl zci_1 ?_
        refine zJ_goto (t := 109) d_HC_acceptsInclusion_105 (by decide) ?_
        cases h
        exact zS_ireturn d_HC_acceptsInclusion_109 rfl rfl ⟨rfl, rfl⟩
    · rw [if_neg hc] at h
      refine zJ_aload_n (n := 65) (j := 0) (x := a 40) d_HC_acceptsInclusion_64 rfl rfl rfl ?_
      refine zJ_iload (n := 67) (j := 6) (x := x6) d_HC_acceptsInclusion_65 rfl rfl ?_
      refine zJ_aload_n (n := 68) (j := 1) (x := a p1) d_HC_acceptsInclusion_67 rfl rfl rfl ?_
      refine zS_getr (n := 71) (k0 := p1) (j := 0) (q := p1 + 1) d_HC_acceptsInclusion_68 rfl (fl_HC_45 D tt) (zis_Bu_o g_p1) rfl ?_
      refine zJ_iload (n := 73) (j := 7) (x := x7) d_HC_acceptsInclusion_71 rfl rfl ?_
      obtain ⟨g73, h⟩ := zgd h
      refine zS_iald (n := 74) (k0 := p1 + 1) d_HC_acceptsInclusion_73 rfl (zis_Bu_1 g_p1) rfl rfl g73 ?_
      refine zJ_aload_n (n := 75) (j := 0) (x := a 40) d_HC_acceptsInclusion_74 rfl rfl rfl ?_
      refine zS_getr (n := 78) (k0 := 40) (j := 1) (q := 41) d_HC_acceptsInclusion_75 rfl (fl_HC_12 D tt) rfl rfl ?_
      refine zS_geti (n := 81) (k0 := 41) (j := 2) d_HC_acceptsInclusion_78 rfl (fl_HC_36 D tt) rfl rfl ?_
      refine zJ_iconst (n := 82) (v := 1) d_HC_acceptsInclusion_81 rfl zci_1 ?_
      refine zJ_isub (n := 83) d_HC_acceptsInclusion_82 rfl ?_
      refine zJ_iload (n := 85) (j := 7) (x := x7) d_HC_acceptsInclusion_83 rfl rfl ?_
      refine zJ_isub (n := 86) d_HC_acceptsInclusion_85 rfl ?_
      obtain ⟨q86, hq86, h⟩ := zbd h
      refine zS_callVi (n := 89) (k0 := 40) (avs := [.int x6, .int (M (p1 + 1) x7.toNatClampNeg), .int (((M 41 2) - (1 : Int32)) - x7)]) (rest := []) (z := q86) (d' := d - 1) d_HC_acceptsInclusion_86 rfl (vk_HC_49 D tt) rfl rfl rfl (Nat.le_of_ble_eq_true rfl) (by omega) (t_HC_join (by omega) hq86) ?_
      refine zS_istore (n := 91) (j := 6) (x' := q86.1) d_HC_acceptsInclusion_89 rfl (Nat.le_of_ble_eq_true rfl) rfl ?_
      obtain ⟨v91, hv91, h⟩ := zli h
      refine zS_iinc (n := 94) (j := 7) (x := x7) (v := 1) (x' := v91) d_HC_acceptsInclusion_91 rfl rfl zci_1 (Nat.le_of_ble_eq_true rfl) hv91 ?_
      refine zJ_goto (t := 52) d_HC_acceptsInclusion_94 (by decide) ?_
      exact ih _ _ _ _ _ _ _ h
theorem t_HC_acceptsInclusion {D : va_G} {tt : ClassId × ClassId × ClassId} {a : Nat → Nat} {d N : Nat} (hd : 2 ≤ d) {p1 : Nat} {x2 : Int32} {x3 : Int32} {x4 : Int32} {x5 : Int32} {M : zMem} {z : Int32 × zMem} (h : f_HC_acceptsInclusion N p1 x2 x3 x4 x5 M = some z) : zK (zEn D tt) zshp a mz_HC_acceptsInclusion d [.ref (a 40), .ref (a p1), .int x2, .int x3, .int x4, .int x5] M (zRi z) := by
  refine zK.enter (L := [some (.ref (a 40)), some (.ref (a p1)), some (.int x2), some (.int x3), some (.int x4), some (.int x5), none, none]) (by decide) rfl (Nat.le_of_ble_eq_true rfl) rfl ?_
  unfold f_HC_acceptsInclusion at h
  obtain ⟨g_p1, h⟩ := zgd h
  refine zJ_iload_n (n := 1) (j := 2) (x := x2) d_HC_acceptsInclusion_0 rfl rfl rfl ?_
  refine zJ_iload_n (n := 2) (j := 3) (x := x3) d_HC_acceptsInclusion_1 rfl rfl rfl ?_
  obtain ⟨q2, hq2, h⟩ := zbd h
  refine zS_callSi (n := 5) (avs := [.int x2, .int x3]) (rest := []) (z := q2) (d' := d - 1) d_HC_acceptsInclusion_2 rfl (sk_HC_22 D tt) rfl rfl (Nat.le_of_ble_eq_true rfl) (by omega) (t_HC_areInOrder (by omega) hq2) ?_
  refine zJ_if_ne (t := 10) (n := 8) d_HC_acceptsInclusion_5 (by decide) rfl (fun hc => ?_) (fun hc => ?_)
  · rw [if_neg hc] at h
    refine zJ_aload_n (n := 11) (j := 0) (x := a 40) d_HC_acceptsInclusion_10 rfl rfl rfl ?_
    refine zS_getr (n := 14) (k0 := 40) (j := 1) (q := 41) d_HC_acceptsInclusion_11 rfl (fl_HC_12 D tt) rfl rfl ?_
    refine zJ_iload_n (n := 15) (j := 2) (x := x2) d_HC_acceptsInclusion_14 rfl rfl rfl ?_
    refine zJ_iload_n (n := 16) (j := 3) (x := x3) d_HC_acceptsInclusion_15 rfl rfl rfl ?_
    refine zJ_iconst (n := 17) (v := 1) d_HC_acceptsInclusion_16 rfl zci_1 ?_
    obtain ⟨q17, hq17, h⟩ := zbd h
    refine zS_callVv (n := 20) (k0 := 41) (avs := [.int x2, .int x3, .int (1 : Int32)]) (rest := []) (z := q17) (d' := d - 1) d_HC_acceptsInclusion_17 rfl (vk_HC_26 D tt) rfl rfl rfl (Nat.le_of_ble_eq_true rfl) (by omega) (t_Wy_go (by omega) hq17) ?_
    refine zJ_aload_n (n := 21) (j := 1) (x := a p1) d_HC_acceptsInclusion_20 rfl rfl rfl ?_
    refine zS_geti (n := 24) (k0 := p1) (j := 1) d_HC_acceptsInclusion_21 rfl (fl_HC_30 D tt) (zis_Bu_o g_p1) rfl ?_
    refine zJ_aload_n (n := 25) (j := 0) (x := a 40) d_HC_acceptsInclusion_24 rfl rfl rfl ?_
    refine zS_getr (n := 28) (k0 := 40) (j := 1) (q := 41) d_HC_acceptsInclusion_25 rfl (fl_HC_12 D tt) rfl rfl ?_
    refine zS_geti (n := 31) (k0 := 41) (j := 2) d_HC_acceptsInclusion_28 rfl (fl_HC_36 D tt) rfl rfl ?_
    refine zJ_icmp_eq (t := 36) (n := 34) d_HC_acceptsInclusion_31 (by decide) rfl (fun hc => ?_) (fun hc => ?_)
    · rw [if_pos hc] at h
      refine zJ_aload_n (n := 37) (j := 0) (x := a 40) d_HC_acceptsInclusion_36 rfl rfl rfl ?_
      refine zS_getr (n := 40) (k0 := 40) (j := 0) (q := 1) d_HC_acceptsInclusion_37 rfl (fl_HC_18 D tt) rfl rfl ?_
      refine zJ_iconst (n := 41) (v := 3) d_HC_acceptsInclusion_40 rfl zci_3 ?_
      refine zJ_iload (n := 43) (j := 4) (x := x4) d_HC_acceptsInclusion_41 rfl rfl ?_
      refine zJ_iload_n (n := 44) (j := 2) (x := x2) d_HC_acceptsInclusion_43 rfl rfl rfl ?_
      obtain ⟨q44, hq44, h⟩ := zbd h
      refine zS_callVi (n := 47) (k0 := 1) (avs := [.int (3 : Int32), .int x4, .int x2]) (rest := []) (z := q44) (d' := d - 1) d_HC_acceptsInclusion_44 rfl (vk_HC_39 D tt) rfl rfl rfl (Nat.le_of_ble_eq_true rfl) (by omega) (t_Dg_digest (by omega) hq44) ?_
      refine zS_istore (n := 49) (j := 6) (x' := q44.1) d_HC_acceptsInclusion_47 rfl (Nat.le_of_ble_eq_true rfl) rfl ?_
      refine zJ_iconst (n := 50) (v := 0) d_HC_acceptsInclusion_49 rfl zci_0 ?_
      refine zS_istore (n := 52) (j := 7) (x' := (0 : Int32)) d_HC_acceptsInclusion_50 rfl (Nat.le_of_ble_eq_true rfl) rfl ?_
      exact t_HC_acceptsInclusion_l52 hd g_p1 N _ _ _ _ _ _ _ h
    · rw [if_neg hc] at h
      refine zJ_iconst (n := 35) (v := 0) d_HC_acceptsInclusion_34 rfl zci_0 ?_
      cases h
      exact zS_ireturn d_HC_acceptsInclusion_35 rfl rfl ⟨rfl, rfl⟩
  · rw [if_pos hc] at h
    refine zJ_iconst (n := 9) (v := 0) d_HC_acceptsInclusion_8 rfl zci_0 ?_
    cases h
    exact zS_ireturn d_HC_acceptsInclusion_9 rfl rfl ⟨rfl, rfl⟩
theorem t_ED_included {D : va_G} {tt : ClassId × ClassId × ClassId} {a : Nat → Nat} {d N : Nat} (hd : 3 ≤ d) {x1 : Int32} {x2 : Int32} {x3 : Int32} {x4 : Int32} {x5 : Int32} {M : zMem} {z : Int32 × zMem} (h : f_ED_included N x1 x2 x3 x4 x5 M = some z) : zK (zEn D tt) zshp a mz_ED_included d [.ref (a 0), .int x1, .int x2, .int x3, .int x4, .int x5] M (zRi z) := by
  refine zK.enter (L := [some (.ref (a 0)), some (.int x1), some (.int x2), some (.int x3), some (.int x4), some (.int x5), none]) (by decide) rfl (Nat.le_of_ble_eq_true rfl) rfl ?_
  unfold f_ED_included at h
  refine zJ_aload_n (n := 1) (j := 0) (x := a 0) d_ED_included_0 rfl rfl rfl ?_
  refine zJ_iload_n (n := 2) (j := 1) (x := x1) d_ED_included_1 rfl rfl rfl ?_
  obtain ⟨q2, hq2, h⟩ := zbd h
  refine zS_callVr (n := 5) (k0 := 0) (avs := [.int x1]) (rest := []) (z := q2) (d' := d - 1) d_ED_included_2 rfl (vk_ED_166 D tt) rfl rfl rfl (Nat.le_of_ble_eq_true rfl) (by omega) (t_ED_bufferAt (by omega) hq2) ?_
  rcases zcsi h with ⟨he2, h⟩ | ⟨p2, he2, h⟩
  · rw [he2]
    show zS (zEn D tt) zshp a mz_ED_included d zTr (zFs (zEn D tt) zshp a (zRi z)) 5 [some (.ref (a 0)), some (.int x1), some (.int x2), some (.int x3), some (.int x4), some (.int x5), none] [.null] q2.2
    refine zJ_astoreN (n := 7) (j := 6) d_ED_included_5 rfl (Nat.le_of_ble_eq_true rfl) ?_
    refine zJ_aloadN (n := 9) (j := 6) d_ED_included_7 rfl rfl ?_
    refine zJ_ifnullN (t := 34) d_ED_included_9 (by decide) ?_
    refine zJ_iconst (n := 35) (v := 0) d_ED_included_34 rfl zci_0 ?_
    cases h
    exact zS_ireturn d_ED_included_35 rfl rfl ⟨rfl, rfl⟩
  · rw [he2]
    show zS (zEn D tt) zshp a mz_ED_included d zTr (zFs (zEn D tt) zshp a (zRi z)) 5 [some (.ref (a 0)), some (.int x1), some (.int x2), some (.int x3), some (.int x4), some (.int x5), none] [.ref (a p2)] q2.2
    obtain ⟨g_p2, h⟩ := zgd h
    refine zJ_astore (n := 7) (j := 6) d_ED_included_5 rfl (Nat.le_of_ble_eq_true rfl) ?_
    refine zJ_aload (n := 9) (j := 6) (x := a p2) d_ED_included_7 rfl rfl ?_
    refine zJ_ifnull (n := 12) d_ED_included_9 rfl ?_
    refine zJ_aload_n (n := 13) (j := 0) (x := a 0) d_ED_included_12 rfl rfl rfl ?_
    refine zS_getr (n := 16) (k0 := 0) (j := 9) (q := 40) d_ED_included_13 rfl (fl_ED_75 D tt) rfl rfl ?_
    refine zJ_aload (n := 18) (j := 6) (x := a p2) d_ED_included_16 rfl rfl ?_
    refine zJ_iload_n (n := 19) (j := 2) (x := x2) d_ED_included_18 rfl rfl rfl ?_
    refine zJ_iload_n (n := 20) (j := 3) (x := x3) d_ED_included_19 rfl rfl rfl ?_
    refine zJ_iload (n := 22) (j := 4) (x := x4) d_ED_included_20 rfl rfl ?_
    refine zJ_iload (n := 24) (j := 5) (x := x5) d_ED_included_22 rfl rfl ?_
    obtain ⟨q24, hq24, h⟩ := zbd h
    refine zS_callVi (n := 27) (k0 := 40) (avs := [.ref (a p2), .int x2, .int x3, .int x4, .int x5]) (rest := []) (z := q24) (d' := d - 1) d_ED_included_24 rfl (vk_ED_193 D tt) rfl rfl rfl (Nat.le_of_ble_eq_true rfl) (by omega) (t_HC_acceptsInclusion (by omega) hq24) ?_
    refine zJ_if_eq (t := 34) (n := 30) d_ED_included_27 (by decide) rfl (fun hc => ?_) (fun hc => ?_)
    · rw [if_pos hc] at h
      refine zJ_iconst (n := 35) (v := 0) d_ED_included_34 rfl zci_0 ?_
      cases h
      exact zS_ireturn d_ED_included_35 rfl rfl ⟨rfl, rfl⟩
    · rw [if_neg hc] at h
      refine zJ_iconst (n := 31) (v := 1) d_ED_included_30 rfl zci_1 ?_
      refine zJ_goto (t := 35) d_ED_included_31 (by decide) ?_
      cases h
      exact zS_ireturn d_ED_included_35 rfl rfl ⟨rfl, rfl⟩
theorem t_HC_acceptsConsistency_b159 {D : va_G} {tt : ClassId × ClassId × ClassId} {a : Nat → Nat} {d N : Nat} (hd : 2 ≤ d) {z : Int32 × zMem} {p1 : Nat} (g_p1 : zis_Bu p1 = true) {k82 : Int32 → Int32 → Int32 → Int32 → Int32 → Int32 → zMem → Option (Int32 × zMem)} (hk82 : ∀ (x4 x5 x6 x7 x8 x9 : Int32) (o2 o3 o10 o11 : Option Value) (M : zMem), k82 x4 x5 x6 x7 x8 x9 M = some z → zS (zEn D tt) zshp a mz_HC_acceptsConsistency d zTr (zFs (zEn D tt) zshp a (zRi z)) 82 [some (.ref (a 40)), some (.ref (a p1)), o2, o3, some (.int x4), some (.int x5), some (.int x6), some (.int x7), some (.int x8), some (.int x9), o10, o11] [] M) {x4 : Int32} {x5 : Int32} {x6 : Int32} {x7 : Int32} {x9 : Int32} {s0 : Int32} {o2 : Option Value} {o3 : Option Value} {o8 : Option Value} {o10 : Option Value} {o11 : Option Value} {M : zMem} (h : f_HC_acceptsConsistency_b159 N k82 p1 x4 x5 x6 x7 x9 s0 M = some z) : zS (zEn D tt) zshp a mz_HC_acceptsConsistency d zTr (zFs (zEn D tt) zshp a (zRi z)) 159 [some (.ref (a 40)), some (.ref (a p1)), o2, o3, some (.int x4), some (.int x5), some (.int x6), some (.int x7), o8, some (.int x9), o10, o11] [.int s0] M := by
  unfold f_HC_acceptsConsistency_b159 at h
  refine zS_istore (n := 161) (j := 8) (x' := s0) d_HC_acceptsConsistency_159 rfl (Nat.le_of_ble_eq_true rfl) rfl ?_
  obtain ⟨v161, hv161, h⟩ := zli h
  refine zS_iinc (n := 164) (j := 9) (x := x9) (v := 1) (x' := v161) d_HC_acceptsConsistency_161 rfl rfl zci_1 (Nat.le_of_ble_eq_true rfl) hv161 ?_
  refine zJ_goto (t := 82) d_HC_acceptsConsistency_164 (by decide) ?_
  exact hk82 _ _ _ _ _ _ _ _ _ _ _ h
theorem t_HC_acceptsConsistency_l82 {D : va_G} {tt : ClassId × ClassId × ClassId} {a : Nat → Nat} {d N : Nat} (hd : 2 ≤ d) {z : Int32 × zMem} {p1 : Nat} (g_p1 : zis_Bu p1 = true) : ∀ (n : Nat), ∀ (x4 x5 x6 x7 x8 x9 : Int32) (o2 o3 o10 o11 : Option Value) (M : zMem), f_HC_acceptsConsistency_l82 N p1 n x4 x5 x6 x7 x8 x9 M = some z → zS (zEn D tt) zshp a mz_HC_acceptsConsistency d zTr (zFs (zEn D tt) zshp a (zRi z)) 82 [some (.ref (a 40)), some (.ref (a p1)), o2, o3, some (.int x4), some (.int x5), some (.int x6), some (.int x7), some (.int x8), some (.int x9), o10, o11] [] M := by
  intro n
  induction n with
  | zero =>
    intro x4 x5 x6 x7 x8 x9 o2 o3 o10 o11 M h
    rw [f_HC_acceptsConsistency_l82] at h
    cases h
  | succ n ih =>
    intro x4 x5 x6 x7 x8 x9 o2 o3 o10 o11 M h
    rw [f_HC_acceptsConsistency_l82] at h
    refine zJ_iload (n := 84) (j := 9) (x := x9) d_HC_acceptsConsistency_82 rfl rfl ?_
    refine zJ_aload_n (n := 85) (j := 0) (x := a 40) d_HC_acceptsConsistency_84 rfl rfl rfl ?_
    refine zS_getr (n := 88) (k0 := 40) (j := 1) (q := 41) d_HC_acceptsConsistency_85 rfl (fl_HC_12 D tt) rfl rfl ?_
    refine zS_geti (n := 91) (k0 := 41) (j := 2) d_HC_acceptsConsistency_88 rfl (fl_HC_36 D tt) rfl rfl ?_
    refine zJ_icmp_ge (t := 167) (n := 94) d_HC_acceptsConsistency_91 (by decide) rfl (fun hc => ?_) (fun hc => ?_)
    · rw [if_pos hc] at h
      refine zJ_iload (n := 169) (j := 8) (x := x8) d_HC_acceptsConsistency_167 rfl rfl ?_
      refine zJ_iload (n := 171) (j := 4) (x := x4) d_HC_acceptsConsistency_169 rfl rfl ?_
      refine zJ_icmp_ne (t := 185) (n := 174) d_HC_acceptsConsistency_171 (by decide) rfl (fun hc => ?_) (fun hc => ?_)
      · rw [if_neg hc] at h
        refine zJ_iconst (n := 186) (v := 0) d_HC_acceptsConsistency_185 rfl zci_0 ?_
        cases h
        exact zS_ireturn d_HC_acceptsConsistency_186 rfl rfl ⟨rfl, rfl⟩
      · rw [if_pos hc] at h
        refine zJ_iload (n := 176) (j := 7) (x := x7) d_HC_acceptsConsistency_174 rfl rfl ?_
        refine zJ_iload (n := 178) (j := 5) (x := x5) d_HC_acceptsConsistency_176 rfl rfl ?_
        refine zJ_icmp_ne (t := 185) (n := 181) d_HC_acceptsConsistency_178 (by decide) rfl (fun hc => ?_) (fun hc => ?_)
        · rw [if_neg hc] at h
          refine zJ_iconst (n := 186) (v := 0) d_HC_acceptsConsistency_185 rfl zci_0 ?_
          cases h
          exact zS_ireturn d_HC_acceptsConsistency_186 rfl rfl ⟨rfl, rfl⟩
        · rw [if_pos hc] at h
          refine zJ_iconst (n := 182) (v := 1) d_HC_acceptsConsistency_181 rfl zci_1 ?_
          refine zJ_goto (t := 186) d_HC_acceptsConsistency_182 (by decide) ?_
          cases h
          exact zS_ireturn d_HC_acceptsConsistency_186 rfl rfl ⟨rfl, rfl⟩
    · rw [if_neg hc] at h
      refine zJ_aload_n (n := 95) (j := 0) (x := a 40) d_HC_acceptsConsistency_94 rfl rfl rfl ?_
      refine zS_getr (n := 98) (k0 := 40) (j := 1) (q := 41) d_HC_acceptsConsistency_95 rfl (fl_HC_12 D tt) rfl rfl ?_
      refine zS_geti (n := 101) (k0 := 41) (j := 2) d_HC_acceptsConsistency_98 rfl (fl_HC_36 D tt) rfl rfl ?_
      refine zJ_iconst (n := 102) (v := 1) d_HC_acceptsConsistency_101 rfl zci_1 ?_
      refine zJ_isub (n := 103) d_HC_acceptsConsistency_102 rfl ?_
      refine zJ_iload (n := 105) (j := 9) (x := x9) d_HC_acceptsConsistency_103 rfl rfl ?_
      refine zJ_isub (n := 106) d_HC_acceptsConsistency_105 rfl ?_
      obtain ⟨v106, hv106, h⟩ := zli h
      refine zS_istore (n := 108) (j := 10) (x' := v106) d_HC_acceptsConsistency_106 rfl (Nat.le_of_ble_eq_true rfl) hv106 ?_
      refine zJ_aload_n (n := 109) (j := 1) (x := a p1) d_HC_acceptsConsistency_108 rfl rfl rfl ?_
      refine zS_getr (n := 112) (k0 := p1) (j := 0) (q := p1 + 1) d_HC_acceptsConsistency_109 rfl (fl_HC_45 D tt) (zis_Bu_o g_p1) rfl ?_
      refine zJ_iload (n := 114) (j := 6) (x := x6) d_HC_acceptsConsistency_112 rfl rfl ?_
      refine zJ_iload (n := 116) (j := 9) (x := x9) d_HC_acceptsConsistency_114 rfl rfl ?_
      refine zJ_iadd (n := 117) d_HC_acceptsConsistency_116 rfl ?_
      obtain ⟨g117, h⟩ := zgd h
      refine zS_iald (n := 118) (k0 := p1 + 1) d_HC_acceptsConsistency_117 rfl (zis_Bu_1 g_p1) rfl rfl g117 ?_
      obtain ⟨v118, hv118, h⟩ := zli h
      refine zS_istore (n := 120) (j := 11) (x' := v118) d_HC_acceptsConsistency_118 rfl (Nat.le_of_ble_eq_true rfl) hv118 ?_
      refine zJ_aload_n (n := 121) (j := 0) (x := a 40) d_HC_acceptsConsistency_120 rfl rfl rfl ?_
      refine zJ_iload (n := 123) (j := 7) (x := x7) d_HC_acceptsConsistency_121 rfl rfl ?_
      refine zJ_iload (n := 125) (j := 11) (x := v118) d_HC_acceptsConsistency_123 rfl rfl ?_
      refine zJ_iload (n := 127) (j := 10) (x := v106) d_HC_acceptsConsistency_125 rfl rfl ?_
      obtain ⟨q127, hq127, h⟩ := zbd h
      refine zS_callVi (n := 130) (k0 := 40) (avs := [.int x7, .int v118, .int v106]) (rest := []) (z := q127) (d' := d - 1) d_HC_acceptsConsistency_127 rfl (vk_HC_49 D tt) rfl rfl rfl (Nat.le_of_ble_eq_true rfl) (by omega) (t_HC_join (by omega) hq127) ?_
      refine zS_istore (n := 132) (j := 7) (x' := q127.1) d_HC_acceptsConsistency_130 rfl (Nat.le_of_ble_eq_true rfl) rfl ?_
      refine zJ_aload_n (n := 133) (j := 0) (x := a 40) d_HC_acceptsConsistency_132 rfl rfl rfl ?_
      refine zS_getr (n := 136) (k0 := 40) (j := 1) (q := 41) d_HC_acceptsConsistency_133 rfl (fl_HC_12 D tt) rfl rfl ?_
      refine zJ_iload (n := 138) (j := 10) (x := v106) d_HC_acceptsConsistency_136 rfl rfl ?_
      obtain ⟨q138, hq138, h⟩ := zbd h
      refine zS_callVi (n := 141) (k0 := 41) (avs := [.int v106]) (rest := []) (z := q138) (d' := d - 1) d_HC_acceptsConsistency_138 rfl (vk_HC_55 D tt) rfl rfl rfl (Nat.le_of_ble_eq_true rfl) (by omega) (t_Wy_isOtherBefore (by omega) hq138) ?_
      refine zJ_if_eq (t := 157) (n := 144) d_HC_acceptsConsistency_141 (by decide) rfl (fun hc => ?_) (fun hc => ?_)
      · rw [if_pos hc] at h
        refine zJ_iload (n := 159) (j := 8) (x := x8) d_HC_acceptsConsistency_157 rfl rfl ?_
        exact t_HC_acceptsConsistency_b159 hd g_p1 ih h
      · rw [if_neg hc] at h
        refine zJ_aload_n (n := 145) (j := 0) (x := a 40) d_HC_acceptsConsistency_144 rfl rfl rfl ?_
        refine zJ_iload (n := 147) (j := 8) (x := x8) d_HC_acceptsConsistency_145 rfl rfl ?_
        refine zJ_iload (n := 149) (j := 11) (x := v118) d_HC_acceptsConsistency_147 rfl rfl ?_
        refine zJ_iload (n := 151) (j := 10) (x := v106) d_HC_acceptsConsistency_149 rfl rfl ?_
        obtain ⟨q151, hq151, h⟩ := zbd h
        refine zS_callVi (n := 154) (k0 := 40) (avs := [.int x8, .int v118, .int v106]) (rest := []) (z := q151) (d' := d - 1) d_HC_acceptsConsistency_151 rfl (vk_HC_49 D tt) rfl rfl rfl (Nat.le_of_ble_eq_true rfl) (by omega) (t_HC_join (by omega) hq151) ?_
        refine zJ_goto (t := 159) d_HC_acceptsConsistency_154 (by decide) ?_
        exact t_HC_acceptsConsistency_b159 hd g_p1 ih h
theorem t_HC_acceptsConsistency_b73 {D : va_G} {tt : ClassId × ClassId × ClassId} {a : Nat → Nat} {d N : Nat} (hd : 2 ≤ d) {z : Int32 × zMem} {p1 : Nat} (g_p1 : zis_Bu p1 = true) {x4 : Int32} {x5 : Int32} {x6 : Int32} {s0 : Int32} {o2 : Option Value} {o3 : Option Value} {o7 : Option Value} {o8 : Option Value} {o9 : Option Value} {o10 : Option Value} {o11 : Option Value} {M : zMem} (h : f_HC_acceptsConsistency_b73 N p1 x4 x5 x6 s0 M = some z) : zS (zEn D tt) zshp a mz_HC_acceptsConsistency d zTr (zFs (zEn D tt) zshp a (zRi z)) 73 [some (.ref (a 40)), some (.ref (a p1)), o2, o3, some (.int x4), some (.int x5), some (.int x6), o7, o8, o9, o10, o11] [.int s0] M := by
  unfold f_HC_acceptsConsistency_b73 at h
  refine zS_istore (n := 75) (j := 7) (x' := s0) d_HC_acceptsConsistency_73 rfl (Nat.le_of_ble_eq_true rfl) rfl ?_
  refine zJ_iload (n := 77) (j := 7) (x := s0) d_HC_acceptsConsistency_75 rfl rfl ?_
  refine zS_istore (n := 79) (j := 8) (x' := s0) d_HC_acceptsConsistency_77 rfl (Nat.le_of_ble_eq_true rfl) rfl ?_
  refine zJ_iconst (n := 80) (v := 0) d_HC_acceptsConsistency_79 rfl zci_0 ?_
  refine zS_istore (n := 82) (j := 9) (x' := (0 : Int32)) d_HC_acceptsConsistency_80 rfl (Nat.le_of_ble_eq_true rfl) rfl ?_
  exact t_HC_acceptsConsistency_l82 hd g_p1 N _ _ _ _ _ _ _ _ _ _ _ h
theorem t_HC_acceptsConsistency_b35 {D : va_G} {tt : ClassId × ClassId × ClassId} {a : Nat → Nat} {d N : Nat} (hd : 2 ≤ d) {z : Int32 × zMem} {p1 : Nat} (g_p1 : zis_Bu p1 = true) {x4 : Int32} {x5 : Int32} {s0 : Int32} {o2 : Option Value} {o3 : Option Value} {o6 : Option Value} {o7 : Option Value} {o8 : Option Value} {o9 : Option Value} {o10 : Option Value} {o11 : Option Value} {M : zMem} (h : f_HC_acceptsConsistency_b35 N p1 x4 x5 s0 M = some z) : zS (zEn D tt) zshp a mz_HC_acceptsConsistency d zTr (zFs (zEn D tt) zshp a (zRi z)) 35 [some (.ref (a 40)), some (.ref (a p1)), o2, o3, some (.int x4), some (.int x5), o6, o7, o8, o9, o10, o11] [.int s0] M := by
  unfold f_HC_acceptsConsistency_b35 at h
  refine zS_istore (n := 37) (j := 6) (x' := s0) d_HC_acceptsConsistency_35 rfl (Nat.le_of_ble_eq_true rfl) rfl ?_
  refine zJ_aload_n (n := 38) (j := 1) (x := a p1) d_HC_acceptsConsistency_37 rfl rfl rfl ?_
  refine zS_geti (n := 41) (k0 := p1) (j := 1) d_HC_acceptsConsistency_38 rfl (fl_HC_30 D tt) (zis_Bu_o g_p1) rfl ?_
  refine zJ_iload (n := 43) (j := 6) (x := s0) d_HC_acceptsConsistency_41 rfl rfl ?_
  refine zJ_aload_n (n := 44) (j := 0) (x := a 40) d_HC_acceptsConsistency_43 rfl rfl rfl ?_
  refine zS_getr (n := 47) (k0 := 40) (j := 1) (q := 41) d_HC_acceptsConsistency_44 rfl (fl_HC_12 D tt) rfl rfl ?_
  refine zS_geti (n := 50) (k0 := 41) (j := 2) d_HC_acceptsConsistency_47 rfl (fl_HC_36 D tt) rfl rfl ?_
  refine zJ_iadd (n := 51) d_HC_acceptsConsistency_50 rfl ?_
  refine zJ_icmp_eq (t := 56) (n := 54) d_HC_acceptsConsistency_51 (by decide) rfl (fun hc => ?_) (fun hc => ?_)
  · rw [if_pos hc] at h
    refine zJ_iload (n := 58) (j := 6) (x := s0) d_HC_acceptsConsistency_56 rfl rfl ?_
    refine zJ_iconst (n := 59) (v := 1) d_HC_acceptsConsistency_58 rfl zci_1 ?_
    refine zJ_icmp_ne (t := 71) (n := 62) d_HC_acceptsConsistency_59 (by decide) rfl (fun hc => ?_) (fun hc => ?_)
    · rw [if_neg hc] at h
      refine zJ_iload (n := 73) (j := 4) (x := x4) d_HC_acceptsConsistency_71 rfl rfl ?_
      exact t_HC_acceptsConsistency_b73 hd g_p1 h
    · rw [if_pos hc] at h
      refine zJ_aload_n (n := 63) (j := 1) (x := a p1) d_HC_acceptsConsistency_62 rfl rfl rfl ?_
      refine zS_getr (n := 66) (k0 := p1) (j := 0) (q := p1 + 1) d_HC_acceptsConsistency_63 rfl (fl_HC_45 D tt) (zis_Bu_o g_p1) rfl ?_
      refine zJ_iconst (n := 67) (v := 0) d_HC_acceptsConsistency_66 rfl zci_0 ?_
      refine zS_iald (n := 68) (k0 := p1 + 1) (jj := 0) d_HC_acceptsConsistency_67 rfl (zis_Bu_1 g_p1) rfl (by decide) (by decide) ?_
      refine zJ_goto (t := 73) d_HC_acceptsConsistency_68 (by decide) ?_
      exact t_HC_acceptsConsistency_b73 hd g_p1 h
  · rw [if_neg hc] at h
    refine zJ_iconst (n := 55) (v := 0) d_HC_acceptsConsistency_54 rfl zci_0 ?_
    cases h
    exact zS_ireturn d_HC_acceptsConsistency_55 rfl rfl ⟨rfl, rfl⟩
theorem t_HC_acceptsConsistency {D : va_G} {tt : ClassId × ClassId × ClassId} {a : Nat → Nat} {d N : Nat} (hd : 2 ≤ d) {p1 : Nat} {x2 : Int32} {x3 : Int32} {x4 : Int32} {x5 : Int32} {M : zMem} {z : Int32 × zMem} (h : f_HC_acceptsConsistency N p1 x2 x3 x4 x5 M = some z) : zK (zEn D tt) zshp a mz_HC_acceptsConsistency d [.ref (a 40), .ref (a p1), .int x2, .int x3, .int x4, .int x5] M (zRi z) := by
  refine zK.enter (L := [some (.ref (a 40)), some (.ref (a p1)), some (.int x2), some (.int x3), some (.int x4), some (.int x5), none, none, none, none, none, none]) (by decide) rfl (Nat.le_of_ble_eq_true rfl) rfl ?_
  unfold f_HC_acceptsConsistency at h
  obtain ⟨g_p1, h⟩ := zgd h
  refine zJ_iload_n (n := 1) (j := 2) (x := x2) d_HC_acceptsConsistency_0 rfl rfl rfl ?_
  refine zJ_iload_n (n := 2) (j := 3) (x := x3) d_HC_acceptsConsistency_1 rfl rfl rfl ?_
  obtain ⟨q2, hq2, h⟩ := zbd h
  refine zS_callSi (n := 5) (avs := [.int x2, .int x3]) (rest := []) (z := q2) (d' := d - 1) d_HC_acceptsConsistency_2 rfl (sk_HC_22 D tt) rfl rfl (Nat.le_of_ble_eq_true rfl) (by omega) (t_HC_areInOrder (by omega) hq2) ?_
  refine zJ_if_ne (t := 10) (n := 8) d_HC_acceptsConsistency_5 (by decide) rfl (fun hc => ?_) (fun hc => ?_)
  · rw [if_neg hc] at h
    refine zJ_aload_n (n := 11) (j := 0) (x := a 40) d_HC_acceptsConsistency_10 rfl rfl rfl ?_
    refine zS_getr (n := 14) (k0 := 40) (j := 1) (q := 41) d_HC_acceptsConsistency_11 rfl (fl_HC_12 D tt) rfl rfl ?_
    refine zJ_iload_n (n := 15) (j := 2) (x := x2) d_HC_acceptsConsistency_14 rfl rfl rfl ?_
    refine zJ_iload_n (n := 16) (j := 3) (x := x3) d_HC_acceptsConsistency_15 rfl rfl rfl ?_
    refine zJ_iconst (n := 17) (v := 0) d_HC_acceptsConsistency_16 rfl zci_0 ?_
    obtain ⟨q17, hq17, h⟩ := zbd h
    refine zS_callVv (n := 20) (k0 := 41) (avs := [.int x2, .int x3, .int (0 : Int32)]) (rest := []) (z := q17) (d' := d - 1) d_HC_acceptsConsistency_17 rfl (vk_HC_26 D tt) rfl rfl rfl (Nat.le_of_ble_eq_true rfl) (by omega) (t_Wy_go (by omega) hq17) ?_
    refine zJ_aload_n (n := 21) (j := 0) (x := a 40) d_HC_acceptsConsistency_20 rfl rfl rfl ?_
    refine zS_getr (n := 24) (k0 := 40) (j := 1) (q := 41) d_HC_acceptsConsistency_21 rfl (fl_HC_12 D tt) rfl rfl ?_
    refine zS_geti (n := 27) (k0 := 41) (j := 3) d_HC_acceptsConsistency_24 rfl (fl_HC_52 D tt) rfl rfl ?_
    refine zJ_if_le (t := 34) (n := 30) d_HC_acceptsConsistency_27 (by decide) rfl (fun hc => ?_) (fun hc => ?_)
    · rw [if_pos hc] at h
      refine zJ_iconst (n := 35) (v := 0) d_HC_acceptsConsistency_34 rfl zci_0 ?_
      exact t_HC_acceptsConsistency_b35 hd g_p1 h
    · rw [if_neg hc] at h
      refine zJ_iconst (n := 31) (v := 1) d_HC_acceptsConsistency_30 rfl zci_1 ?_
      refine zJ_goto (t := 35) d_HC_acceptsConsistency_31 (by decide) ?_
      exact t_HC_acceptsConsistency_b35 hd g_p1 h
  · rw [if_pos hc] at h
    refine zJ_iconst (n := 9) (v := 0) d_HC_acceptsConsistency_8 rfl zci_0 ?_
    cases h
    exact zS_ireturn d_HC_acceptsConsistency_9 rfl rfl ⟨rfl, rfl⟩
theorem t_ED_consistent {D : va_G} {tt : ClassId × ClassId × ClassId} {a : Nat → Nat} {d N : Nat} (hd : 3 ≤ d) {x1 : Int32} {x2 : Int32} {x3 : Int32} {x4 : Int32} {x5 : Int32} {M : zMem} {z : Int32 × zMem} (h : f_ED_consistent N x1 x2 x3 x4 x5 M = some z) : zK (zEn D tt) zshp a mz_ED_consistent d [.ref (a 0), .int x1, .int x2, .int x3, .int x4, .int x5] M (zRi z) := by
  refine zK.enter (L := [some (.ref (a 0)), some (.int x1), some (.int x2), some (.int x3), some (.int x4), some (.int x5), none]) (by decide) rfl (Nat.le_of_ble_eq_true rfl) rfl ?_
  unfold f_ED_consistent at h
  refine zJ_aload_n (n := 1) (j := 0) (x := a 0) d_ED_consistent_0 rfl rfl rfl ?_
  refine zJ_iload_n (n := 2) (j := 1) (x := x1) d_ED_consistent_1 rfl rfl rfl ?_
  obtain ⟨q2, hq2, h⟩ := zbd h
  refine zS_callVr (n := 5) (k0 := 0) (avs := [.int x1]) (rest := []) (z := q2) (d' := d - 1) d_ED_consistent_2 rfl (vk_ED_166 D tt) rfl rfl rfl (Nat.le_of_ble_eq_true rfl) (by omega) (t_ED_bufferAt (by omega) hq2) ?_
  rcases zcsi h with ⟨he2, h⟩ | ⟨p2, he2, h⟩
  · rw [he2]
    show zS (zEn D tt) zshp a mz_ED_consistent d zTr (zFs (zEn D tt) zshp a (zRi z)) 5 [some (.ref (a 0)), some (.int x1), some (.int x2), some (.int x3), some (.int x4), some (.int x5), none] [.null] q2.2
    refine zJ_astoreN (n := 7) (j := 6) d_ED_consistent_5 rfl (Nat.le_of_ble_eq_true rfl) ?_
    refine zJ_aloadN (n := 9) (j := 6) d_ED_consistent_7 rfl rfl ?_
    refine zJ_ifnullN (t := 34) d_ED_consistent_9 (by decide) ?_
    refine zJ_iconst (n := 35) (v := 0) d_ED_consistent_34 rfl zci_0 ?_
    cases h
    exact zS_ireturn d_ED_consistent_35 rfl rfl ⟨rfl, rfl⟩
  · rw [he2]
    show zS (zEn D tt) zshp a mz_ED_consistent d zTr (zFs (zEn D tt) zshp a (zRi z)) 5 [some (.ref (a 0)), some (.int x1), some (.int x2), some (.int x3), some (.int x4), some (.int x5), none] [.ref (a p2)] q2.2
    obtain ⟨g_p2, h⟩ := zgd h
    refine zJ_astore (n := 7) (j := 6) d_ED_consistent_5 rfl (Nat.le_of_ble_eq_true rfl) ?_
    refine zJ_aload (n := 9) (j := 6) (x := a p2) d_ED_consistent_7 rfl rfl ?_
    refine zJ_ifnull (n := 12) d_ED_consistent_9 rfl ?_
    refine zJ_aload_n (n := 13) (j := 0) (x := a 0) d_ED_consistent_12 rfl rfl rfl ?_
    refine zS_getr (n := 16) (k0 := 0) (j := 9) (q := 40) d_ED_consistent_13 rfl (fl_ED_75 D tt) rfl rfl ?_
    refine zJ_aload (n := 18) (j := 6) (x := a p2) d_ED_consistent_16 rfl rfl ?_
    refine zJ_iload_n (n := 19) (j := 2) (x := x2) d_ED_consistent_18 rfl rfl rfl ?_
    refine zJ_iload_n (n := 20) (j := 3) (x := x3) d_ED_consistent_19 rfl rfl rfl ?_
    refine zJ_iload (n := 22) (j := 4) (x := x4) d_ED_consistent_20 rfl rfl ?_
    refine zJ_iload (n := 24) (j := 5) (x := x5) d_ED_consistent_22 rfl rfl ?_
    obtain ⟨q24, hq24, h⟩ := zbd h
    refine zS_callVi (n := 27) (k0 := 40) (avs := [.ref (a p2), .int x2, .int x3, .int x4, .int x5]) (rest := []) (z := q24) (d' := d - 1) d_ED_consistent_24 rfl (vk_ED_197 D tt) rfl rfl rfl (Nat.le_of_ble_eq_true rfl) (by omega) (t_HC_acceptsConsistency (by omega) hq24) ?_
    refine zJ_if_eq (t := 34) (n := 30) d_ED_consistent_27 (by decide) rfl (fun hc => ?_) (fun hc => ?_)
    · rw [if_pos hc] at h
      refine zJ_iconst (n := 35) (v := 0) d_ED_consistent_34 rfl zci_0 ?_
      cases h
      exact zS_ireturn d_ED_consistent_35 rfl rfl ⟨rfl, rfl⟩
    · rw [if_neg hc] at h
      refine zJ_iconst (n := 31) (v := 1) d_ED_consistent_30 rfl zci_1 ?_
      refine zJ_goto (t := 35) d_ED_consistent_31 (by decide) ?_
      cases h
      exact zS_ireturn d_ED_consistent_35 rfl rfl ⟨rfl, rfl⟩
theorem t_ED_follow_b40 {D : va_G} {tt : ClassId × ClassId × ClassId} {a : Nat → Nat} {d N : Nat} (hd : 4 ≤ d) {z : Int32 × zMem} {x2 : Int32} {x3 : Int32} {s0 : Int32} {o1 : Option Value} {o4 : Option Value} {M : zMem} (h : f_ED_follow_b40 N x2 x3 s0 M = some z) : zS (zEn D tt) zshp a mz_ED_follow d zTr (zFs (zEn D tt) zshp a (zRi z)) 40 [some (.ref (a 0)), o1, some (.int x2), some (.int x3), o4] [.int s0] M := by
  unfold f_ED_follow_b40 at h
  refine zS_istore (n := 42) (j := 4) (x' := s0) d_ED_follow_40 rfl (Nat.le_of_ble_eq_true rfl) rfl ?_
  refine zJ_iload (n := 44) (j := 4) (x := s0) d_ED_follow_42 rfl rfl ?_
  refine zJ_if_eq (t := 62) (n := 47) d_ED_follow_44 (by decide) rfl (fun hc => ?_) (fun hc => ?_)
  · rw [if_pos hc] at h
    refine zJ_iload (n := 64) (j := 4) (x := s0) d_ED_follow_62 rfl rfl ?_
    obtain ⟨gz, h⟩ := zgd h
    cases h
    exact zS_ireturn d_ED_follow_64 rfl (zbool_nar gz) ⟨rfl, rfl⟩
  · rw [if_neg hc] at h
    refine zJ_aload_n (n := 48) (j := 0) (x := a 0) d_ED_follow_47 rfl rfl rfl ?_
    refine zJ_iconst (n := 49) (v := 1) d_ED_follow_48 rfl zci_1 ?_
    obtain ⟨M49, hM49, h⟩ := zli h
    refine zS_putN (n := 52) (k0 := 0) (j := 15) d_ED_follow_49 rfl (fl_ED_200 D tt) zty_ED rfl rfl rfl rfl rfl hM49 ?_
    refine zJ_aload_n (n := 53) (j := 0) (x := a 0) d_ED_follow_52 rfl rfl rfl ?_
    refine zJ_iload_n (n := 54) (j := 2) (x := x2) d_ED_follow_53 rfl rfl rfl ?_
    obtain ⟨M54, hM54, h⟩ := zli h
    refine zS_putN (n := 57) (k0 := 0) (j := 16) d_ED_follow_54 rfl (fl_ED_203 D tt) zty_ED rfl rfl rfl rfl rfl hM54 ?_
    refine zJ_aload_n (n := 58) (j := 0) (x := a 0) d_ED_follow_57 rfl rfl rfl ?_
    refine zJ_iload_n (n := 59) (j := 3) (x := x3) d_ED_follow_58 rfl rfl rfl ?_
    obtain ⟨M59, hM59, h⟩ := zli h
    refine zS_putN (n := 62) (k0 := 0) (j := 17) d_ED_follow_59 rfl (fl_ED_206 D tt) zty_ED rfl rfl rfl rfl rfl hM59 ?_
    refine zJ_iload (n := 64) (j := 4) (x := s0) d_ED_follow_62 rfl rfl ?_
    obtain ⟨gz, h⟩ := zgd h
    cases h
    exact zS_ireturn d_ED_follow_64 rfl (zbool_nar gz) ⟨rfl, rfl⟩
theorem t_ED_follow_b39 {D : va_G} {tt : ClassId × ClassId × ClassId} {a : Nat → Nat} {d N : Nat} (hd : 4 ≤ d) {z : Int32 × zMem} {x2 : Int32} {x3 : Int32} {o1 : Option Value} {o4 : Option Value} {M : zMem} (h : f_ED_follow_b39 N x2 x3 M = some z) : zS (zEn D tt) zshp a mz_ED_follow d zTr (zFs (zEn D tt) zshp a (zRi z)) 39 [some (.ref (a 0)), o1, some (.int x2), some (.int x3), o4] [] M := by
  unfold f_ED_follow_b39 at h
  refine zJ_iconst (n := 40) (v := 0) d_ED_follow_39 rfl zci_0 ?_
  exact t_ED_follow_b40 hd h
theorem t_ED_follow {D : va_G} {tt : ClassId × ClassId × ClassId} {a : Nat → Nat} {d N : Nat} (hd : 4 ≤ d) {x1 : Int32} {x2 : Int32} {x3 : Int32} {M : zMem} {z : Int32 × zMem} (h : f_ED_follow N x1 x2 x3 M = some z) : zK (zEn D tt) zshp a mz_ED_follow d [.ref (a 0), .int x1, .int x2, .int x3] M (zRi z) := by
  refine zK.enter (L := [some (.ref (a 0)), some (.int x1), some (.int x2), some (.int x3), none]) (by decide) rfl (Nat.le_of_ble_eq_true rfl) rfl ?_
  unfold f_ED_follow at h
  refine zJ_aload_n (n := 1) (j := 0) (x := a 0) d_ED_follow_0 rfl rfl rfl ?_
  refine zS_geti (n := 4) (k0 := 0) (j := 15) d_ED_follow_1 rfl (fl_ED_200 D tt) rfl rfl ?_
  refine zJ_if_eq (t := 25) (n := 7) d_ED_follow_4 (by decide) rfl (fun hc => ?_) (fun hc => ?_)
  · rw [if_pos hc] at h
    refine zJ_iload_n (n := 26) (j := 2) (x := x2) d_ED_follow_25 rfl rfl rfl ?_
    refine zJ_if_lt (t := 39) (n := 29) d_ED_follow_26 (by decide) rfl (fun hc => ?_) (fun hc => ?_)
    · rw [if_pos hc] at h
      exact t_ED_follow_b39 hd h
    · rw [if_neg hc] at h
      refine zJ_iload_n (n := 30) (j := 2) (x := x2) d_ED_follow_29 rfl rfl rfl ?_
      refine zJ_bipush (n := 32) (v := 40) d_ED_follow_30 rfl zcb_40 ?_
      refine zJ_icmp_ge (t := 39) (n := 35) d_ED_follow_32 (by decide) rfl (fun hc => ?_) (fun hc => ?_)
      · rw [if_pos hc] at h
        exact t_ED_follow_b39 hd h
      · rw [if_neg hc] at h
        refine zJ_iconst (n := 36) (v := 1) d_ED_follow_35 rfl zci_1 ?_
        refine zJ_goto (t := 40) d_ED_follow_36 (by decide) ?_
        exact t_ED_follow_b40 hd h
  · rw [if_neg hc] at h
    refine zJ_aload_n (n := 8) (j := 0) (x := a 0) d_ED_follow_7 rfl rfl rfl ?_
    refine zJ_iload_n (n := 9) (j := 1) (x := x1) d_ED_follow_8 rfl rfl rfl ?_
    refine zJ_aload_n (n := 10) (j := 0) (x := a 0) d_ED_follow_9 rfl rfl rfl ?_
    refine zS_geti (n := 13) (k0 := 0) (j := 16) d_ED_follow_10 rfl (fl_ED_203 D tt) rfl rfl ?_
    refine zJ_iload_n (n := 14) (j := 2) (x := x2) d_ED_follow_13 rfl rfl rfl ?_
    refine zJ_aload_n (n := 15) (j := 0) (x := a 0) d_ED_follow_14 rfl rfl rfl ?_
    refine zS_geti (n := 18) (k0 := 0) (j := 17) d_ED_follow_15 rfl (fl_ED_206 D tt) rfl rfl ?_
    refine zJ_iload_n (n := 19) (j := 3) (x := x3) d_ED_follow_18 rfl rfl rfl ?_
    obtain ⟨q19, hq19, h⟩ := zbd h
    refine zS_callVi (n := 22) (k0 := 0) (avs := [.int x1, .int (M 0 16), .int x2, .int (M 0 17), .int x3]) (rest := []) (z := q19) (d' := d - 1) d_ED_follow_19 rfl (vk_ED_209 D tt) rfl rfl rfl (Nat.le_of_ble_eq_true rfl) (by omega) (t_ED_consistent (by omega) hq19) ?_
    refine zJ_goto (t := 40) d_ED_follow_22 (by decide) ?_
    exact t_ED_follow_b40 hd h
