theorem t_Mo_hash {D : va_G} {tt : ClassId × ClassId × ClassId} {a : Nat → Nat} {d N : Nat} (hd : 0 ≤ d) {x1 : Int32} {x2 : Int32} {x3 : Int32} {M : zMem} {z : Int32 × zMem} (h : f_Mo_hash N x1 x2 x3 M = some z) : zK (zEn D tt) zshp a mz_Mo_hash d [.ref (a 45), .int x1, .int x2, .int x3] M (zRi z) := by
  refine zK.enter (L := [some (.ref (a 45)), some (.int x1), some (.int x2), some (.int x3), none, none, none]) (by decide) rfl (Nat.le_of_ble_eq_true rfl) rfl ?_
  unfold f_Mo_hash at h
  refine zJ_ldc (n := 2) (v := 73244475) d_Mo_hash_0 rfl (ldc_Mo_96 D tt) ?_
  refine zS_istore (n := 4) (j := 4) (x' := (73244475 : Int32)) d_Mo_hash_2 rfl (Nat.le_of_ble_eq_true rfl) rfl ?_
  refine zJ_iload_n (n := 5) (j := 1) (x := x1) d_Mo_hash_4 rfl rfl rfl ?_
  refine zJ_iload (n := 7) (j := 4) (x := (73244475 : Int32)) d_Mo_hash_5 rfl rfl ?_
  refine zJ_imul (n := 8) d_Mo_hash_7 rfl ?_
  refine zJ_iload_n (n := 9) (j := 2) (x := x2) d_Mo_hash_8 rfl rfl rfl ?_
  refine zJ_iadd (n := 10) d_Mo_hash_9 rfl ?_
  obtain ⟨v10, hv10, h⟩ := zli h
  refine zS_istore (n := 12) (j := 5) (x' := v10) d_Mo_hash_10 rfl (Nat.le_of_ble_eq_true rfl) hv10 ?_
  refine zJ_iload (n := 14) (j := 5) (x := v10) d_Mo_hash_12 rfl rfl ?_
  refine zJ_iload (n := 16) (j := 5) (x := v10) d_Mo_hash_14 rfl rfl ?_
  refine zJ_bipush (n := 18) (v := 16) d_Mo_hash_16 rfl zcb_16 ?_
  refine zJ_iushr (n := 19) d_Mo_hash_18 rfl ?_
  refine zJ_ixor (n := 20) d_Mo_hash_19 rfl ?_
  refine zJ_iload (n := 22) (j := 4) (x := (73244475 : Int32)) d_Mo_hash_20 rfl rfl ?_
  refine zJ_imul (n := 23) d_Mo_hash_22 rfl ?_
  refine zJ_iload_n (n := 24) (j := 3) (x := x3) d_Mo_hash_23 rfl rfl rfl ?_
  refine zJ_iadd (n := 25) d_Mo_hash_24 rfl ?_
  obtain ⟨v25, hv25, h⟩ := zli h
  refine zS_istore (n := 27) (j := 5) (x' := v25) d_Mo_hash_25 rfl (Nat.le_of_ble_eq_true rfl) hv25 ?_
  refine zJ_iload (n := 29) (j := 5) (x := v25) d_Mo_hash_27 rfl rfl ?_
  refine zJ_iload (n := 31) (j := 5) (x := v25) d_Mo_hash_29 rfl rfl ?_
  refine zJ_bipush (n := 33) (v := 16) d_Mo_hash_31 rfl zcb_16 ?_
  refine zJ_iushr (n := 34) d_Mo_hash_33 rfl ?_
  refine zJ_ixor (n := 35) d_Mo_hash_34 rfl ?_
  refine zJ_iload (n := 37) (j := 4) (x := (73244475 : Int32)) d_Mo_hash_35 rfl rfl ?_
  refine zJ_imul (n := 38) d_Mo_hash_37 rfl ?_
  obtain ⟨v38, hv38, h⟩ := zli h
  refine zS_istore (n := 40) (j := 5) (x' := v38) d_Mo_hash_38 rfl (Nat.le_of_ble_eq_true rfl) hv38 ?_
  refine zJ_iload (n := 42) (j := 5) (x := v38) d_Mo_hash_40 rfl rfl ?_
  refine zJ_iload (n := 44) (j := 5) (x := v38) d_Mo_hash_42 rfl rfl ?_
  refine zJ_bipush (n := 46) (v := 16) d_Mo_hash_44 rfl zcb_16 ?_
  refine zJ_iushr (n := 47) d_Mo_hash_46 rfl ?_
  refine zJ_ixor (n := 48) d_Mo_hash_47 rfl ?_
  obtain ⟨v48, hv48, h⟩ := zli h
  refine zS_istore (n := 50) (j := 5) (x' := v48) d_Mo_hash_48 rfl (Nat.le_of_ble_eq_true rfl) hv48 ?_
  refine zJ_iload (n := 52) (j := 5) (x := v48) d_Mo_hash_50 rfl rfl ?_
  refine zJ_bipush (n := 54) (v := 32) d_Mo_hash_52 rfl zcb_32 ?_
  refine zJ_aload_n (n := 55) (j := 0) (x := a 45) d_Mo_hash_54 rfl rfl rfl ?_
  refine zS_geti (n := 58) (k0 := 45) (j := 0) d_Mo_hash_55 rfl (fl_Mo_86 D tt) rfl rfl ?_
  refine zJ_isub (n := 59) d_Mo_hash_58 rfl ?_
  refine zJ_iushr (n := 60) d_Mo_hash_59 rfl ?_
  obtain ⟨v60, hv60, h⟩ := zli h
  refine zS_istore (n := 62) (j := 6) (x' := v60) d_Mo_hash_60 rfl (Nat.le_of_ble_eq_true rfl) hv60 ?_
  refine zJ_iload (n := 64) (j := 6) (x := v60) d_Mo_hash_62 rfl rfl ?_
  refine zJ_if_ne (t := 71) (n := 67) d_Mo_hash_64 (by decide) rfl (fun hc => ?_) (fun hc => ?_)
  · rw [if_neg hc] at h
    refine zJ_iload (n := 73) (j := 6) (x := v60) d_Mo_hash_71 rfl rfl ?_
    cases h
    exact zS_ireturn d_Mo_hash_73 rfl rfl ⟨rfl, rfl⟩
  · rw [if_pos hc] at h
    refine zJ_iconst (n := 68) (v := 1) d_Mo_hash_67 rfl zci_1 ?_
    refine zJ_goto (t := 73) d_Mo_hash_68 (by decide) ?_
    cases h
    exact zS_ireturn d_Mo_hash_73 rfl rfl ⟨rfl, rfl⟩
theorem t_Mo_isName {D : va_G} {tt : ClassId × ClassId × ClassId} {a : Nat → Nat} {d N : Nat} (hd : 0 ≤ d) {x0 : Int32} {M : zMem} {z : Int32 × zMem} (h : f_Mo_isName N x0 M = some z) : zK (zEn D tt) zshp a mz_Mo_isName d [.int x0] M (zRi z) := by
  refine zK.enter (L := [some (.int x0)]) (by decide) rfl (Nat.le_of_ble_eq_true rfl) rfl ?_
  unfold f_Mo_isName at h
  refine zJ_iload_n (n := 1) (j := 0) (x := x0) d_Mo_isName_0 rfl rfl rfl ?_
  refine zJ_if_lt (t := 14) (n := 4) d_Mo_isName_1 (by decide) rfl (fun hc => ?_) (fun hc => ?_)
  · rw [if_pos hc] at h
    refine zJ_iconst (n := 15) (v := 0) d_Mo_isName_14 rfl zci_0 ?_
    cases h
    exact zS_ireturn d_Mo_isName_15 rfl rfl ⟨rfl, rfl⟩
  · rw [if_neg hc] at h
    refine zJ_iload_n (n := 5) (j := 0) (x := x0) d_Mo_isName_4 rfl rfl rfl ?_
    refine zJ_bipush (n := 7) (v := 64) d_Mo_isName_5 rfl zcb_64 ?_
    refine zJ_icmp_ge (t := 14) (n := 10) d_Mo_isName_7 (by decide) rfl (fun hc => ?_) (fun hc => ?_)
    · rw [if_pos hc] at h
      refine zJ_iconst (n := 15) (v := 0) d_Mo_isName_14 rfl zci_0 ?_
      cases h
      exact zS_ireturn d_Mo_isName_15 rfl rfl ⟨rfl, rfl⟩
    · rw [if_neg hc] at h
      refine zJ_iconst (n := 11) (v := 1) d_Mo_isName_10 rfl zci_1 ?_
      refine zJ_goto (t := 15) d_Mo_isName_11 (by decide) ?_
      cases h
      exact zS_ireturn d_Mo_isName_15 rfl rfl ⟨rfl, rfl⟩
theorem t_Mo_isKey {D : va_G} {tt : ClassId × ClassId × ClassId} {a : Nat → Nat} {d N : Nat} (hd : 0 ≤ d) {x0 : Int32} {M : zMem} {z : Int32 × zMem} (h : f_Mo_isKey N x0 M = some z) : zK (zEn D tt) zshp a mz_Mo_isKey d [.int x0] M (zRi z) := by
  refine zK.enter (L := [some (.int x0)]) (by decide) rfl (Nat.le_of_ble_eq_true rfl) rfl ?_
  unfold f_Mo_isKey at h
  refine zJ_iload_n (n := 1) (j := 0) (x := x0) d_Mo_isKey_0 rfl rfl rfl ?_
  refine zJ_iconst (n := 2) (v := 1) d_Mo_isKey_1 rfl zci_1 ?_
  refine zJ_icmp_lt (t := 15) (n := 5) d_Mo_isKey_2 (by decide) rfl (fun hc => ?_) (fun hc => ?_)
  · rw [if_pos hc] at h
    refine zJ_iconst (n := 16) (v := 0) d_Mo_isKey_15 rfl zci_0 ?_
    cases h
    exact zS_ireturn d_Mo_isKey_16 rfl rfl ⟨rfl, rfl⟩
  · rw [if_neg hc] at h
    refine zJ_iload_n (n := 6) (j := 0) (x := x0) d_Mo_isKey_5 rfl rfl rfl ?_
    refine zJ_ldc (n := 8) (v := 1000000) d_Mo_isKey_6 rfl (ldc_Mo_97 D tt) ?_
    refine zJ_icmp_gt (t := 15) (n := 11) d_Mo_isKey_8 (by decide) rfl (fun hc => ?_) (fun hc => ?_)
    · rw [if_pos hc] at h
      refine zJ_iconst (n := 16) (v := 0) d_Mo_isKey_15 rfl zci_0 ?_
      cases h
      exact zS_ireturn d_Mo_isKey_16 rfl rfl ⟨rfl, rfl⟩
    · rw [if_neg hc] at h
      refine zJ_iconst (n := 12) (v := 1) d_Mo_isKey_11 rfl zci_1 ?_
      refine zJ_goto (t := 16) d_Mo_isKey_12 (by decide) ?_
      cases h
      exact zS_ireturn d_Mo_isKey_16 rfl rfl ⟨rfl, rfl⟩
theorem t_Mo_indexOf {D : va_G} {tt : ClassId × ClassId × ClassId} {a : Nat → Nat} {d N : Nat} (hd : 0 ≤ d) {x0 : Int32} {M : zMem} {z : Int32 × zMem} (h : f_Mo_indexOf N x0 M = some z) : zK (zEn D tt) zshp a mz_Mo_indexOf d [.int x0] M (zRi z) := by
  refine zK.enter (L := [some (.int x0)]) (by decide) rfl (Nat.le_of_ble_eq_true rfl) rfl ?_
  unfold f_Mo_indexOf at h
  refine zJ_bipush (n := 2) (v := 37) d_Mo_indexOf_0 rfl zcb_37 ?_
  refine zJ_iload_n (n := 3) (j := 0) (x := x0) d_Mo_indexOf_2 rfl rfl rfl ?_
  refine zJ_imul (n := 4) d_Mo_indexOf_3 rfl ?_
  refine zJ_bipush (n := 6) (v := 11) d_Mo_indexOf_4 rfl zcb_11 ?_
  refine zJ_iadd (n := 7) d_Mo_indexOf_6 rfl ?_
  refine zJ_bipush (n := 9) (v := 64) d_Mo_indexOf_7 rfl zcb_64 ?_
  refine zJ_irem (n := 10) d_Mo_indexOf_9 rfl (by decide) ?_
  cases h
  exact zS_ireturn d_Mo_indexOf_10 rfl rfl ⟨rfl, rfl⟩
theorem t_Mo_bit {D : va_G} {tt : ClassId × ClassId × ClassId} {a : Nat → Nat} {d N : Nat} (hd : 1 ≤ d) {x0 : Int32} {x1 : Int32} {M : zMem} {z : Int32 × zMem} (h : f_Mo_bit N x0 x1 M = some z) : zK (zEn D tt) zshp a mz_Mo_bit d [.int x0, .int x1] M (zRi z) := by
  refine zK.enter (L := [some (.int x0), some (.int x1)]) (by decide) rfl (Nat.le_of_ble_eq_true rfl) rfl ?_
  unfold f_Mo_bit at h
  refine zJ_iload_n (n := 1) (j := 0) (x := x0) d_Mo_bit_0 rfl rfl rfl ?_
  obtain ⟨q1, hq1, h⟩ := zbd h
  refine zS_callSi (n := 4) (avs := [.int x0]) (rest := []) (z := q1) (d' := d - 1) d_Mo_bit_1 rfl (sk_Mo_98 D tt) rfl rfl (Nat.le_of_ble_eq_true rfl) (by omega) (t_Mo_indexOf (by omega) hq1) ?_
  refine zJ_iconst (n := 5) (v := 5) d_Mo_bit_4 rfl zci_5 ?_
  refine zJ_iload_n (n := 6) (j := 1) (x := x1) d_Mo_bit_5 rfl rfl rfl ?_
  refine zJ_isub (n := 7) d_Mo_bit_6 rfl ?_
  refine zJ_ishr (n := 8) d_Mo_bit_7 rfl ?_
  refine zJ_iconst (n := 9) (v := 1) d_Mo_bit_8 rfl zci_1 ?_
  refine zJ_iand (n := 10) d_Mo_bit_9 rfl ?_
  cases h
  exact zS_ireturn d_Mo_bit_10 rfl rfl ⟨rfl, rfl⟩
theorem t_Mo_grow_b239 {D : va_G} {tt : ClassId × ClassId × ClassId} {a : Nat → Nat} {d N : Nat} (hd : 1 ≤ d) {z : Int32 × zMem} {k118 : Int32 → zMem → Option (Int32 × zMem)} (hk118 : ∀ (x2 : Int32) (o1 o3 o4 : Option Value) (M : zMem), k118 x2 M = some z → zS (zEn D tt) zshp a mz_Mo_grow d zTr (zFs (zEn D tt) zshp a (zRv z)) 118 [some (.ref (a 45)), o1, some (.int x2), o3, o4] [] M) {x2 : Int32} {s1 : Int32} {s2 : Int32} {o1 : Option Value} {o3 : Option Value} {o4 : Option Value} {M : zMem} (h : f_Mo_grow_b239 N k118 x2 s1 s2 M = some z) : zS (zEn D tt) zshp a mz_Mo_grow d zTr (zFs (zEn D tt) zshp a (zRv z)) 239 [some (.ref (a 45)), o1, some (.int x2), o3, o4] [.int s2, .int s1, .ref (a 51)] M := by
  unfold f_Mo_grow_b239 at h
  obtain ⟨g239, h⟩ := zgd h
  obtain ⟨M239, hM239, h⟩ := zli h
  refine zS_iastN (n := 240) (k0 := 51) d_Mo_grow_239 rfl rfl rfl rfl g239 hM239 ?_
  obtain ⟨v240, hv240, h⟩ := zli h
  refine zS_iinc (n := 243) (j := 2) (x := x2) (v := -1) (x' := v240) d_Mo_grow_240 rfl rfl zci_m1 (Nat.le_of_ble_eq_true rfl) hv240 ?_
  refine zJ_goto (t := 118) d_Mo_grow_243 (by decide) ?_
  exact hk118 _ _ _ _ _ h
theorem t_Mo_grow_b188 {D : va_G} {tt : ClassId × ClassId × ClassId} {a : Nat → Nat} {d N : Nat} (hd : 1 ≤ d) {z : Int32 × zMem} {k118 : Int32 → zMem → Option (Int32 × zMem)} (hk118 : ∀ (x2 : Int32) (o1 o3 o4 : Option Value) (M : zMem), k118 x2 M = some z → zS (zEn D tt) zshp a mz_Mo_grow d zTr (zFs (zEn D tt) zshp a (zRv z)) 118 [some (.ref (a 45)), o1, some (.int x2), o3, o4] [] M) {x2 : Int32} {x3 : Int32} {x4 : Int32} {s1 : Int32} {s2 : Int32} {o1 : Option Value} {M : zMem} (h : f_Mo_grow_b188 N k118 x2 x3 x4 s1 s2 M = some z) : zS (zEn D tt) zshp a mz_Mo_grow d zTr (zFs (zEn D tt) zshp a (zRv z)) 188 [some (.ref (a 45)), o1, some (.int x2), some (.int x3), some (.int x4)] [.int s2, .int s1, .ref (a 52)] M := by
  unfold f_Mo_grow_b188 at h
  obtain ⟨g188, h⟩ := zgd h
  obtain ⟨M188, hM188, h⟩ := zli h
  refine zS_iastN (n := 189) (k0 := 52) d_Mo_grow_188 rfl rfl rfl rfl g188 hM188 ?_
  refine zJ_aload_n (n := 190) (j := 0) (x := a 45) d_Mo_grow_189 rfl rfl rfl ?_
  refine zS_getr (n := 193) (k0 := 45) (j := 7) (q := 51) d_Mo_grow_190 rfl (fl_Mo_26 D tt) rfl rfl ?_
  refine zJ_iload_n (n := 194) (j := 2) (x := x2) d_Mo_grow_193 rfl rfl rfl ?_
  refine zJ_aload_n (n := 195) (j := 0) (x := a 45) d_Mo_grow_194 rfl rfl rfl ?_
  refine zS_getr (n := 198) (k0 := 45) (j := 6) (q := 50) d_Mo_grow_195 rfl (fl_Mo_23 D tt) rfl rfl ?_
  refine zJ_iload_n (n := 199) (j := 2) (x := x2) d_Mo_grow_198 rfl rfl rfl ?_
  obtain ⟨g199, h⟩ := zgd h
  refine zS_iald (n := 200) (k0 := 50) d_Mo_grow_199 rfl rfl rfl rfl g199 ?_
  refine zJ_iconst (n := 201) (v := 1) d_Mo_grow_200 rfl zci_1 ?_
  refine zJ_icmp_le (t := 225) (n := 204) d_Mo_grow_201 (by decide) rfl (fun hc => ?_) (fun hc => ?_)
  · rw [if_pos hc] at h
    refine zJ_aload_n (n := 226) (j := 0) (x := a 45) d_Mo_grow_225 rfl rfl rfl ?_
    refine zS_getr (n := 229) (k0 := 45) (j := 7) (q := 51) d_Mo_grow_226 rfl (fl_Mo_26 D tt) rfl rfl ?_
    refine zJ_iload_n (n := 230) (j := 3) (x := x3) d_Mo_grow_229 rfl rfl rfl ?_
    obtain ⟨g230, h⟩ := zgd h
    refine zS_iald (n := 231) (k0 := 51) d_Mo_grow_230 rfl rfl rfl rfl g230 ?_
    refine zJ_aload_n (n := 232) (j := 0) (x := a 45) d_Mo_grow_231 rfl rfl rfl ?_
    refine zS_getr (n := 235) (k0 := 45) (j := 7) (q := 51) d_Mo_grow_232 rfl (fl_Mo_26 D tt) rfl rfl ?_
    refine zJ_iload (n := 237) (j := 4) (x := x4) d_Mo_grow_235 rfl rfl ?_
    obtain ⟨g237, h⟩ := zgd h
    refine zS_iald (n := 238) (k0 := 51) d_Mo_grow_237 rfl rfl rfl rfl g237 ?_
    refine zJ_iadd (n := 239) d_Mo_grow_238 rfl ?_
    exact t_Mo_grow_b239 hd hk118 h
  · rw [if_neg hc] at h
    refine zJ_aload_n (n := 205) (j := 0) (x := a 45) d_Mo_grow_204 rfl rfl rfl ?_
    refine zJ_iconst (n := 206) (v := 2) d_Mo_grow_205 rfl zci_2 ?_
    refine zJ_aload_n (n := 207) (j := 0) (x := a 45) d_Mo_grow_206 rfl rfl rfl ?_
    refine zS_getr (n := 210) (k0 := 45) (j := 7) (q := 51) d_Mo_grow_207 rfl (fl_Mo_26 D tt) rfl rfl ?_
    refine zJ_iload_n (n := 211) (j := 3) (x := x3) d_Mo_grow_210 rfl rfl rfl ?_
    obtain ⟨g211, h⟩ := zgd h
    refine zS_iald (n := 212) (k0 := 51) d_Mo_grow_211 rfl rfl rfl rfl g211 ?_
    refine zJ_aload_n (n := 213) (j := 0) (x := a 45) d_Mo_grow_212 rfl rfl rfl ?_
    refine zS_getr (n := 216) (k0 := 45) (j := 7) (q := 51) d_Mo_grow_213 rfl (fl_Mo_26 D tt) rfl rfl ?_
    refine zJ_iload (n := 218) (j := 4) (x := x4) d_Mo_grow_216 rfl rfl ?_
    obtain ⟨g218, h⟩ := zgd h
    refine zS_iald (n := 219) (k0 := 51) d_Mo_grow_218 rfl rfl rfl rfl g218 ?_
    obtain ⟨q219, hq219, h⟩ := zbd h
    refine zS_callVi (n := 222) (k0 := 45) (avs := [.int (2 : Int32), .int (M188 51 x3.toNatClampNeg), .int (M188 51 x4.toNatClampNeg)]) (rest := [.int x2, .ref (a 51)]) (z := q219) (d' := d - 1) d_Mo_grow_219 rfl (vk_Mo_102 D tt) rfl rfl rfl (Nat.le_of_ble_eq_true rfl) (by omega) (t_Mo_hash (by omega) hq219) ?_
    refine zJ_goto (t := 239) d_Mo_grow_222 (by decide) ?_
    exact t_Mo_grow_b239 hd hk118 h
theorem t_Mo_grow_l118 {D : va_G} {tt : ClassId × ClassId × ClassId} {a : Nat → Nat} {d N : Nat} (hd : 1 ≤ d) {z : Int32 × zMem} : ∀ (n : Nat), ∀ (x2 : Int32) (o1 o3 o4 : Option Value) (M : zMem), f_Mo_grow_l118 N n x2 M = some z → zS (zEn D tt) zshp a mz_Mo_grow d zTr (zFs (zEn D tt) zshp a (zRv z)) 118 [some (.ref (a 45)), o1, some (.int x2), o3, o4] [] M := by
  intro n
  induction n with
  | zero =>
    intro x2 o1 o3 o4 M h
    rw [f_Mo_grow_l118] at h
    cases h
  | succ n ih =>
    intro x2 o1 o3 o4 M h
    rw [f_Mo_grow_l118] at h
    refine zJ_iload_n (n := 119) (j := 2) (x := x2) d_Mo_grow_118 rfl rfl rfl ?_
    refine zJ_if_le (t := 246) (n := 122) d_Mo_grow_119 (by decide) rfl (fun hc => ?_) (fun hc => ?_)
    · rw [if_pos hc] at h
      cases h
      exact zS_return d_Mo_grow_246 rfl ⟨rfl, rfl⟩
    · rw [if_neg hc] at h
      refine zJ_iconst (n := 123) (v := 2) d_Mo_grow_122 rfl zci_2 ?_
      refine zJ_iload_n (n := 124) (j := 2) (x := x2) d_Mo_grow_123 rfl rfl rfl ?_
      refine zJ_imul (n := 125) d_Mo_grow_124 rfl ?_
      obtain ⟨v125, hv125, h⟩ := zli h
      refine zS_istore_n (n := 126) (j := 3) (x' := v125) d_Mo_grow_125 rfl rfl (Nat.le_of_ble_eq_true rfl) hv125 ?_
      refine zJ_iconst (n := 127) (v := 2) d_Mo_grow_126 rfl zci_2 ?_
      refine zJ_iload_n (n := 128) (j := 2) (x := x2) d_Mo_grow_127 rfl rfl rfl ?_
      refine zJ_imul (n := 129) d_Mo_grow_128 rfl ?_
      refine zJ_iconst (n := 130) (v := 1) d_Mo_grow_129 rfl zci_1 ?_
      refine zJ_iadd (n := 131) d_Mo_grow_130 rfl ?_
      obtain ⟨v131, hv131, h⟩ := zli h
      refine zS_istore (n := 133) (j := 4) (x' := v131) d_Mo_grow_131 rfl (Nat.le_of_ble_eq_true rfl) hv131 ?_
      refine zJ_aload_n (n := 134) (j := 0) (x := a 45) d_Mo_grow_133 rfl rfl rfl ?_
      refine zS_getr (n := 137) (k0 := 45) (j := 6) (q := 50) d_Mo_grow_134 rfl (fl_Mo_23 D tt) rfl rfl ?_
      refine zJ_iload_n (n := 138) (j := 2) (x := x2) d_Mo_grow_137 rfl rfl rfl ?_
      refine zJ_aload_n (n := 139) (j := 0) (x := a 45) d_Mo_grow_138 rfl rfl rfl ?_
      refine zS_getr (n := 142) (k0 := 45) (j := 6) (q := 50) d_Mo_grow_139 rfl (fl_Mo_23 D tt) rfl rfl ?_
      refine zJ_iload_n (n := 143) (j := 3) (x := v125) d_Mo_grow_142 rfl rfl rfl ?_
      obtain ⟨g143, h⟩ := zgd h
      refine zS_iald (n := 144) (k0 := 50) d_Mo_grow_143 rfl rfl rfl rfl g143 ?_
      refine zJ_aload_n (n := 145) (j := 0) (x := a 45) d_Mo_grow_144 rfl rfl rfl ?_
      refine zS_getr (n := 148) (k0 := 45) (j := 6) (q := 50) d_Mo_grow_145 rfl (fl_Mo_23 D tt) rfl rfl ?_
      refine zJ_iload (n := 150) (j := 4) (x := v131) d_Mo_grow_148 rfl rfl ?_
      obtain ⟨g150, h⟩ := zgd h
      refine zS_iald (n := 151) (k0 := 50) d_Mo_grow_150 rfl rfl rfl rfl g150 ?_
      refine zJ_iadd (n := 152) d_Mo_grow_151 rfl ?_
      obtain ⟨g152, h⟩ := zgd h
      obtain ⟨M152, hM152, h⟩ := zli h
      refine zS_iastN (n := 153) (k0 := 50) d_Mo_grow_152 rfl rfl rfl rfl g152 hM152 ?_
      refine zJ_aload_n (n := 154) (j := 0) (x := a 45) d_Mo_grow_153 rfl rfl rfl ?_
      refine zS_getr (n := 157) (k0 := 45) (j := 8) (q := 52) d_Mo_grow_154 rfl (fl_Mo_29 D tt) rfl rfl ?_
      refine zJ_iload_n (n := 158) (j := 2) (x := x2) d_Mo_grow_157 rfl rfl rfl ?_
      refine zJ_aload_n (n := 159) (j := 0) (x := a 45) d_Mo_grow_158 rfl rfl rfl ?_
      refine zS_getr (n := 162) (k0 := 45) (j := 6) (q := 50) d_Mo_grow_159 rfl (fl_Mo_23 D tt) rfl rfl ?_
      refine zJ_iload_n (n := 163) (j := 2) (x := x2) d_Mo_grow_162 rfl rfl rfl ?_
      obtain ⟨g163, h⟩ := zgd h
      refine zS_iald (n := 164) (k0 := 50) d_Mo_grow_163 rfl rfl rfl rfl g163 ?_
      refine zJ_iconst (n := 165) (v := 1) d_Mo_grow_164 rfl zci_1 ?_
      refine zJ_icmp_ne (t := 187) (n := 168) d_Mo_grow_165 (by decide) rfl (fun hc => ?_) (fun hc => ?_)
      · rw [if_neg hc] at h
        refine zJ_iconst (n := 188) (v := -1) d_Mo_grow_187 rfl zci_m1 ?_
        exact t_Mo_grow_b188 hd ih h
      · rw [if_pos hc] at h
        refine zJ_aload_n (n := 169) (j := 0) (x := a 45) d_Mo_grow_168 rfl rfl rfl ?_
        refine zS_getr (n := 172) (k0 := 45) (j := 8) (q := 52) d_Mo_grow_169 rfl (fl_Mo_29 D tt) rfl rfl ?_
        refine zJ_iload_n (n := 173) (j := 3) (x := v125) d_Mo_grow_172 rfl rfl rfl ?_
        obtain ⟨g173, h⟩ := zgd h
        refine zS_iald (n := 174) (k0 := 52) d_Mo_grow_173 rfl rfl rfl rfl g173 ?_
        refine zJ_aload_n (n := 175) (j := 0) (x := a 45) d_Mo_grow_174 rfl rfl rfl ?_
        refine zS_getr (n := 178) (k0 := 45) (j := 8) (q := 52) d_Mo_grow_175 rfl (fl_Mo_29 D tt) rfl rfl ?_
        refine zJ_iload (n := 180) (j := 4) (x := v131) d_Mo_grow_178 rfl rfl ?_
        obtain ⟨g180, h⟩ := zgd h
        refine zS_iald (n := 181) (k0 := 52) d_Mo_grow_180 rfl rfl rfl rfl g180 ?_
        refine zJ_iadd (n := 182) d_Mo_grow_181 rfl ?_
        refine zJ_iconst (n := 183) (v := 1) d_Mo_grow_182 rfl zci_1 ?_
        refine zJ_iadd (n := 184) d_Mo_grow_183 rfl ?_
        refine zJ_goto (t := 188) d_Mo_grow_184 (by decide) ?_
        exact t_Mo_grow_b188 hd ih h
theorem t_Mo_grow_b109 {D : va_G} {tt : ClassId × ClassId × ClassId} {a : Nat → Nat} {d N : Nat} (hd : 1 ≤ d) {z : Int32 × zMem} {k38 : Int32 → Int32 → zMem → Option (Int32 × zMem)} (hk38 : ∀ (x1 x2 : Int32) (o3 o4 : Option Value) (M : zMem), k38 x1 x2 M = some z → zS (zEn D tt) zshp a mz_Mo_grow d zTr (zFs (zEn D tt) zshp a (zRv z)) 38 [some (.ref (a 45)), some (.int x1), some (.int x2), o3, o4] [] M) {x1 : Int32} {x2 : Int32} {o3 : Option Value} {o4 : Option Value} {M : zMem} (h : f_Mo_grow_b109 N k38 x1 x2 M = some z) : zS (zEn D tt) zshp a mz_Mo_grow d zTr (zFs (zEn D tt) zshp a (zRv z)) 109 [some (.ref (a 45)), some (.int x1), some (.int x2), o3, o4] [] M := by
  unfold f_Mo_grow_b109 at h
  obtain ⟨v109, hv109, h⟩ := zli h
  refine zS_iinc (n := 112) (j := 2) (x := x2) (v := 1) (x' := v109) d_Mo_grow_109 rfl rfl zci_1 (Nat.le_of_ble_eq_true rfl) hv109 ?_
  refine zJ_goto (t := 38) d_Mo_grow_112 (by decide) ?_
  exact hk38 _ _ _ _ _ h
theorem t_Mo_grow_b65 {D : va_G} {tt : ClassId × ClassId × ClassId} {a : Nat → Nat} {d N : Nat} (hd : 1 ≤ d) {z : Int32 × zMem} {k38 : Int32 → Int32 → zMem → Option (Int32 × zMem)} (hk38 : ∀ (x1 x2 : Int32) (o3 o4 : Option Value) (M : zMem), k38 x1 x2 M = some z → zS (zEn D tt) zshp a mz_Mo_grow d zTr (zFs (zEn D tt) zshp a (zRv z)) 38 [some (.ref (a 45)), some (.int x1), some (.int x2), o3, o4] [] M) {x1 : Int32} {x2 : Int32} {s0 : Int32} {o3 : Option Value} {o4 : Option Value} {M : zMem} (h : f_Mo_grow_b65 N k38 x1 x2 s0 M = some z) : zS (zEn D tt) zshp a mz_Mo_grow d zTr (zFs (zEn D tt) zshp a (zRv z)) 65 [some (.ref (a 45)), some (.int x1), some (.int x2), o3, o4] [.int s0] M := by
  unfold f_Mo_grow_b65 at h
  refine zS_istore_n (n := 66) (j := 3) (x' := s0) d_Mo_grow_65 rfl rfl (Nat.le_of_ble_eq_true rfl) rfl ?_
  refine zJ_iload_n (n := 67) (j := 3) (x := s0) d_Mo_grow_66 rfl rfl rfl ?_
  refine zJ_if_eq (t := 109) (n := 70) d_Mo_grow_67 (by decide) rfl (fun hc => ?_) (fun hc => ?_)
  · rw [if_pos hc] at h
    exact t_Mo_grow_b109 hd hk38 h
  · rw [if_neg hc] at h
    refine zJ_bipush (n := 72) (v := 64) d_Mo_grow_70 rfl zcb_64 ?_
    refine zJ_iload_n (n := 73) (j := 2) (x := x2) d_Mo_grow_72 rfl rfl rfl ?_
    obtain ⟨q73, hq73, h⟩ := zbd h
    refine zS_callSi (n := 76) (avs := [.int x2]) (rest := [.int (64 : Int32)]) (z := q73) (d' := d - 1) d_Mo_grow_73 rfl (sk_Mo_98 D tt) rfl rfl (Nat.le_of_ble_eq_true rfl) (by omega) (t_Mo_indexOf (by omega) hq73) ?_
    refine zJ_iadd (n := 77) d_Mo_grow_76 rfl ?_
    obtain ⟨v77, hv77, h⟩ := zli h
    refine zS_istore (n := 79) (j := 4) (x' := v77) d_Mo_grow_77 rfl (Nat.le_of_ble_eq_true rfl) hv77 ?_
    refine zJ_aload_n (n := 80) (j := 0) (x := a 45) d_Mo_grow_79 rfl rfl rfl ?_
    refine zS_getr (n := 83) (k0 := 45) (j := 6) (q := 50) d_Mo_grow_80 rfl (fl_Mo_23 D tt) rfl rfl ?_
    refine zJ_iload (n := 85) (j := 4) (x := v77) d_Mo_grow_83 rfl rfl ?_
    refine zJ_iconst (n := 86) (v := 1) d_Mo_grow_85 rfl zci_1 ?_
    obtain ⟨g86, h⟩ := zgd h
    obtain ⟨M86, hM86, h⟩ := zli h
    refine zS_iastN (n := 87) (k0 := 50) d_Mo_grow_86 rfl rfl rfl rfl g86 hM86 ?_
    refine zJ_aload_n (n := 88) (j := 0) (x := a 45) d_Mo_grow_87 rfl rfl rfl ?_
    refine zS_getr (n := 91) (k0 := 45) (j := 7) (q := 51) d_Mo_grow_88 rfl (fl_Mo_26 D tt) rfl rfl ?_
    refine zJ_iload (n := 93) (j := 4) (x := v77) d_Mo_grow_91 rfl rfl ?_
    refine zJ_aload_n (n := 94) (j := 0) (x := a 45) d_Mo_grow_93 rfl rfl rfl ?_
    refine zJ_iconst (n := 95) (v := 1) d_Mo_grow_94 rfl zci_1 ?_
    refine zJ_iload_n (n := 96) (j := 2) (x := x2) d_Mo_grow_95 rfl rfl rfl ?_
    refine zJ_iload_n (n := 97) (j := 3) (x := s0) d_Mo_grow_96 rfl rfl rfl ?_
    obtain ⟨q97, hq97, h⟩ := zbd h
    refine zS_callVi (n := 100) (k0 := 45) (avs := [.int (1 : Int32), .int x2, .int s0]) (rest := [.int v77, .ref (a 51)]) (z := q97) (d' := d - 1) d_Mo_grow_97 rfl (vk_Mo_102 D tt) rfl rfl rfl (Nat.le_of_ble_eq_true rfl) (by omega) (t_Mo_hash (by omega) hq97) ?_
    obtain ⟨g100, h⟩ := zgd h
    obtain ⟨M100, hM100, h⟩ := zli h
    refine zS_iastN (n := 101) (k0 := 51) d_Mo_grow_100 rfl rfl rfl rfl g100 hM100 ?_
    refine zJ_aload_n (n := 102) (j := 0) (x := a 45) d_Mo_grow_101 rfl rfl rfl ?_
    refine zS_getr (n := 105) (k0 := 45) (j := 8) (q := 52) d_Mo_grow_102 rfl (fl_Mo_29 D tt) rfl rfl ?_
    refine zJ_iload (n := 107) (j := 4) (x := v77) d_Mo_grow_105 rfl rfl ?_
    refine zJ_iload_n (n := 108) (j := 2) (x := x2) d_Mo_grow_107 rfl rfl rfl ?_
    obtain ⟨g108, h⟩ := zgd h
    obtain ⟨M108, hM108, h⟩ := zli h
    refine zS_iastN (n := 109) (k0 := 52) d_Mo_grow_108 rfl rfl rfl rfl g108 hM108 ?_
    exact t_Mo_grow_b109 hd hk38 h
theorem t_Mo_grow_l38 {D : va_G} {tt : ClassId × ClassId × ClassId} {a : Nat → Nat} {d N : Nat} (hd : 1 ≤ d) {z : Int32 × zMem} : ∀ (n : Nat), ∀ (x1 x2 : Int32) (o3 o4 : Option Value) (M : zMem), f_Mo_grow_l38 N n x1 x2 M = some z → zS (zEn D tt) zshp a mz_Mo_grow d zTr (zFs (zEn D tt) zshp a (zRv z)) 38 [some (.ref (a 45)), some (.int x1), some (.int x2), o3, o4] [] M := by
  intro n
  induction n with
  | zero =>
    intro x1 x2 o3 o4 M h
    rw [f_Mo_grow_l38] at h
    cases h
  | succ n ih =>
    intro x1 x2 o3 o4 M h
    rw [f_Mo_grow_l38] at h
    refine zJ_iload_n (n := 39) (j := 2) (x := x2) d_Mo_grow_38 rfl rfl rfl ?_
    refine zJ_bipush (n := 41) (v := 64) d_Mo_grow_39 rfl zcb_64 ?_
    refine zJ_icmp_ge (t := 115) (n := 44) d_Mo_grow_41 (by decide) rfl (fun hc => ?_) (fun hc => ?_)
    · rw [if_pos hc] at h
      refine zJ_bipush (n := 117) (v := 63) d_Mo_grow_115 rfl zcb_63 ?_
      refine zS_istore_n (n := 118) (j := 2) (x' := (63 : Int32)) d_Mo_grow_117 rfl rfl (Nat.le_of_ble_eq_true rfl) rfl ?_
      exact t_Mo_grow_l118 hd N _ _ _ _ _ h
    · rw [if_neg hc] at h
      refine zJ_iload_n (n := 45) (j := 1) (x := x1) d_Mo_grow_44 rfl rfl rfl ?_
      refine zJ_if_ge (t := 57) (n := 48) d_Mo_grow_45 (by decide) rfl (fun hc => ?_) (fun hc => ?_)
      · rw [if_pos hc] at h
        refine zJ_aload_n (n := 58) (j := 0) (x := a 45) d_Mo_grow_57 rfl rfl rfl ?_
        refine zS_getr (n := 61) (k0 := 45) (j := 1) (q := 46) d_Mo_grow_58 rfl (fl_Mo_7 D tt) rfl rfl ?_
        refine zJ_iload_n (n := 62) (j := 1) (x := x1) d_Mo_grow_61 rfl rfl rfl ?_
        refine zJ_iload_n (n := 63) (j := 2) (x := x2) d_Mo_grow_62 rfl rfl rfl ?_
        refine zJ_iadd (n := 64) d_Mo_grow_63 rfl ?_
        obtain ⟨g64, h⟩ := zgd h
        refine zS_iald (n := 65) (k0 := 46) d_Mo_grow_64 rfl rfl rfl rfl g64 ?_
        exact t_Mo_grow_b65 hd ih h
      · rw [if_neg hc] at h
        refine zJ_aload_n (n := 49) (j := 0) (x := a 45) d_Mo_grow_48 rfl rfl rfl ?_
        refine zS_getr (n := 52) (k0 := 45) (j := 2) (q := 47) d_Mo_grow_49 rfl (fl_Mo_13 D tt) rfl rfl ?_
        refine zJ_iload_n (n := 53) (j := 2) (x := x2) d_Mo_grow_52 rfl rfl rfl ?_
        obtain ⟨g53, h⟩ := zgd h
        refine zS_iald (n := 54) (k0 := 47) d_Mo_grow_53 rfl rfl rfl rfl g53 ?_
        refine zJ_goto (t := 65) d_Mo_grow_54 (by decide) ?_
        exact t_Mo_grow_b65 hd ih h
theorem t_Mo_grow_l2 {D : va_G} {tt : ClassId × ClassId × ClassId} {a : Nat → Nat} {d N : Nat} (hd : 1 ≤ d) {z : Int32 × zMem} : ∀ (n : Nat), ∀ (x1 x2 : Int32) (o3 o4 : Option Value) (M : zMem), f_Mo_grow_l2 N n x1 x2 M = some z → zS (zEn D tt) zshp a mz_Mo_grow d zTr (zFs (zEn D tt) zshp a (zRv z)) 2 [some (.ref (a 45)), some (.int x1), some (.int x2), o3, o4] [] M := by
  intro n
  induction n with
  | zero =>
    intro x1 x2 o3 o4 M h
    rw [f_Mo_grow_l2] at h
    cases h
  | succ n ih =>
    intro x1 x2 o3 o4 M h
    rw [f_Mo_grow_l2] at h
    refine zJ_iload_n (n := 3) (j := 2) (x := x2) d_Mo_grow_2 rfl rfl rfl ?_
    refine zJ_sipush (n := 6) (v := 128) d_Mo_grow_3 rfl zcs_128 ?_
    refine zJ_icmp_ge (t := 36) (n := 9) d_Mo_grow_6 (by decide) rfl (fun hc => ?_) (fun hc => ?_)
    · rw [if_pos hc] at h
      refine zJ_iconst (n := 37) (v := 0) d_Mo_grow_36 rfl zci_0 ?_
      refine zS_istore_n (n := 38) (j := 2) (x' := (0 : Int32)) d_Mo_grow_37 rfl rfl (Nat.le_of_ble_eq_true rfl) rfl ?_
      exact t_Mo_grow_l38 hd N _ _ _ _ _ h
    · rw [if_neg hc] at h
      refine zJ_aload_n (n := 10) (j := 0) (x := a 45) d_Mo_grow_9 rfl rfl rfl ?_
      refine zS_getr (n := 13) (k0 := 45) (j := 6) (q := 50) d_Mo_grow_10 rfl (fl_Mo_23 D tt) rfl rfl ?_
      refine zJ_iload_n (n := 14) (j := 2) (x := x2) d_Mo_grow_13 rfl rfl rfl ?_
      refine zJ_iconst (n := 15) (v := 0) d_Mo_grow_14 rfl zci_0 ?_
      obtain ⟨g15, h⟩ := zgd h
      obtain ⟨M15, hM15, h⟩ := zli h
      refine zS_iastN (n := 16) (k0 := 50) d_Mo_grow_15 rfl rfl rfl rfl g15 hM15 ?_
      refine zJ_aload_n (n := 17) (j := 0) (x := a 45) d_Mo_grow_16 rfl rfl rfl ?_
      refine zS_getr (n := 20) (k0 := 45) (j := 7) (q := 51) d_Mo_grow_17 rfl (fl_Mo_26 D tt) rfl rfl ?_
      refine zJ_iload_n (n := 21) (j := 2) (x := x2) d_Mo_grow_20 rfl rfl rfl ?_
      refine zJ_iconst (n := 22) (v := 0) d_Mo_grow_21 rfl zci_0 ?_
      obtain ⟨g22, h⟩ := zgd h
      obtain ⟨M22, hM22, h⟩ := zli h
      refine zS_iastN (n := 23) (k0 := 51) d_Mo_grow_22 rfl rfl rfl rfl g22 hM22 ?_
      refine zJ_aload_n (n := 24) (j := 0) (x := a 45) d_Mo_grow_23 rfl rfl rfl ?_
      refine zS_getr (n := 27) (k0 := 45) (j := 8) (q := 52) d_Mo_grow_24 rfl (fl_Mo_29 D tt) rfl rfl ?_
      refine zJ_iload_n (n := 28) (j := 2) (x := x2) d_Mo_grow_27 rfl rfl rfl ?_
      refine zJ_iconst (n := 29) (v := -1) d_Mo_grow_28 rfl zci_m1 ?_
      obtain ⟨g29, h⟩ := zgd h
      obtain ⟨M29, hM29, h⟩ := zli h
      refine zS_iastN (n := 30) (k0 := 52) d_Mo_grow_29 rfl rfl rfl rfl g29 hM29 ?_
      obtain ⟨v30, hv30, h⟩ := zli h
      refine zS_iinc (n := 33) (j := 2) (x := x2) (v := 1) (x' := v30) d_Mo_grow_30 rfl rfl zci_1 (Nat.le_of_ble_eq_true rfl) hv30 ?_
      refine zJ_goto (t := 2) d_Mo_grow_33 (by decide) ?_
      exact ih _ _ _ _ _ h
theorem t_Mo_grow {D : va_G} {tt : ClassId × ClassId × ClassId} {a : Nat → Nat} {d N : Nat} (hd : 1 ≤ d) {x1 : Int32} {M : zMem} {z : Int32 × zMem} (h : f_Mo_grow N x1 M = some z) : zK (zEn D tt) zshp a mz_Mo_grow d [.ref (a 45), .int x1] M (zRv z) := by
  refine zK.enter (L := [some (.ref (a 45)), some (.int x1), none, none, none]) (by decide) rfl (Nat.le_of_ble_eq_true rfl) rfl ?_
  unfold f_Mo_grow at h
  refine zJ_iconst (n := 1) (v := 0) d_Mo_grow_0 rfl zci_0 ?_
  refine zS_istore_n (n := 2) (j := 2) (x' := (0 : Int32)) d_Mo_grow_1 rfl rfl (Nat.le_of_ble_eq_true rfl) rfl ?_
  exact t_Mo_grow_l2 hd N _ _ _ _ _ h
theorem t_Mo_isNode {D : va_G} {tt : ClassId × ClassId × ClassId} {a : Nat → Nat} {d N : Nat} (hd : 0 ≤ d) {x1 : Int32} {M : zMem} {z : Int32 × zMem} (h : f_Mo_isNode N x1 M = some z) : zK (zEn D tt) zshp a mz_Mo_isNode d [.ref (a 45), .int x1] M (zRi z) := by
  refine zK.enter (L := [some (.ref (a 45)), some (.int x1)]) (by decide) rfl (Nat.le_of_ble_eq_true rfl) rfl ?_
  unfold f_Mo_isNode at h
  refine zJ_aload_n (n := 1) (j := 0) (x := a 45) d_Mo_isNode_0 rfl rfl rfl ?_
  refine zS_getr (n := 4) (k0 := 45) (j := 6) (q := 50) d_Mo_isNode_1 rfl (fl_Mo_23 D tt) rfl rfl ?_
  refine zJ_iload_n (n := 5) (j := 1) (x := x1) d_Mo_isNode_4 rfl rfl rfl ?_
  obtain ⟨g5, h⟩ := zgd h
  refine zS_iald (n := 6) (k0 := 50) d_Mo_isNode_5 rfl rfl rfl rfl g5 ?_
  refine zJ_iconst (n := 7) (v := 1) d_Mo_isNode_6 rfl zci_1 ?_
  refine zJ_icmp_gt (t := 37) (n := 10) d_Mo_isNode_7 (by decide) rfl (fun hc => ?_) (fun hc => ?_)
  · rw [if_pos hc] at h
    refine zJ_iconst (n := 38) (v := 1) d_Mo_isNode_37 rfl zci_1 ?_
    refine zJ_goto (t := 42) d_Mo_isNode_38 (by decide) ?_
    cases h
    exact zS_ireturn d_Mo_isNode_42 rfl rfl ⟨rfl, rfl⟩
  · rw [if_neg hc] at h
    refine zJ_aload_n (n := 11) (j := 0) (x := a 45) d_Mo_isNode_10 rfl rfl rfl ?_
    refine zS_getr (n := 14) (k0 := 45) (j := 6) (q := 50) d_Mo_isNode_11 rfl (fl_Mo_23 D tt) rfl rfl ?_
    refine zJ_iload_n (n := 15) (j := 1) (x := x1) d_Mo_isNode_14 rfl rfl rfl ?_
    obtain ⟨g15, h⟩ := zgd h
    refine zS_iald (n := 16) (k0 := 50) d_Mo_isNode_15 rfl rfl rfl rfl g15 ?_
    refine zJ_iconst (n := 17) (v := 1) d_Mo_isNode_16 rfl zci_1 ?_
    refine zJ_icmp_ne (t := 41) (n := 20) d_Mo_isNode_17 (by decide) rfl (fun hc => ?_) (fun hc => ?_)
    · rw [if_neg hc] at h
      refine zJ_iconst (n := 42) (v := 0) d_Mo_isNode_41 rfl zci_0 ?_
      cases h
      exact zS_ireturn d_Mo_isNode_42 rfl rfl ⟨rfl, rfl⟩
    · rw [if_pos hc] at h
      refine zJ_iload_n (n := 21) (j := 1) (x := x1) d_Mo_isNode_20 rfl rfl rfl ?_
      refine zJ_iconst (n := 22) (v := 1) d_Mo_isNode_21 rfl zci_1 ?_
      refine zJ_icmp_eq (t := 37) (n := 25) d_Mo_isNode_22 (by decide) rfl (fun hc => ?_) (fun hc => ?_)
      · rw [if_pos hc] at h
        refine zJ_iconst (n := 38) (v := 1) d_Mo_isNode_37 rfl zci_1 ?_
        refine zJ_goto (t := 42) d_Mo_isNode_38 (by decide) ?_
        cases h
        exact zS_ireturn d_Mo_isNode_42 rfl rfl ⟨rfl, rfl⟩
      · rw [if_neg hc] at h
        refine zJ_aload_n (n := 26) (j := 0) (x := a 45) d_Mo_isNode_25 rfl rfl rfl ?_
        refine zS_getr (n := 29) (k0 := 45) (j := 6) (q := 50) d_Mo_isNode_26 rfl (fl_Mo_23 D tt) rfl rfl ?_
        refine zJ_iload_n (n := 30) (j := 1) (x := x1) d_Mo_isNode_29 rfl rfl rfl ?_
        refine zJ_iconst (n := 31) (v := 2) d_Mo_isNode_30 rfl zci_2 ?_
        refine zJ_idiv (n := 32) d_Mo_isNode_31 rfl (by decide) ?_
        obtain ⟨g32, h⟩ := zgd h
        refine zS_iald (n := 33) (k0 := 50) d_Mo_isNode_32 rfl rfl rfl rfl g32 ?_
        refine zJ_iconst (n := 34) (v := 1) d_Mo_isNode_33 rfl zci_1 ?_
        refine zJ_icmp_le (t := 41) (n := 37) d_Mo_isNode_34 (by decide) rfl (fun hc => ?_) (fun hc => ?_)
        · rw [if_pos hc] at h
          refine zJ_iconst (n := 42) (v := 0) d_Mo_isNode_41 rfl zci_0 ?_
          cases h
          exact zS_ireturn d_Mo_isNode_42 rfl rfl ⟨rfl, rfl⟩
        · rw [if_neg hc] at h
          refine zJ_iconst (n := 38) (v := 1) d_Mo_isNode_37 rfl zci_1 ?_
          refine zJ_goto (t := 42) d_Mo_isNode_38 (by decide) ?_
          cases h
          exact zS_ireturn d_Mo_isNode_42 rfl rfl ⟨rfl, rfl⟩
theorem t_Mo_names_b26 {D : va_G} {tt : ClassId × ClassId × ClassId} {a : Nat → Nat} {d N : Nat} (hd : 0 ≤ d) {z : Int32 × zMem} {k4 : Int32 → Int32 → zMem → Option (Int32 × zMem)} (hk4 : ∀ (x1 x2 : Int32) (M : zMem), k4 x1 x2 M = some z → zS (zEn D tt) zshp a mz_Mo_names d zTr (zFs (zEn D tt) zshp a (zRi z)) 4 [some (.ref (a 45)), some (.int x1), some (.int x2)] [] M) {x2 : Int32} {s0 : Int32} {o1 : Option Value} {M : zMem} (h : f_Mo_names_b26 N k4 x2 s0 M = some z) : zS (zEn D tt) zshp a mz_Mo_names d zTr (zFs (zEn D tt) zshp a (zRi z)) 26 [some (.ref (a 45)), o1, some (.int x2)] [.int s0] M := by
  unfold f_Mo_names_b26 at h
  refine zS_istore_n (n := 27) (j := 1) (x' := s0) d_Mo_names_26 rfl rfl (Nat.le_of_ble_eq_true rfl) rfl ?_
  obtain ⟨v27, hv27, h⟩ := zli h
  refine zS_iinc (n := 30) (j := 2) (x := x2) (v := 1) (x' := v27) d_Mo_names_27 rfl rfl zci_1 (Nat.le_of_ble_eq_true rfl) hv27 ?_
  refine zJ_goto (t := 4) d_Mo_names_30 (by decide) ?_
  exact hk4 _ _ _ h
theorem t_Mo_names_l4 {D : va_G} {tt : ClassId × ClassId × ClassId} {a : Nat → Nat} {d N : Nat} (hd : 0 ≤ d) {z : Int32 × zMem} : ∀ (n : Nat), ∀ (x1 x2 : Int32) (M : zMem), f_Mo_names_l4 N n x1 x2 M = some z → zS (zEn D tt) zshp a mz_Mo_names d zTr (zFs (zEn D tt) zshp a (zRi z)) 4 [some (.ref (a 45)), some (.int x1), some (.int x2)] [] M := by
  intro n
  induction n with
  | zero =>
    intro x1 x2 M h
    rw [f_Mo_names_l4] at h
    cases h
  | succ n ih =>
    intro x1 x2 M h
    rw [f_Mo_names_l4] at h
    refine zJ_iload_n (n := 5) (j := 2) (x := x2) d_Mo_names_4 rfl rfl rfl ?_
    refine zJ_bipush (n := 7) (v := 64) d_Mo_names_5 rfl zcb_64 ?_
    refine zJ_icmp_ge (t := 33) (n := 10) d_Mo_names_7 (by decide) rfl (fun hc => ?_) (fun hc => ?_)
    · rw [if_pos hc] at h
      refine zJ_iload_n (n := 34) (j := 1) (x := x1) d_Mo_names_33 rfl rfl rfl ?_
      cases h
      exact zS_ireturn d_Mo_names_34 rfl rfl ⟨rfl, rfl⟩
    · rw [if_neg hc] at h
      refine zJ_aload_n (n := 11) (j := 0) (x := a 45) d_Mo_names_10 rfl rfl rfl ?_
      refine zS_getr (n := 14) (k0 := 45) (j := 3) (q := 48) d_Mo_names_11 rfl (fl_Mo_16 D tt) rfl rfl ?_
      refine zJ_iload_n (n := 15) (j := 2) (x := x2) d_Mo_names_14 rfl rfl rfl ?_
      obtain ⟨g15, h⟩ := zgd h
      refine zS_zald (n := 16) (k0 := 48) d_Mo_names_15 rfl rfl rfl rfl g15 ?_
      refine zJ_if_eq (t := 25) (n := 19) d_Mo_names_16 (by decide) rfl (fun hc => ?_) (fun hc => ?_)
      · rw [if_pos hc] at h
        refine zJ_iload_n (n := 26) (j := 1) (x := x1) d_Mo_names_25 rfl rfl rfl ?_
        exact t_Mo_names_b26 hd ih h
      · rw [if_neg hc] at h
        refine zJ_iload_n (n := 20) (j := 1) (x := x1) d_Mo_names_19 rfl rfl rfl ?_
        refine zJ_iconst (n := 21) (v := 1) d_Mo_names_20 rfl zci_1 ?_
        refine zJ_iadd (n := 22) d_Mo_names_21 rfl ?_
        refine zJ_goto (t := 26) d_Mo_names_22 (by decide) ?_
        exact t_Mo_names_b26 hd ih h
theorem t_Mo_names {D : va_G} {tt : ClassId × ClassId × ClassId} {a : Nat → Nat} {d N : Nat} (hd : 0 ≤ d) {M : zMem} {z : Int32 × zMem} (h : f_Mo_names N M = some z) : zK (zEn D tt) zshp a mz_Mo_names d [.ref (a 45)] M (zRi z) := by
  refine zK.enter (L := [some (.ref (a 45)), none, none]) (by decide) rfl (Nat.le_of_ble_eq_true rfl) rfl ?_
  unfold f_Mo_names at h
  refine zJ_iconst (n := 1) (v := 0) d_Mo_names_0 rfl zci_0 ?_
  refine zS_istore_n (n := 2) (j := 1) (x' := (0 : Int32)) d_Mo_names_1 rfl rfl (Nat.le_of_ble_eq_true rfl) rfl ?_
  refine zJ_iconst (n := 3) (v := 0) d_Mo_names_2 rfl zci_0 ?_
  refine zS_istore_n (n := 4) (j := 2) (x' := (0 : Int32)) d_Mo_names_3 rfl rfl (Nat.le_of_ble_eq_true rfl) rfl ?_
  exact t_Mo_names_l4 hd N _ _ _ h
theorem t_Mo_put {D : va_G} {tt : ClassId × ClassId × ClassId} {a : Nat → Nat} {d N : Nat} (hd : 1 ≤ d) {x1 : Int32} {x2 : Int32} {M : zMem} {z : Int32 × zMem} (h : f_Mo_put N x1 x2 M = some z) : zK (zEn D tt) zshp a mz_Mo_put d [.ref (a 45), .int x1, .int x2] M (zRi z) := by
  refine zK.enter (L := [some (.ref (a 45)), some (.int x1), some (.int x2)]) (by decide) rfl (Nat.le_of_ble_eq_true rfl) rfl ?_
  unfold f_Mo_put at h
  refine zJ_aload_n (n := 1) (j := 0) (x := a 45) d_Mo_put_0 rfl rfl rfl ?_
  refine zS_geti (n := 4) (k0 := 45) (j := 18) d_Mo_put_1 rfl (fl_Mo_106 D tt) rfl rfl ?_
  refine zJ_if_eq (t := 10) (n := 7) d_Mo_put_4 (by decide) rfl (fun hc => ?_) (fun hc => ?_)
  · rw [if_pos hc] at h
    refine zJ_iload_n (n := 11) (j := 1) (x := x1) d_Mo_put_10 rfl rfl rfl ?_
    obtain ⟨q11, hq11, h⟩ := zbd h
    refine zS_callSi (n := 14) (avs := [.int x1]) (rest := []) (z := q11) (d' := d - 1) d_Mo_put_11 rfl (sk_Mo_110 D tt) rfl rfl (Nat.le_of_ble_eq_true rfl) (by omega) (t_Mo_isName (by omega) hq11) ?_
    refine zJ_if_eq (t := 24) (n := 17) d_Mo_put_14 (by decide) rfl (fun hc => ?_) (fun hc => ?_)
    · rw [if_pos hc] at h
      refine zJ_iconst (n := 25) (v := -1) d_Mo_put_24 rfl zci_m1 ?_
      cases h
      exact zS_ireturn d_Mo_put_25 rfl rfl ⟨rfl, rfl⟩
    · rw [if_neg hc] at h
      refine zJ_iload_n (n := 18) (j := 2) (x := x2) d_Mo_put_17 rfl rfl rfl ?_
      obtain ⟨q18, hq18, h⟩ := zbd h
      refine zS_callSi (n := 21) (avs := [.int x2]) (rest := []) (z := q18) (d' := d - 1) d_Mo_put_18 rfl (sk_Mo_114 D tt) rfl rfl (Nat.le_of_ble_eq_true rfl) (by omega) (t_Mo_isKey (by omega) hq18) ?_
      refine zJ_if_ne (t := 26) (n := 24) d_Mo_put_21 (by decide) rfl (fun hc => ?_) (fun hc => ?_)
      · rw [if_neg hc] at h
        refine zJ_aload_n (n := 27) (j := 0) (x := a 45) d_Mo_put_26 rfl rfl rfl ?_
        refine zS_getr (n := 30) (k0 := 45) (j := 2) (q := 47) d_Mo_put_27 rfl (fl_Mo_13 D tt) rfl rfl ?_
        refine zJ_iload_n (n := 31) (j := 1) (x := x1) d_Mo_put_30 rfl rfl rfl ?_
        refine zJ_iload_n (n := 32) (j := 2) (x := x2) d_Mo_put_31 rfl rfl rfl ?_
        obtain ⟨g32, h⟩ := zgd h
        obtain ⟨M32, hM32, h⟩ := zli h
        refine zS_iastN (n := 33) (k0 := 47) d_Mo_put_32 rfl rfl rfl rfl g32 hM32 ?_
        refine zJ_aload_n (n := 34) (j := 0) (x := a 45) d_Mo_put_33 rfl rfl rfl ?_
        refine zS_getr (n := 37) (k0 := 45) (j := 3) (q := 48) d_Mo_put_34 rfl (fl_Mo_16 D tt) rfl rfl ?_
        refine zJ_iload_n (n := 38) (j := 1) (x := x1) d_Mo_put_37 rfl rfl rfl ?_
        refine zJ_iconst (n := 39) (v := 1) d_Mo_put_38 rfl zci_1 ?_
        obtain ⟨g39, h⟩ := zgd h
        obtain ⟨M39, hM39, h⟩ := zli h
        refine zS_zastN (n := 40) (k0 := 48) d_Mo_put_39 rfl rfl rfl rfl g39 rfl hM39 ?_
        refine zJ_aload_n (n := 41) (j := 0) (x := a 45) d_Mo_put_40 rfl rfl rfl ?_
        obtain ⟨q41, hq41, h⟩ := zbd h
        refine zS_callVi (n := 44) (k0 := 45) (avs := []) (rest := []) (z := q41) (d' := d - 1) d_Mo_put_41 rfl (vk_Mo_117 D tt) rfl rfl rfl (Nat.le_of_ble_eq_true rfl) (by omega) (t_Mo_names (by omega) hq41) ?_
        cases h
        exact zS_ireturn d_Mo_put_44 rfl rfl ⟨rfl, rfl⟩
      · rw [if_pos hc] at h
        refine zJ_iconst (n := 25) (v := -1) d_Mo_put_24 rfl zci_m1 ?_
        cases h
        exact zS_ireturn d_Mo_put_25 rfl rfl ⟨rfl, rfl⟩
  · rw [if_neg hc] at h
    refine zJ_bipush (n := 9) (v := -9) d_Mo_put_7 rfl zcb_m9 ?_
    cases h
    exact zS_ireturn d_Mo_put_9 rfl rfl ⟨rfl, rfl⟩
theorem t_Mo_write_b75 {D : va_G} {tt : ClassId × ClassId × ClassId} {a : Nat → Nat} {d N : Nat} (hd : 0 ≤ d) {z : Int32 × zMem} {s1 : Int32} {o1 : Option Value} {o2 : Option Value} {o3 : Option Value} {M : zMem} (h : f_Mo_write_b75 N s1 M = some z) : zS (zEn D tt) zshp a mz_Mo_write d zTr (zFs (zEn D tt) zshp a (zRi z)) 75 [some (.ref (a 45)), o1, o2, o3] [.int s1, .ref (a 45)] M := by
  unfold f_Mo_write_b75 at h
  obtain ⟨M75, hM75, h⟩ := zli h
  refine zS_putN (n := 78) (k0 := 45) (j := 17) d_Mo_write_75 rfl (fl_Mo_124 D tt) zty_Mo rfl rfl rfl rfl rfl hM75 ?_
  refine zJ_aload_n (n := 79) (j := 0) (x := a 45) d_Mo_write_78 rfl rfl rfl ?_
  refine zS_geti (n := 82) (k0 := 45) (j := 18) d_Mo_write_79 rfl (fl_Mo_106 D tt) rfl rfl ?_
  refine zJ_if_ne (t := 89) (n := 85) d_Mo_write_82 (by decide) rfl (fun hc => ?_) (fun hc => ?_)
  · rw [if_neg hc] at h
    refine zJ_iconst (n := 90) (v := 0) d_Mo_write_89 rfl zci_0 ?_
    cases h
    exact zS_ireturn d_Mo_write_90 rfl rfl ⟨rfl, rfl⟩
  · rw [if_pos hc] at h
    refine zJ_iconst (n := 86) (v := 1) d_Mo_write_85 rfl zci_1 ?_
    refine zJ_goto (t := 90) d_Mo_write_86 (by decide) ?_
    cases h
    exact zS_ireturn d_Mo_write_90 rfl rfl ⟨rfl, rfl⟩
theorem t_Mo_write_b54 {D : va_G} {tt : ClassId × ClassId × ClassId} {a : Nat → Nat} {d N : Nat} (hd : 0 ≤ d) {z : Int32 × zMem} {s1 : Int32} {o1 : Option Value} {o2 : Option Value} {o3 : Option Value} {M : zMem} (h : f_Mo_write_b54 N s1 M = some z) : zS (zEn D tt) zshp a mz_Mo_write d zTr (zFs (zEn D tt) zshp a (zRi z)) 54 [some (.ref (a 45)), o1, o2, o3] [.int s1, .ref (a 45)] M := by
  unfold f_Mo_write_b54 at h
  obtain ⟨gz54, h⟩ := zgd h
  obtain ⟨M54, hM54, h⟩ := zli h
  refine zS_putN (n := 57) (k0 := 45) (j := 18) d_Mo_write_54 rfl (fl_Mo_106 D tt) zty_Mo rfl rfl rfl (zbool_nar gz54) (zbool_fit gz54) hM54 ?_
  refine zJ_aload_n (n := 58) (j := 0) (x := a 45) d_Mo_write_57 rfl rfl rfl ?_
  refine zJ_aload_n (n := 59) (j := 0) (x := a 45) d_Mo_write_58 rfl rfl rfl ?_
  refine zS_geti (n := 62) (k0 := 45) (j := 17) d_Mo_write_59 rfl (fl_Mo_124 D tt) rfl rfl ?_
  refine zJ_if_le (t := 74) (n := 65) d_Mo_write_62 (by decide) rfl (fun hc => ?_) (fun hc => ?_)
  · rw [if_pos hc] at h
    refine zJ_iconst (n := 75) (v := 0) d_Mo_write_74 rfl zci_0 ?_
    exact t_Mo_write_b75 hd h
  · rw [if_neg hc] at h
    refine zJ_aload_n (n := 66) (j := 0) (x := a 45) d_Mo_write_65 rfl rfl rfl ?_
    refine zS_geti (n := 69) (k0 := 45) (j := 17) d_Mo_write_66 rfl (fl_Mo_124 D tt) rfl rfl ?_
    refine zJ_iconst (n := 70) (v := 1) d_Mo_write_69 rfl zci_1 ?_
    refine zJ_isub (n := 71) d_Mo_write_70 rfl ?_
    refine zJ_goto (t := 75) d_Mo_write_71 (by decide) ?_
    exact t_Mo_write_b75 hd h
theorem t_Mo_write {D : va_G} {tt : ClassId × ClassId × ClassId} {a : Nat → Nat} {d N : Nat} (hd : 0 ≤ d) {x1 : Int32} {x2 : Int32} {x3 : Int32} {M : zMem} {z : Int32 × zMem} (h : f_Mo_write N x1 x2 x3 M = some z) : zK (zEn D tt) zshp a mz_Mo_write d [.ref (a 45), .int x1, .int x2, .int x3] M (zRi z) := by
  refine zK.enter (L := [some (.ref (a 45)), some (.int x1), some (.int x2), some (.int x3)]) (by decide) rfl (Nat.le_of_ble_eq_true rfl) rfl ?_
  unfold f_Mo_write at h
  refine zJ_aload_n (n := 1) (j := 0) (x := a 45) d_Mo_write_0 rfl rfl rfl ?_
  refine zS_getr (n := 4) (k0 := 45) (j := 10) (q := 53) d_Mo_write_1 rfl (fl_Mo_32 D tt) rfl rfl ?_
  refine zJ_aload_n (n := 5) (j := 0) (x := a 45) d_Mo_write_4 rfl rfl rfl ?_
  refine zS_geti (n := 8) (k0 := 45) (j := 9) d_Mo_write_5 rfl (fl_Mo_121 D tt) rfl rfl ?_
  refine zJ_iload_n (n := 9) (j := 1) (x := x1) d_Mo_write_8 rfl rfl rfl ?_
  obtain ⟨g9, h⟩ := zgd h
  obtain ⟨M9, hM9, h⟩ := zli h
  refine zS_iastN (n := 10) (k0 := 53) d_Mo_write_9 rfl rfl rfl rfl g9 hM9 ?_
  refine zJ_aload_n (n := 11) (j := 0) (x := a 45) d_Mo_write_10 rfl rfl rfl ?_
  refine zS_getr (n := 14) (k0 := 45) (j := 11) (q := 54) d_Mo_write_11 rfl (fl_Mo_35 D tt) rfl rfl ?_
  refine zJ_aload_n (n := 15) (j := 0) (x := a 45) d_Mo_write_14 rfl rfl rfl ?_
  refine zS_geti (n := 18) (k0 := 45) (j := 9) d_Mo_write_15 rfl (fl_Mo_121 D tt) rfl rfl ?_
  refine zJ_iload_n (n := 19) (j := 2) (x := x2) d_Mo_write_18 rfl rfl rfl ?_
  obtain ⟨g19, h⟩ := zgd h
  obtain ⟨M19, hM19, h⟩ := zli h
  refine zS_iastN (n := 20) (k0 := 54) d_Mo_write_19 rfl rfl rfl rfl g19 hM19 ?_
  refine zJ_aload_n (n := 21) (j := 0) (x := a 45) d_Mo_write_20 rfl rfl rfl ?_
  refine zS_getr (n := 24) (k0 := 45) (j := 12) (q := 55) d_Mo_write_21 rfl (fl_Mo_38 D tt) rfl rfl ?_
  refine zJ_aload_n (n := 25) (j := 0) (x := a 45) d_Mo_write_24 rfl rfl rfl ?_
  refine zS_geti (n := 28) (k0 := 45) (j := 9) d_Mo_write_25 rfl (fl_Mo_121 D tt) rfl rfl ?_
  refine zJ_iload_n (n := 29) (j := 3) (x := x3) d_Mo_write_28 rfl rfl rfl ?_
  obtain ⟨g29, h⟩ := zgd h
  obtain ⟨M29, hM29, h⟩ := zli h
  refine zS_iastN (n := 30) (k0 := 55) d_Mo_write_29 rfl rfl rfl rfl g29 hM29 ?_
  refine zJ_aload_n (n := 31) (j := 0) (x := a 45) d_Mo_write_30 rfl rfl rfl ?_
  refine zJ_dup (n := 32) d_Mo_write_31 rfl rfl ?_
  refine zS_geti (n := 35) (k0 := 45) (j := 9) d_Mo_write_32 rfl (fl_Mo_121 D tt) rfl rfl ?_
  refine zJ_iconst (n := 36) (v := 1) d_Mo_write_35 rfl zci_1 ?_
  refine zJ_iadd (n := 37) d_Mo_write_36 rfl ?_
  obtain ⟨M37, hM37, h⟩ := zli h
  refine zS_putN (n := 40) (k0 := 45) (j := 9) d_Mo_write_37 rfl (fl_Mo_121 D tt) zty_Mo rfl rfl rfl rfl rfl hM37 ?_
  refine zJ_aload_n (n := 41) (j := 0) (x := a 45) d_Mo_write_40 rfl rfl rfl ?_
  refine zJ_aload_n (n := 42) (j := 0) (x := a 45) d_Mo_write_41 rfl rfl rfl ?_
  refine zS_geti (n := 45) (k0 := 45) (j := 17) d_Mo_write_42 rfl (fl_Mo_124 D tt) rfl rfl ?_
  refine zJ_iconst (n := 46) (v := 1) d_Mo_write_45 rfl zci_1 ?_
  refine zJ_icmp_ne (t := 53) (n := 49) d_Mo_write_46 (by decide) rfl (fun hc => ?_) (fun hc => ?_)
  · rw [if_neg hc] at h
    refine zJ_iconst (n := 54) (v := 0) d_Mo_write_53 rfl zci_0 ?_
    exact t_Mo_write_b54 hd h
  · rw [if_pos hc] at h
    refine zJ_iconst (n := 50) (v := 1) d_Mo_write_49 rfl zci_1 ?_
    refine zJ_goto (t := 54) d_Mo_write_50 (by decide) ?_
    exact t_Mo_write_b54 hd h
theorem t_Mo_touched_b48 {D : va_G} {tt : ClassId × ClassId × ClassId} {a : Nat → Nat} {d N : Nat} (hd : 1 ≤ d) {z : Int32 × zMem} {k5 : Int32 → Int32 → Int32 → Int32 → zMem → Option (Int32 × zMem)} (hk5 : ∀ (x1 x2 x3 x4 : Int32) (M : zMem), k5 x1 x2 x3 x4 M = some z → zS (zEn D tt) zshp a mz_Mo_touched d zTr (zFs (zEn D tt) zshp a (zRi z)) 5 [some (.ref (a 45)), some (.int x1), some (.int x2), some (.int x3), some (.int x4)] [] M) {x1 : Int32} {x2 : Int32} {x4 : Int32} {s0 : Int32} {o3 : Option Value} {M : zMem} (h : f_Mo_touched_b48 N k5 x1 x2 x4 s0 M = some z) : zS (zEn D tt) zshp a mz_Mo_touched d zTr (zFs (zEn D tt) zshp a (zRi z)) 48 [some (.ref (a 45)), some (.int x1), some (.int x2), o3, some (.int x4)] [.int s0] M := by
  unfold f_Mo_touched_b48 at h
  refine zS_istore_n (n := 49) (j := 3) (x' := s0) d_Mo_touched_48 rfl rfl (Nat.le_of_ble_eq_true rfl) rfl ?_
  obtain ⟨v49, hv49, h⟩ := zli h
  refine zS_iinc (n := 52) (j := 4) (x := x4) (v := 1) (x' := v49) d_Mo_touched_49 rfl rfl zci_1 (Nat.le_of_ble_eq_true rfl) hv49 ?_
  refine zJ_goto (t := 5) d_Mo_touched_52 (by decide) ?_
  exact hk5 _ _ _ _ _ h
theorem t_Mo_touched_b43 {D : va_G} {tt : ClassId × ClassId × ClassId} {a : Nat → Nat} {d N : Nat} (hd : 1 ≤ d) {z : Int32 × zMem} {k5 : Int32 → Int32 → Int32 → Int32 → zMem → Option (Int32 × zMem)} (hk5 : ∀ (x1 x2 x3 x4 : Int32) (M : zMem), k5 x1 x2 x3 x4 M = some z → zS (zEn D tt) zshp a mz_Mo_touched d zTr (zFs (zEn D tt) zshp a (zRi z)) 5 [some (.ref (a 45)), some (.int x1), some (.int x2), some (.int x3), some (.int x4)] [] M) {x1 : Int32} {x2 : Int32} {x4 : Int32} {o3 : Option Value} {M : zMem} (h : f_Mo_touched_b43 N k5 x1 x2 x4 M = some z) : zS (zEn D tt) zshp a mz_Mo_touched d zTr (zFs (zEn D tt) zshp a (zRi z)) 43 [some (.ref (a 45)), some (.int x1), some (.int x2), o3, some (.int x4)] [] M := by
  unfold f_Mo_touched_b43 at h
  refine zJ_iconst (n := 44) (v := 1) d_Mo_touched_43 rfl zci_1 ?_
  refine zJ_goto (t := 48) d_Mo_touched_44 (by decide) ?_
  exact t_Mo_touched_b48 hd hk5 h
theorem t_Mo_touched_b47 {D : va_G} {tt : ClassId × ClassId × ClassId} {a : Nat → Nat} {d N : Nat} (hd : 1 ≤ d) {z : Int32 × zMem} {k5 : Int32 → Int32 → Int32 → Int32 → zMem → Option (Int32 × zMem)} (hk5 : ∀ (x1 x2 x3 x4 : Int32) (M : zMem), k5 x1 x2 x3 x4 M = some z → zS (zEn D tt) zshp a mz_Mo_touched d zTr (zFs (zEn D tt) zshp a (zRi z)) 5 [some (.ref (a 45)), some (.int x1), some (.int x2), some (.int x3), some (.int x4)] [] M) {x1 : Int32} {x2 : Int32} {x4 : Int32} {o3 : Option Value} {M : zMem} (h : f_Mo_touched_b47 N k5 x1 x2 x4 M = some z) : zS (zEn D tt) zshp a mz_Mo_touched d zTr (zFs (zEn D tt) zshp a (zRi z)) 47 [some (.ref (a 45)), some (.int x1), some (.int x2), o3, some (.int x4)] [] M := by
  unfold f_Mo_touched_b47 at h
  refine zJ_iconst (n := 48) (v := 0) d_Mo_touched_47 rfl zci_0 ?_
  exact t_Mo_touched_b48 hd hk5 h
theorem t_Mo_touched_l5 {D : va_G} {tt : ClassId × ClassId × ClassId} {a : Nat → Nat} {d N : Nat} (hd : 1 ≤ d) {z : Int32 × zMem} : ∀ (n : Nat), ∀ (x1 x2 x3 x4 : Int32) (M : zMem), f_Mo_touched_l5 N n x1 x2 x3 x4 M = some z → zS (zEn D tt) zshp a mz_Mo_touched d zTr (zFs (zEn D tt) zshp a (zRi z)) 5 [some (.ref (a 45)), some (.int x1), some (.int x2), some (.int x3), some (.int x4)] [] M := by
  intro n
  induction n with
  | zero =>
    intro x1 x2 x3 x4 M h
    rw [f_Mo_touched_l5] at h
    cases h
  | succ n ih =>
    intro x1 x2 x3 x4 M h
    rw [f_Mo_touched_l5] at h
    refine zJ_iload (n := 7) (j := 4) (x := x4) d_Mo_touched_5 rfl rfl ?_
    refine zJ_bipush (n := 9) (v := 64) d_Mo_touched_7 rfl zcb_64 ?_
    refine zJ_icmp_ge (t := 55) (n := 12) d_Mo_touched_9 (by decide) rfl (fun hc => ?_) (fun hc => ?_)
    · rw [if_pos hc] at h
      refine zJ_iload_n (n := 56) (j := 3) (x := x3) d_Mo_touched_55 rfl rfl rfl ?_
      obtain ⟨gz, h⟩ := zgd h
      cases h
      exact zS_ireturn d_Mo_touched_56 rfl (zbool_nar gz) ⟨rfl, rfl⟩
    · rw [if_neg hc] at h
      refine zJ_iload_n (n := 13) (j := 3) (x := x3) d_Mo_touched_12 rfl rfl rfl ?_
      refine zJ_if_ne (t := 43) (n := 16) d_Mo_touched_13 (by decide) rfl (fun hc => ?_) (fun hc => ?_)
      · rw [if_neg hc] at h
        exact t_Mo_touched_b43 hd ih h
      · rw [if_pos hc] at h
        refine zJ_aload_n (n := 17) (j := 0) (x := a 45) d_Mo_touched_16 rfl rfl rfl ?_
        refine zS_getr (n := 20) (k0 := 45) (j := 3) (q := 48) d_Mo_touched_17 rfl (fl_Mo_16 D tt) rfl rfl ?_
        refine zJ_iload (n := 22) (j := 4) (x := x4) d_Mo_touched_20 rfl rfl ?_
        obtain ⟨g22, h⟩ := zgd h
        refine zS_zald (n := 23) (k0 := 48) d_Mo_touched_22 rfl rfl rfl rfl g22 ?_
        refine zJ_if_eq (t := 47) (n := 26) d_Mo_touched_23 (by decide) rfl (fun hc => ?_) (fun hc => ?_)
        · rw [if_pos hc] at h
          exact t_Mo_touched_b47 hd ih h
        · rw [if_neg hc] at h
          refine zJ_bipush (n := 28) (v := 64) d_Mo_touched_26 rfl zcb_64 ?_
          refine zJ_iload (n := 30) (j := 4) (x := x4) d_Mo_touched_28 rfl rfl ?_
          obtain ⟨q30, hq30, h⟩ := zbd h
          refine zS_callSi (n := 33) (avs := [.int x4]) (rest := [.int (64 : Int32)]) (z := q30) (d' := d - 1) d_Mo_touched_30 rfl (sk_Mo_98 D tt) rfl rfl (Nat.le_of_ble_eq_true rfl) (by omega) (t_Mo_indexOf (by omega) hq30) ?_
          refine zJ_iadd (n := 34) d_Mo_touched_33 rfl ?_
          refine zJ_bipush (n := 36) (v := 6) d_Mo_touched_34 rfl zcb_6 ?_
          refine zJ_iload_n (n := 37) (j := 2) (x := x2) d_Mo_touched_36 rfl rfl rfl ?_
          refine zJ_isub (n := 38) d_Mo_touched_37 rfl ?_
          refine zJ_ishr (n := 39) d_Mo_touched_38 rfl ?_
          refine zJ_iload_n (n := 40) (j := 1) (x := x1) d_Mo_touched_39 rfl rfl rfl ?_
          refine zJ_icmp_ne (t := 47) (n := 43) d_Mo_touched_40 (by decide) rfl (fun hc => ?_) (fun hc => ?_)
          · rw [if_neg hc] at h
            exact t_Mo_touched_b47 hd ih h
          · rw [if_pos hc] at h
            exact t_Mo_touched_b43 hd ih h
theorem t_Mo_touched {D : va_G} {tt : ClassId × ClassId × ClassId} {a : Nat → Nat} {d N : Nat} (hd : 1 ≤ d) {x1 : Int32} {x2 : Int32} {M : zMem} {z : Int32 × zMem} (h : f_Mo_touched N x1 x2 M = some z) : zK (zEn D tt) zshp a mz_Mo_touched d [.ref (a 45), .int x1, .int x2] M (zRi z) := by
  refine zK.enter (L := [some (.ref (a 45)), some (.int x1), some (.int x2), none, none]) (by decide) rfl (Nat.le_of_ble_eq_true rfl) rfl ?_
  unfold f_Mo_touched at h
  refine zJ_iconst (n := 1) (v := 0) d_Mo_touched_0 rfl zci_0 ?_
  refine zS_istore_n (n := 2) (j := 3) (x' := (0 : Int32)) d_Mo_touched_1 rfl rfl (Nat.le_of_ble_eq_true rfl) rfl ?_
  refine zJ_iconst (n := 3) (v := 0) d_Mo_touched_2 rfl zci_0 ?_
  refine zS_istore (n := 5) (j := 4) (x' := (0 : Int32)) d_Mo_touched_3 rfl (Nat.le_of_ble_eq_true rfl) rfl ?_
  exact t_Mo_touched_l5 hd N _ _ _ _ _ h
theorem t_Mo_blockOf {D : va_G} {tt : ClassId × ClassId × ClassId} {a : Nat → Nat} {d N : Nat} (hd : 0 ≤ d) {x1 : Int32} {M : zMem} {z : Int32 × zMem} (h : f_Mo_blockOf N x1 M = some z) : zK (zEn D tt) zshp a mz_Mo_blockOf d [.ref (a 45), .int x1] M (zRi z) := by
  refine zK.enter (L := [some (.ref (a 45)), some (.int x1)]) (by decide) rfl (Nat.le_of_ble_eq_true rfl) rfl ?_
  unfold f_Mo_blockOf at h
  refine zJ_aload_n (n := 1) (j := 0) (x := a 45) d_Mo_blockOf_0 rfl rfl rfl ?_
  refine zS_getr (n := 4) (k0 := 45) (j := 6) (q := 50) d_Mo_blockOf_1 rfl (fl_Mo_23 D tt) rfl rfl ?_
  refine zJ_iload_n (n := 5) (j := 1) (x := x1) d_Mo_blockOf_4 rfl rfl rfl ?_
  obtain ⟨g5, h⟩ := zgd h
  refine zS_iald (n := 6) (k0 := 50) d_Mo_blockOf_5 rfl rfl rfl rfl g5 ?_
  refine zJ_if_ne (t := 13) (n := 9) d_Mo_blockOf_6 (by decide) rfl (fun hc => ?_) (fun hc => ?_)
  · rw [if_neg hc] at h
    refine zJ_aload_n (n := 14) (j := 0) (x := a 45) d_Mo_blockOf_13 rfl rfl rfl ?_
    refine zS_getr (n := 17) (k0 := 45) (j := 6) (q := 50) d_Mo_blockOf_14 rfl (fl_Mo_23 D tt) rfl rfl ?_
    refine zJ_iload_n (n := 18) (j := 1) (x := x1) d_Mo_blockOf_17 rfl rfl rfl ?_
    obtain ⟨g18, h⟩ := zgd h
    refine zS_iald (n := 19) (k0 := 50) d_Mo_blockOf_18 rfl rfl rfl rfl g18 ?_
    refine zJ_iconst (n := 20) (v := 1) d_Mo_blockOf_19 rfl zci_1 ?_
    refine zJ_icmp_ne (t := 37) (n := 23) d_Mo_blockOf_20 (by decide) rfl (fun hc => ?_) (fun hc => ?_)
    · rw [if_neg hc] at h
      refine zJ_aload_n (n := 38) (j := 0) (x := a 45) d_Mo_blockOf_37 rfl rfl rfl ?_
      refine zS_getr (n := 41) (k0 := 45) (j := 16) (q := 59) d_Mo_blockOf_38 rfl (fl_Mo_50 D tt) rfl rfl ?_
      refine zJ_iload_n (n := 42) (j := 1) (x := x1) d_Mo_blockOf_41 rfl rfl rfl ?_
      obtain ⟨g42, h⟩ := zgd h
      refine zS_iald (n := 43) (k0 := 59) d_Mo_blockOf_42 rfl rfl rfl rfl g42 ?_
      cases h
      exact zS_ireturn d_Mo_blockOf_43 rfl rfl ⟨rfl, rfl⟩
    · rw [if_pos hc] at h
      refine zJ_aload_n (n := 24) (j := 0) (x := a 45) d_Mo_blockOf_23 rfl rfl rfl ?_
      refine zS_getr (n := 27) (k0 := 45) (j := 15) (q := 58) d_Mo_blockOf_24 rfl (fl_Mo_47 D tt) rfl rfl ?_
      refine zJ_aload_n (n := 28) (j := 0) (x := a 45) d_Mo_blockOf_27 rfl rfl rfl ?_
      refine zS_getr (n := 31) (k0 := 45) (j := 8) (q := 52) d_Mo_blockOf_28 rfl (fl_Mo_29 D tt) rfl rfl ?_
      refine zJ_iload_n (n := 32) (j := 1) (x := x1) d_Mo_blockOf_31 rfl rfl rfl ?_
      obtain ⟨g32, h⟩ := zgd h
      refine zS_iald (n := 33) (k0 := 52) d_Mo_blockOf_32 rfl rfl rfl rfl g32 ?_
      obtain ⟨g33, h⟩ := zgd h
      refine zS_iald (n := 34) (k0 := 58) d_Mo_blockOf_33 rfl rfl rfl rfl g33 ?_
      refine zJ_goto (t := 43) d_Mo_blockOf_34 (by decide) ?_
      cases h
      exact zS_ireturn d_Mo_blockOf_43 rfl rfl ⟨rfl, rfl⟩
  · rw [if_pos hc] at h
    refine zJ_iconst (n := 10) (v := -1) d_Mo_blockOf_9 rfl zci_m1 ?_
    refine zJ_goto (t := 43) d_Mo_blockOf_10 (by decide) ?_
    cases h
    exact zS_ireturn d_Mo_blockOf_43 rfl rfl ⟨rfl, rfl⟩
theorem t_Mo_writeNode {D : va_G} {tt : ClassId × ClassId × ClassId} {a : Nat → Nat} {d N : Nat} (hd : 1 ≤ d) {x1 : Int32} {M : zMem} {z : Int32 × zMem} (h : f_Mo_writeNode N x1 M = some z) : zK (zEn D tt) zshp a mz_Mo_writeNode d [.ref (a 45), .int x1] M (zRv z) := by
  refine zK.enter (L := [some (.ref (a 45)), some (.int x1), none, none, none]) (by decide) rfl (Nat.le_of_ble_eq_true rfl) rfl ?_
  unfold f_Mo_writeNode at h
  refine zJ_aload_n (n := 1) (j := 0) (x := a 45) d_Mo_writeNode_0 rfl rfl rfl ?_
  refine zS_getr (n := 4) (k0 := 45) (j := 6) (q := 50) d_Mo_writeNode_1 rfl (fl_Mo_23 D tt) rfl rfl ?_
  refine zJ_iload_n (n := 5) (j := 1) (x := x1) d_Mo_writeNode_4 rfl rfl rfl ?_
  obtain ⟨g5, h⟩ := zgd h
  refine zS_iald (n := 6) (k0 := 50) d_Mo_writeNode_5 rfl rfl rfl rfl g5 ?_
  refine zJ_iconst (n := 7) (v := 1) d_Mo_writeNode_6 rfl zci_1 ?_
  refine zJ_icmp_ne (t := 51) (n := 10) d_Mo_writeNode_7 (by decide) rfl (fun hc => ?_) (fun hc => ?_)
  · rw [if_neg hc] at h
    refine zJ_aload_n (n := 52) (j := 0) (x := a 45) d_Mo_writeNode_51 rfl rfl rfl ?_
    refine zJ_iconst (n := 53) (v := 2) d_Mo_writeNode_52 rfl zci_2 ?_
    refine zJ_iload_n (n := 54) (j := 1) (x := x1) d_Mo_writeNode_53 rfl rfl rfl ?_
    refine zJ_imul (n := 55) d_Mo_writeNode_54 rfl ?_
    obtain ⟨q55, hq55, h⟩ := zbd h
    refine zS_callVi (n := 58) (k0 := 45) (avs := [.int ((2 : Int32) * x1)]) (rest := []) (z := q55) (d' := d - 1) d_Mo_writeNode_55 rfl (vk_Mo_142 D tt) rfl rfl rfl (Nat.le_of_ble_eq_true rfl) (by omega) (t_Mo_blockOf (by omega) hq55) ?_
    refine zS_istore_n (n := 59) (j := 2) (x' := q55.1) d_Mo_writeNode_58 rfl rfl (Nat.le_of_ble_eq_true rfl) rfl ?_
    refine zJ_aload_n (n := 60) (j := 0) (x := a 45) d_Mo_writeNode_59 rfl rfl rfl ?_
    refine zJ_iconst (n := 61) (v := 2) d_Mo_writeNode_60 rfl zci_2 ?_
    refine zJ_iload_n (n := 62) (j := 1) (x := x1) d_Mo_writeNode_61 rfl rfl rfl ?_
    refine zJ_imul (n := 63) d_Mo_writeNode_62 rfl ?_
    refine zJ_iconst (n := 64) (v := 1) d_Mo_writeNode_63 rfl zci_1 ?_
    refine zJ_iadd (n := 65) d_Mo_writeNode_64 rfl ?_
    obtain ⟨q65, hq65, h⟩ := zbd h
    refine zS_callVi (n := 68) (k0 := 45) (avs := [.int (((2 : Int32) * x1) + (1 : Int32))]) (rest := []) (z := q65) (d' := d - 1) d_Mo_writeNode_65 rfl (vk_Mo_142 D tt) rfl rfl rfl (Nat.le_of_ble_eq_true rfl) (by omega) (t_Mo_blockOf (by omega) hq65) ?_
    refine zS_istore_n (n := 69) (j := 3) (x' := q65.1) d_Mo_writeNode_68 rfl rfl (Nat.le_of_ble_eq_true rfl) rfl ?_
    refine zJ_aload_n (n := 70) (j := 0) (x := a 45) d_Mo_writeNode_69 rfl rfl rfl ?_
    refine zS_getr (n := 73) (k0 := 45) (j := 16) (q := 59) d_Mo_writeNode_70 rfl (fl_Mo_50 D tt) rfl rfl ?_
    refine zJ_iload_n (n := 74) (j := 1) (x := x1) d_Mo_writeNode_73 rfl rfl rfl ?_
    refine zJ_aload_n (n := 75) (j := 0) (x := a 45) d_Mo_writeNode_74 rfl rfl rfl ?_
    refine zS_geti (n := 78) (k0 := 45) (j := 9) d_Mo_writeNode_75 rfl (fl_Mo_121 D tt) rfl rfl ?_
    obtain ⟨g78, h⟩ := zgd h
    obtain ⟨M78, hM78, h⟩ := zli h
    refine zS_iastN (n := 79) (k0 := 59) d_Mo_writeNode_78 rfl rfl rfl rfl g78 hM78 ?_
    refine zJ_aload_n (n := 80) (j := 0) (x := a 45) d_Mo_writeNode_79 rfl rfl rfl ?_
    refine zJ_iconst (n := 81) (v := 2) d_Mo_writeNode_80 rfl zci_2 ?_
    refine zJ_iload_n (n := 82) (j := 2) (x := q55.1) d_Mo_writeNode_81 rfl rfl rfl ?_
    refine zJ_iload_n (n := 83) (j := 3) (x := q65.1) d_Mo_writeNode_82 rfl rfl rfl ?_
    obtain ⟨q83, hq83, h⟩ := zbd h
    refine zS_callVi (n := 86) (k0 := 45) (avs := [.int (2 : Int32), .int q55.1, .int q65.1]) (rest := []) (z := q83) (d' := d - 1) d_Mo_writeNode_83 rfl (vk_Mo_138 D tt) rfl rfl rfl (Nat.le_of_ble_eq_true rfl) (by omega) (t_Mo_write (by omega) hq83) ?_
    refine zS_istore (n := 88) (j := 4) (x' := q83.1) d_Mo_writeNode_86 rfl (Nat.le_of_ble_eq_true rfl) rfl ?_
    cases h
    exact zS_return d_Mo_writeNode_88 rfl ⟨rfl, rfl⟩
  · rw [if_pos hc] at h
    refine zJ_aload_n (n := 11) (j := 0) (x := a 45) d_Mo_writeNode_10 rfl rfl rfl ?_
    refine zS_getr (n := 14) (k0 := 45) (j := 15) (q := 58) d_Mo_writeNode_11 rfl (fl_Mo_47 D tt) rfl rfl ?_
    refine zJ_aload_n (n := 15) (j := 0) (x := a 45) d_Mo_writeNode_14 rfl rfl rfl ?_
    refine zS_getr (n := 18) (k0 := 45) (j := 8) (q := 52) d_Mo_writeNode_15 rfl (fl_Mo_29 D tt) rfl rfl ?_
    refine zJ_iload_n (n := 19) (j := 1) (x := x1) d_Mo_writeNode_18 rfl rfl rfl ?_
    obtain ⟨g19, h⟩ := zgd h
    refine zS_iald (n := 20) (k0 := 52) d_Mo_writeNode_19 rfl rfl rfl rfl g19 ?_
    refine zJ_aload_n (n := 21) (j := 0) (x := a 45) d_Mo_writeNode_20 rfl rfl rfl ?_
    refine zS_geti (n := 24) (k0 := 45) (j := 9) d_Mo_writeNode_21 rfl (fl_Mo_121 D tt) rfl rfl ?_
    obtain ⟨g24, h⟩ := zgd h
    obtain ⟨M24, hM24, h⟩ := zli h
    refine zS_iastN (n := 25) (k0 := 58) d_Mo_writeNode_24 rfl rfl rfl rfl g24 hM24 ?_
    refine zJ_aload_n (n := 26) (j := 0) (x := a 45) d_Mo_writeNode_25 rfl rfl rfl ?_
    refine zJ_iconst (n := 27) (v := 1) d_Mo_writeNode_26 rfl zci_1 ?_
    refine zJ_aload_n (n := 28) (j := 0) (x := a 45) d_Mo_writeNode_27 rfl rfl rfl ?_
    refine zS_getr (n := 31) (k0 := 45) (j := 8) (q := 52) d_Mo_writeNode_28 rfl (fl_Mo_29 D tt) rfl rfl ?_
    refine zJ_iload_n (n := 32) (j := 1) (x := x1) d_Mo_writeNode_31 rfl rfl rfl ?_
    obtain ⟨g32, h⟩ := zgd h
    refine zS_iald (n := 33) (k0 := 52) d_Mo_writeNode_32 rfl rfl rfl rfl g32 ?_
    refine zJ_aload_n (n := 34) (j := 0) (x := a 45) d_Mo_writeNode_33 rfl rfl rfl ?_
    refine zS_getr (n := 37) (k0 := 45) (j := 2) (q := 47) d_Mo_writeNode_34 rfl (fl_Mo_13 D tt) rfl rfl ?_
    refine zJ_aload_n (n := 38) (j := 0) (x := a 45) d_Mo_writeNode_37 rfl rfl rfl ?_
    refine zS_getr (n := 41) (k0 := 45) (j := 8) (q := 52) d_Mo_writeNode_38 rfl (fl_Mo_29 D tt) rfl rfl ?_
    refine zJ_iload_n (n := 42) (j := 1) (x := x1) d_Mo_writeNode_41 rfl rfl rfl ?_
    obtain ⟨g42, h⟩ := zgd h
    refine zS_iald (n := 43) (k0 := 52) d_Mo_writeNode_42 rfl rfl rfl rfl g42 ?_
    obtain ⟨g43, h⟩ := zgd h
    refine zS_iald (n := 44) (k0 := 47) d_Mo_writeNode_43 rfl rfl rfl rfl g43 ?_
    obtain ⟨q44, hq44, h⟩ := zbd h
    refine zS_callVi (n := 47) (k0 := 45) (avs := [.int (1 : Int32), .int (M24 52 x1.toNatClampNeg), .int (M24 47 (M24 52 x1.toNatClampNeg).toNatClampNeg)]) (rest := []) (z := q44) (d' := d - 1) d_Mo_writeNode_44 rfl (vk_Mo_138 D tt) rfl rfl rfl (Nat.le_of_ble_eq_true rfl) (by omega) (t_Mo_write (by omega) hq44) ?_
    refine zS_istore_n (n := 48) (j := 2) (x' := q44.1) d_Mo_writeNode_47 rfl rfl (Nat.le_of_ble_eq_true rfl) rfl ?_
    refine zJ_goto (t := 88) d_Mo_writeNode_48 (by decide) ?_
    cases h
    exact zS_return d_Mo_writeNode_88 rfl ⟨rfl, rfl⟩
theorem t_Mo_nodes_b97 {D : va_G} {tt : ClassId × ClassId × ClassId} {a : Nat → Nat} {d N : Nat} (hd : 2 ≤ d) {z : Int32 × zMem} {k4 : Int32 → Int32 → Int32 → zMem → Option (Int32 × zMem)} (hk4 : ∀ (x1 x2 x3 : Int32) (o4 o5 o6 : Option Value) (M : zMem), k4 x1 x2 x3 M = some z → zS (zEn D tt) zshp a mz_Mo_nodes d zTr (zFs (zEn D tt) zshp a (zRi z)) 4 [some (.ref (a 45)), some (.int x1), some (.int x2), some (.int x3), o4, o5, o6] [] M) {k14 : Int32 → Int32 → Int32 → Int32 → zMem → Option (Int32 × zMem)} (hk14 : ∀ (x1 x2 x3 x4 : Int32) (o5 o6 : Option Value) (M : zMem), k14 x1 x2 x3 x4 M = some z → zS (zEn D tt) zshp a mz_Mo_nodes d zTr (zFs (zEn D tt) zshp a (zRi z)) 14 [some (.ref (a 45)), some (.int x1), some (.int x2), some (.int x3), some (.int x4), o5, o6] [] M) {x1 : Int32} {x2 : Int32} {x3 : Int32} {x4 : Int32} {o5 : Option Value} {o6 : Option Value} {M : zMem} (h : f_Mo_nodes_b97 N k4 k14 x1 x2 x3 x4 M = some z) : zS (zEn D tt) zshp a mz_Mo_nodes d zTr (zFs (zEn D tt) zshp a (zRi z)) 97 [some (.ref (a 45)), some (.int x1), some (.int x2), some (.int x3), some (.int x4), o5, o6] [] M := by
  unfold f_Mo_nodes_b97 at h
  obtain ⟨v97, hv97, h⟩ := zli h
  refine zS_iinc (n := 100) (j := 4) (x := x4) (v := -1) (x' := v97) d_Mo_nodes_97 rfl rfl zci_m1 (Nat.le_of_ble_eq_true rfl) hv97 ?_
  refine zJ_goto (t := 14) d_Mo_nodes_100 (by decide) ?_
  exact hk14 _ _ _ _ _ _ _ h
theorem t_Mo_nodes_b50 {D : va_G} {tt : ClassId × ClassId × ClassId} {a : Nat → Nat} {d N : Nat} (hd : 2 ≤ d) {z : Int32 × zMem} {k4 : Int32 → Int32 → Int32 → zMem → Option (Int32 × zMem)} (hk4 : ∀ (x1 x2 x3 : Int32) (o4 o5 o6 : Option Value) (M : zMem), k4 x1 x2 x3 M = some z → zS (zEn D tt) zshp a mz_Mo_nodes d zTr (zFs (zEn D tt) zshp a (zRi z)) 4 [some (.ref (a 45)), some (.int x1), some (.int x2), some (.int x3), o4, o5, o6] [] M) {k14 : Int32 → Int32 → Int32 → Int32 → zMem → Option (Int32 × zMem)} (hk14 : ∀ (x1 x2 x3 x4 : Int32) (o5 o6 : Option Value) (M : zMem), k14 x1 x2 x3 x4 M = some z → zS (zEn D tt) zshp a mz_Mo_nodes d zTr (zFs (zEn D tt) zshp a (zRi z)) 14 [some (.ref (a 45)), some (.int x1), some (.int x2), some (.int x3), some (.int x4), o5, o6] [] M) {x1 : Int32} {x2 : Int32} {x3 : Int32} {x4 : Int32} {x5 : Int32} {s0 : Int32} {o6 : Option Value} {M : zMem} (h : f_Mo_nodes_b50 N k4 k14 x1 x2 x3 x4 x5 s0 M = some z) : zS (zEn D tt) zshp a mz_Mo_nodes d zTr (zFs (zEn D tt) zshp a (zRi z)) 50 [some (.ref (a 45)), some (.int x1), some (.int x2), some (.int x3), some (.int x4), some (.int x5), o6] [.int s0] M := by
  unfold f_Mo_nodes_b50 at h
  refine zS_istore (n := 52) (j := 6) (x' := s0) d_Mo_nodes_50 rfl (Nat.le_of_ble_eq_true rfl) rfl ?_
  refine zJ_iload (n := 54) (j := 6) (x := s0) d_Mo_nodes_52 rfl rfl ?_
  refine zJ_if_eq (t := 97) (n := 57) d_Mo_nodes_54 (by decide) rfl (fun hc => ?_) (fun hc => ?_)
  · rw [if_pos hc] at h
    exact t_Mo_nodes_b97 hd hk4 hk14 h
  · rw [if_neg hc] at h
    refine zJ_aload_n (n := 58) (j := 0) (x := a 45) d_Mo_nodes_57 rfl rfl rfl ?_
    refine zJ_iload (n := 60) (j := 5) (x := x5) d_Mo_nodes_58 rfl rfl ?_
    obtain ⟨q60, hq60, h⟩ := zbd h
    refine zS_callVi (n := 63) (k0 := 45) (avs := [.int x5]) (rest := []) (z := q60) (d' := d - 1) d_Mo_nodes_60 rfl (vk_Mo_127 D tt) rfl rfl rfl (Nat.le_of_ble_eq_true rfl) (by omega) (t_Mo_isNode (by omega) hq60) ?_
    refine zJ_if_eq (t := 97) (n := 66) d_Mo_nodes_63 (by decide) rfl (fun hc => ?_) (fun hc => ?_)
    · rw [if_pos hc] at h
      exact t_Mo_nodes_b97 hd hk4 hk14 h
    · rw [if_neg hc] at h
      refine zJ_aload_n (n := 67) (j := 0) (x := a 45) d_Mo_nodes_66 rfl rfl rfl ?_
      refine zJ_iload (n := 69) (j := 5) (x := x5) d_Mo_nodes_67 rfl rfl ?_
      refine zJ_iload (n := 71) (j := 4) (x := x4) d_Mo_nodes_69 rfl rfl ?_
      obtain ⟨q71, hq71, h⟩ := zbd h
      refine zS_callVi (n := 74) (k0 := 45) (avs := [.int x5, .int x4]) (rest := []) (z := q71) (d' := d - 1) d_Mo_nodes_71 rfl (vk_Mo_130 D tt) rfl rfl rfl (Nat.le_of_ble_eq_true rfl) (by omega) (t_Mo_touched (by omega) hq71) ?_
      refine zJ_if_eq (t := 97) (n := 77) d_Mo_nodes_74 (by decide) rfl (fun hc => ?_) (fun hc => ?_)
      · rw [if_pos hc] at h
        exact t_Mo_nodes_b97 hd hk4 hk14 h
      · rw [if_neg hc] at h
        refine zJ_aload_n (n := 78) (j := 0) (x := a 45) d_Mo_nodes_77 rfl rfl rfl ?_
        refine zS_geti (n := 81) (k0 := 45) (j := 18) d_Mo_nodes_78 rfl (fl_Mo_106 D tt) rfl rfl ?_
        refine zJ_if_ne (t := 97) (n := 84) d_Mo_nodes_81 (by decide) rfl (fun hc => ?_) (fun hc => ?_)
        · rw [if_neg hc] at h
          exact t_Mo_nodes_b97 hd hk4 hk14 h
        · rw [if_pos hc] at h
          obtain ⟨v84, hv84, h⟩ := zli h
          refine zS_iinc (n := 87) (j := 2) (x := x2) (v := 1) (x' := v84) d_Mo_nodes_84 rfl rfl zci_1 (Nat.le_of_ble_eq_true rfl) hv84 ?_
          refine zJ_iload_n (n := 88) (j := 1) (x := x1) d_Mo_nodes_87 rfl rfl rfl ?_
          refine zJ_if_eq (t := 97) (n := 91) d_Mo_nodes_88 (by decide) rfl (fun hc => ?_) (fun hc => ?_)
          · rw [if_pos hc] at h
            exact t_Mo_nodes_b97 hd hk4 hk14 h
          · rw [if_neg hc] at h
            refine zJ_aload_n (n := 92) (j := 0) (x := a 45) d_Mo_nodes_91 rfl rfl rfl ?_
            refine zJ_iload (n := 94) (j := 5) (x := x5) d_Mo_nodes_92 rfl rfl ?_
            obtain ⟨q94, hq94, h⟩ := zbd h
            refine zS_callVv (n := 97) (k0 := 45) (avs := [.int x5]) (rest := []) (z := q94) (d' := d - 1) d_Mo_nodes_94 rfl (vk_Mo_134 D tt) rfl rfl rfl (Nat.le_of_ble_eq_true rfl) (by omega) (t_Mo_writeNode (by omega) hq94) ?_
            exact t_Mo_nodes_b97 hd hk4 hk14 h
theorem t_Mo_nodes_l14 {D : va_G} {tt : ClassId × ClassId × ClassId} {a : Nat → Nat} {d N : Nat} (hd : 2 ≤ d) {z : Int32 × zMem} {k4 : Int32 → Int32 → Int32 → zMem → Option (Int32 × zMem)} (hk4 : ∀ (x1 x2 x3 : Int32) (o4 o5 o6 : Option Value) (M : zMem), k4 x1 x2 x3 M = some z → zS (zEn D tt) zshp a mz_Mo_nodes d zTr (zFs (zEn D tt) zshp a (zRi z)) 4 [some (.ref (a 45)), some (.int x1), some (.int x2), some (.int x3), o4, o5, o6] [] M) : ∀ (n : Nat), ∀ (x1 x2 x3 x4 : Int32) (o5 o6 : Option Value) (M : zMem), f_Mo_nodes_l14 N k4 n x1 x2 x3 x4 M = some z → zS (zEn D tt) zshp a mz_Mo_nodes d zTr (zFs (zEn D tt) zshp a (zRi z)) 14 [some (.ref (a 45)), some (.int x1), some (.int x2), some (.int x3), some (.int x4), o5, o6] [] M := by
  intro n
  induction n with
  | zero =>
    intro x1 x2 x3 x4 o5 o6 M h
    rw [f_Mo_nodes_l14] at h
    cases h
  | succ n ih =>
    intro x1 x2 x3 x4 o5 o6 M h
    rw [f_Mo_nodes_l14] at h
    refine zJ_iload (n := 16) (j := 4) (x := x4) d_Mo_nodes_14 rfl rfl ?_
    refine zJ_if_lt (t := 103) (n := 19) d_Mo_nodes_16 (by decide) rfl (fun hc => ?_) (fun hc => ?_)
    · rw [if_pos hc] at h
      obtain ⟨v103, hv103, h⟩ := zli h
      refine zS_iinc (n := 106) (j := 3) (x := x3) (v := 1) (x' := v103) d_Mo_nodes_103 rfl rfl zci_1 (Nat.le_of_ble_eq_true rfl) hv103 ?_
      refine zJ_goto (t := 4) d_Mo_nodes_106 (by decide) ?_
      exact hk4 _ _ _ _ _ _ _ h
    · rw [if_neg hc] at h
      refine zJ_bipush (n := 21) (v := 64) d_Mo_nodes_19 rfl zcb_64 ?_
      refine zJ_iload_n (n := 22) (j := 3) (x := x3) d_Mo_nodes_21 rfl rfl rfl ?_
      refine zJ_iadd (n := 23) d_Mo_nodes_22 rfl ?_
      refine zJ_bipush (n := 25) (v := 6) d_Mo_nodes_23 rfl zcb_6 ?_
      refine zJ_iload (n := 27) (j := 4) (x := x4) d_Mo_nodes_25 rfl rfl ?_
      refine zJ_isub (n := 28) d_Mo_nodes_27 rfl ?_
      refine zJ_ishr (n := 29) d_Mo_nodes_28 rfl ?_
      obtain ⟨v29, hv29, h⟩ := zli h
      refine zS_istore (n := 31) (j := 5) (x' := v29) d_Mo_nodes_29 rfl (Nat.le_of_ble_eq_true rfl) hv29 ?_
      refine zJ_iload_n (n := 32) (j := 3) (x := x3) d_Mo_nodes_31 rfl rfl rfl ?_
      refine zJ_iconst (n := 33) (v := 1) d_Mo_nodes_32 rfl zci_1 ?_
      refine zJ_iadd (n := 34) d_Mo_nodes_33 rfl ?_
      refine zJ_iconst (n := 35) (v := 1) d_Mo_nodes_34 rfl zci_1 ?_
      refine zJ_bipush (n := 37) (v := 6) d_Mo_nodes_35 rfl zcb_6 ?_
      refine zJ_iload (n := 39) (j := 4) (x := x4) d_Mo_nodes_37 rfl rfl ?_
      refine zJ_isub (n := 40) d_Mo_nodes_39 rfl ?_
      refine zJ_ishl (n := 41) d_Mo_nodes_40 rfl ?_
      obtain ⟨gn41, h⟩ := zgd h
      refine zJ_irem (n := 42) d_Mo_nodes_41 rfl (znz_ne gn41) ?_
      refine zJ_if_ne (t := 49) (n := 45) d_Mo_nodes_42 (by decide) rfl (fun hc => ?_) (fun hc => ?_)
      · rw [if_neg hc] at h
        refine zJ_iconst (n := 50) (v := 0) d_Mo_nodes_49 rfl zci_0 ?_
        exact t_Mo_nodes_b50 hd hk4 ih h
      · rw [if_pos hc] at h
        refine zJ_iconst (n := 46) (v := 1) d_Mo_nodes_45 rfl zci_1 ?_
        refine zJ_goto (t := 50) d_Mo_nodes_46 (by decide) ?_
        exact t_Mo_nodes_b50 hd hk4 ih h
theorem t_Mo_nodes_l4 {D : va_G} {tt : ClassId × ClassId × ClassId} {a : Nat → Nat} {d N : Nat} (hd : 2 ≤ d) {z : Int32 × zMem} : ∀ (n : Nat), ∀ (x1 x2 x3 : Int32) (o4 o5 o6 : Option Value) (M : zMem), f_Mo_nodes_l4 N n x1 x2 x3 M = some z → zS (zEn D tt) zshp a mz_Mo_nodes d zTr (zFs (zEn D tt) zshp a (zRi z)) 4 [some (.ref (a 45)), some (.int x1), some (.int x2), some (.int x3), o4, o5, o6] [] M := by
  intro n
  induction n with
  | zero =>
    intro x1 x2 x3 o4 o5 o6 M h
    rw [f_Mo_nodes_l4] at h
    cases h
  | succ n ih =>
    intro x1 x2 x3 o4 o5 o6 M h
    rw [f_Mo_nodes_l4] at h
    refine zJ_iload_n (n := 5) (j := 3) (x := x3) d_Mo_nodes_4 rfl rfl rfl ?_
    refine zJ_bipush (n := 7) (v := 64) d_Mo_nodes_5 rfl zcb_64 ?_
    refine zJ_icmp_ge (t := 109) (n := 10) d_Mo_nodes_7 (by decide) rfl (fun hc => ?_) (fun hc => ?_)
    · rw [if_pos hc] at h
      refine zJ_iload_n (n := 110) (j := 2) (x := x2) d_Mo_nodes_109 rfl rfl rfl ?_
      cases h
      exact zS_ireturn d_Mo_nodes_110 rfl rfl ⟨rfl, rfl⟩
    · rw [if_neg hc] at h
      refine zJ_bipush (n := 12) (v := 6) d_Mo_nodes_10 rfl zcb_6 ?_
      refine zS_istore (n := 14) (j := 4) (x' := (6 : Int32)) d_Mo_nodes_12 rfl (Nat.le_of_ble_eq_true rfl) rfl ?_
      exact t_Mo_nodes_l14 hd ih N _ _ _ _ _ _ _ h
theorem t_Mo_nodes {D : va_G} {tt : ClassId × ClassId × ClassId} {a : Nat → Nat} {d N : Nat} (hd : 2 ≤ d) {x1 : Int32} {M : zMem} {z : Int32 × zMem} (h : f_Mo_nodes N x1 M = some z) : zK (zEn D tt) zshp a mz_Mo_nodes d [.ref (a 45), .int x1] M (zRi z) := by
  refine zK.enter (L := [some (.ref (a 45)), some (.int x1), none, none, none, none, none]) (by decide) rfl (Nat.le_of_ble_eq_true rfl) rfl ?_
  unfold f_Mo_nodes at h
  refine zJ_iconst (n := 1) (v := 0) d_Mo_nodes_0 rfl zci_0 ?_
  refine zS_istore_n (n := 2) (j := 2) (x' := (0 : Int32)) d_Mo_nodes_1 rfl rfl (Nat.le_of_ble_eq_true rfl) rfl ?_
  refine zJ_iconst (n := 3) (v := 0) d_Mo_nodes_2 rfl zci_0 ?_
  refine zS_istore_n (n := 4) (j := 3) (x' := (0 : Int32)) d_Mo_nodes_3 rfl rfl (Nat.le_of_ble_eq_true rfl) rfl ?_
  exact t_Mo_nodes_l4 hd N _ _ _ _ _ _ _ h
theorem t_Mo_forget_b47 {D : va_G} {tt : ClassId × ClassId × ClassId} {a : Nat → Nat} {d N : Nat} (hd : 0 ≤ d) {z : Int32 × zMem} {k2 : Int32 → zMem → Option (Int32 × zMem)} (hk2 : ∀ (x1 : Int32) (M : zMem), k2 x1 M = some z → zS (zEn D tt) zshp a mz_Mo_forget d zTr (zFs (zEn D tt) zshp a (zRv z)) 2 [some (.ref (a 45)), some (.int x1)] [] M) {x1 : Int32} {s1 : Int32} {s2 : Int32} {M : zMem} (h : f_Mo_forget_b47 N k2 x1 s1 s2 M = some z) : zS (zEn D tt) zshp a mz_Mo_forget d zTr (zFs (zEn D tt) zshp a (zRv z)) 47 [some (.ref (a 45)), some (.int x1)] [.int s2, .int s1, .ref (a 47)] M := by
  unfold f_Mo_forget_b47 at h
  obtain ⟨g47, h⟩ := zgd h
  obtain ⟨M47, hM47, h⟩ := zli h
  refine zS_iastN (n := 48) (k0 := 47) d_Mo_forget_47 rfl rfl rfl rfl g47 hM47 ?_
  obtain ⟨v48, hv48, h⟩ := zli h
  refine zS_iinc (n := 51) (j := 1) (x := x1) (v := 1) (x' := v48) d_Mo_forget_48 rfl rfl zci_1 (Nat.le_of_ble_eq_true rfl) hv48 ?_
  refine zJ_goto (t := 2) d_Mo_forget_51 (by decide) ?_
  exact hk2 _ _ h
theorem t_Mo_forget_l2 {D : va_G} {tt : ClassId × ClassId × ClassId} {a : Nat → Nat} {d N : Nat} (hd : 0 ≤ d) {z : Int32 × zMem} : ∀ (n : Nat), ∀ (x1 : Int32) (M : zMem), f_Mo_forget_l2 N n x1 M = some z → zS (zEn D tt) zshp a mz_Mo_forget d zTr (zFs (zEn D tt) zshp a (zRv z)) 2 [some (.ref (a 45)), some (.int x1)] [] M := by
  intro n
  induction n with
  | zero =>
    intro x1 M h
    rw [f_Mo_forget_l2] at h
    cases h
  | succ n ih =>
    intro x1 M h
    rw [f_Mo_forget_l2] at h
    refine zJ_iload_n (n := 3) (j := 1) (x := x1) d_Mo_forget_2 rfl rfl rfl ?_
    refine zJ_bipush (n := 5) (v := 64) d_Mo_forget_3 rfl zcb_64 ?_
    refine zJ_icmp_ge (t := 54) (n := 8) d_Mo_forget_5 (by decide) rfl (fun hc => ?_) (fun hc => ?_)
    · rw [if_pos hc] at h
      cases h
      exact zS_return d_Mo_forget_54 rfl ⟨rfl, rfl⟩
    · rw [if_neg hc] at h
      refine zJ_aload_n (n := 9) (j := 0) (x := a 45) d_Mo_forget_8 rfl rfl rfl ?_
      refine zS_getr (n := 12) (k0 := 45) (j := 3) (q := 48) d_Mo_forget_9 rfl (fl_Mo_16 D tt) rfl rfl ?_
      refine zJ_iload_n (n := 13) (j := 1) (x := x1) d_Mo_forget_12 rfl rfl rfl ?_
      refine zJ_iconst (n := 14) (v := 0) d_Mo_forget_13 rfl zci_0 ?_
      obtain ⟨g14, h⟩ := zgd h
      obtain ⟨M14, hM14, h⟩ := zli h
      refine zS_zastN (n := 15) (k0 := 48) d_Mo_forget_14 rfl rfl rfl rfl g14 rfl hM14 ?_
      refine zJ_aload_n (n := 16) (j := 0) (x := a 45) d_Mo_forget_15 rfl rfl rfl ?_
      refine zS_getr (n := 19) (k0 := 45) (j := 2) (q := 47) d_Mo_forget_16 rfl (fl_Mo_13 D tt) rfl rfl ?_
      refine zJ_iload_n (n := 20) (j := 1) (x := x1) d_Mo_forget_19 rfl rfl rfl ?_
      refine zJ_aload_n (n := 21) (j := 0) (x := a 45) d_Mo_forget_20 rfl rfl rfl ?_
      refine zS_geti (n := 24) (k0 := 45) (j := 4) d_Mo_forget_21 rfl (fl_Mo_145 D tt) rfl rfl ?_
      refine zJ_if_ne (t := 31) (n := 27) d_Mo_forget_24 (by decide) rfl (fun hc => ?_) (fun hc => ?_)
      · rw [if_neg hc] at h
        refine zJ_aload_n (n := 32) (j := 0) (x := a 45) d_Mo_forget_31 rfl rfl rfl ?_
        refine zS_getr (n := 35) (k0 := 45) (j := 1) (q := 46) d_Mo_forget_32 rfl (fl_Mo_7 D tt) rfl rfl ?_
        refine zJ_bipush (n := 37) (v := 64) d_Mo_forget_35 rfl zcb_64 ?_
        refine zJ_aload_n (n := 38) (j := 0) (x := a 45) d_Mo_forget_37 rfl rfl rfl ?_
        refine zS_geti (n := 41) (k0 := 45) (j := 4) d_Mo_forget_38 rfl (fl_Mo_145 D tt) rfl rfl ?_
        refine zJ_iconst (n := 42) (v := 1) d_Mo_forget_41 rfl zci_1 ?_
        refine zJ_isub (n := 43) d_Mo_forget_42 rfl ?_
        refine zJ_imul (n := 44) d_Mo_forget_43 rfl ?_
        refine zJ_iload_n (n := 45) (j := 1) (x := x1) d_Mo_forget_44 rfl rfl rfl ?_
        refine zJ_iadd (n := 46) d_Mo_forget_45 rfl ?_
        obtain ⟨g46, h⟩ := zgd h
        refine zS_iald (n := 47) (k0 := 46) d_Mo_forget_46 rfl rfl rfl rfl g46 ?_
        exact t_Mo_forget_b47 hd ih h
      · rw [if_pos hc] at h
        refine zJ_iconst (n := 28) (v := 0) d_Mo_forget_27 rfl zci_0 ?_
        refine zJ_goto (t := 47) d_Mo_forget_28 (by decide) ?_
        exact t_Mo_forget_b47 hd ih h
theorem t_Mo_forget {D : va_G} {tt : ClassId × ClassId × ClassId} {a : Nat → Nat} {d N : Nat} (hd : 0 ≤ d) {M : zMem} {z : Int32 × zMem} (h : f_Mo_forget N M = some z) : zK (zEn D tt) zshp a mz_Mo_forget d [.ref (a 45)] M (zRv z) := by
  refine zK.enter (L := [some (.ref (a 45)), none]) (by decide) rfl (Nat.le_of_ble_eq_true rfl) rfl ?_
  unfold f_Mo_forget at h
  refine zJ_iconst (n := 1) (v := 0) d_Mo_forget_0 rfl zci_0 ?_
  refine zS_istore_n (n := 2) (j := 1) (x' := (0 : Int32)) d_Mo_forget_1 rfl rfl (Nat.le_of_ble_eq_true rfl) rfl ?_
  exact t_Mo_forget_l2 hd N _ _ h
theorem t_Mo_close_b246 {D : va_G} {tt : ClassId × ClassId × ClassId} {a : Nat → Nat} {d N : Nat} (hd : 3 ≤ d) {z : Int32 × zMem} {o1 : Option Value} {o2 : Option Value} {o3 : Option Value} {o4 : Option Value} {o5 : Option Value} {M : zMem} (h : f_Mo_close_b246 N M = some z) : zS (zEn D tt) zshp a mz_Mo_close d zTr (zFs (zEn D tt) zshp a (zRi z)) 246 [some (.ref (a 45)), o1, o2, o3, o4, o5] [] M := by
  unfold f_Mo_close_b246 at h
  refine zJ_aload_n (n := 247) (j := 0) (x := a 45) d_Mo_close_246 rfl rfl rfl ?_
  obtain ⟨q247, hq247, h⟩ := zbd h
  refine zS_callVv (n := 250) (k0 := 45) (avs := []) (rest := []) (z := q247) (d' := d - 1) d_Mo_close_247 rfl (vk_Mo_155 D tt) rfl rfl rfl (Nat.le_of_ble_eq_true rfl) (by omega) (t_Mo_forget (by omega) hq247) ?_
  refine zJ_aload_n (n := 251) (j := 0) (x := a 45) d_Mo_close_250 rfl rfl rfl ?_
  refine zS_geti (n := 254) (k0 := 45) (j := 18) d_Mo_close_251 rfl (fl_Mo_106 D tt) rfl rfl ?_
  refine zJ_if_eq (t := 262) (n := 257) d_Mo_close_254 (by decide) rfl (fun hc => ?_) (fun hc => ?_)
  · rw [if_pos hc] at h
    refine zJ_aload_n (n := 263) (j := 0) (x := a 45) d_Mo_close_262 rfl rfl rfl ?_
    refine zS_geti (n := 266) (k0 := 45) (j := 4) d_Mo_close_263 rfl (fl_Mo_145 D tt) rfl rfl ?_
    refine zJ_iconst (n := 267) (v := 1) d_Mo_close_266 rfl zci_1 ?_
    refine zJ_isub (n := 268) d_Mo_close_267 rfl ?_
    cases h
    exact zS_ireturn d_Mo_close_268 rfl rfl ⟨rfl, rfl⟩
  · rw [if_neg hc] at h
    refine zJ_bipush (n := 259) (v := -9) d_Mo_close_257 rfl zcb_m9 ?_
    refine zJ_goto (t := 268) d_Mo_close_259 (by decide) ?_
    cases h
    exact zS_ireturn d_Mo_close_268 rfl rfl ⟨rfl, rfl⟩
theorem t_Mo_close_l186 {D : va_G} {tt : ClassId × ClassId × ClassId} {a : Nat → Nat} {d N : Nat} (hd : 3 ≤ d) {z : Int32 × zMem} : ∀ (n : Nat), ∀ (x5 : Int32) (o1 o2 o3 o4 : Option Value) (M : zMem), f_Mo_close_l186 N n x5 M = some z → zS (zEn D tt) zshp a mz_Mo_close d zTr (zFs (zEn D tt) zshp a (zRi z)) 186 [some (.ref (a 45)), o1, o2, o3, o4, some (.int x5)] [] M := by
  intro n
  induction n with
  | zero =>
    intro x5 o1 o2 o3 o4 M h
    rw [f_Mo_close_l186] at h
    cases h
  | succ n ih =>
    intro x5 o1 o2 o3 o4 M h
    rw [f_Mo_close_l186] at h
    refine zJ_iload (n := 188) (j := 5) (x := x5) d_Mo_close_186 rfl rfl ?_
    refine zJ_bipush (n := 190) (v := 64) d_Mo_close_188 rfl zcb_64 ?_
    refine zJ_icmp_ge (t := 221) (n := 193) d_Mo_close_190 (by decide) rfl (fun hc => ?_) (fun hc => ?_)
    · rw [if_pos hc] at h
      refine zJ_aload_n (n := 222) (j := 0) (x := a 45) d_Mo_close_221 rfl rfl rfl ?_
      refine zS_getr (n := 225) (k0 := 45) (j := 5) (q := 49) d_Mo_close_222 rfl (fl_Mo_20 D tt) rfl rfl ?_
      refine zJ_aload_n (n := 226) (j := 0) (x := a 45) d_Mo_close_225 rfl rfl rfl ?_
      refine zS_geti (n := 229) (k0 := 45) (j := 4) d_Mo_close_226 rfl (fl_Mo_145 D tt) rfl rfl ?_
      refine zJ_aload_n (n := 230) (j := 0) (x := a 45) d_Mo_close_229 rfl rfl rfl ?_
      refine zS_getr (n := 233) (k0 := 45) (j := 7) (q := 51) d_Mo_close_230 rfl (fl_Mo_26 D tt) rfl rfl ?_
      refine zJ_iconst (n := 234) (v := 1) d_Mo_close_233 rfl zci_1 ?_
      refine zS_iald (n := 235) (k0 := 51) (jj := 1) d_Mo_close_234 rfl rfl rfl (by decide) (by decide) ?_
      obtain ⟨g235, h⟩ := zgd h
      obtain ⟨M235, hM235, h⟩ := zli h
      refine zS_iastN (n := 236) (k0 := 49) d_Mo_close_235 rfl rfl rfl rfl g235 hM235 ?_
      refine zJ_aload_n (n := 237) (j := 0) (x := a 45) d_Mo_close_236 rfl rfl rfl ?_
      refine zJ_dup (n := 238) d_Mo_close_237 rfl rfl ?_
      refine zS_geti (n := 241) (k0 := 45) (j := 4) d_Mo_close_238 rfl (fl_Mo_145 D tt) rfl rfl ?_
      refine zJ_iconst (n := 242) (v := 1) d_Mo_close_241 rfl zci_1 ?_
      refine zJ_iadd (n := 243) d_Mo_close_242 rfl ?_
      obtain ⟨M243, hM243, h⟩ := zli h
      refine zS_putN (n := 246) (k0 := 45) (j := 4) d_Mo_close_243 rfl (fl_Mo_145 D tt) zty_Mo rfl rfl rfl rfl rfl hM243 ?_
      exact t_Mo_close_b246 hd h
    · rw [if_neg hc] at h
      refine zJ_aload_n (n := 194) (j := 0) (x := a 45) d_Mo_close_193 rfl rfl rfl ?_
      refine zS_getr (n := 197) (k0 := 45) (j := 1) (q := 46) d_Mo_close_194 rfl (fl_Mo_7 D tt) rfl rfl ?_
      refine zJ_bipush (n := 199) (v := 64) d_Mo_close_197 rfl zcb_64 ?_
      refine zJ_aload_n (n := 200) (j := 0) (x := a 45) d_Mo_close_199 rfl rfl rfl ?_
      refine zS_geti (n := 203) (k0 := 45) (j := 4) d_Mo_close_200 rfl (fl_Mo_145 D tt) rfl rfl ?_
      refine zJ_imul (n := 204) d_Mo_close_203 rfl ?_
      refine zJ_iload (n := 206) (j := 5) (x := x5) d_Mo_close_204 rfl rfl ?_
      refine zJ_iadd (n := 207) d_Mo_close_206 rfl ?_
      refine zJ_aload_n (n := 208) (j := 0) (x := a 45) d_Mo_close_207 rfl rfl rfl ?_
      refine zS_getr (n := 211) (k0 := 45) (j := 2) (q := 47) d_Mo_close_208 rfl (fl_Mo_13 D tt) rfl rfl ?_
      refine zJ_iload (n := 213) (j := 5) (x := x5) d_Mo_close_211 rfl rfl ?_
      obtain ⟨g213, h⟩ := zgd h
      refine zS_iald (n := 214) (k0 := 47) d_Mo_close_213 rfl rfl rfl rfl g213 ?_
      obtain ⟨g214, h⟩ := zgd h
      obtain ⟨M214, hM214, h⟩ := zli h
      refine zS_iastN (n := 215) (k0 := 46) d_Mo_close_214 rfl rfl rfl rfl g214 hM214 ?_
      obtain ⟨v215, hv215, h⟩ := zli h
      refine zS_iinc (n := 218) (j := 5) (x := x5) (v := 1) (x' := v215) d_Mo_close_215 rfl rfl zci_1 (Nat.le_of_ble_eq_true rfl) hv215 ?_
      refine zJ_goto (t := 186) d_Mo_close_218 (by decide) ?_
      exact ih _ _ _ _ _ _ h
theorem t_Mo_close_l137 {D : va_G} {tt : ClassId × ClassId × ClassId} {a : Nat → Nat} {d N : Nat} (hd : 3 ≤ d) {z : Int32 × zMem} : ∀ (n : Nat), ∀ (x5 : Int32) (o1 o2 o3 o4 : Option Value) (M : zMem), f_Mo_close_l137 N n x5 M = some z → zS (zEn D tt) zshp a mz_Mo_close d zTr (zFs (zEn D tt) zshp a (zRi z)) 137 [some (.ref (a 45)), o1, o2, o3, o4, some (.int x5)] [] M := by
  intro n
  induction n with
  | zero =>
    intro x5 o1 o2 o3 o4 M h
    rw [f_Mo_close_l137] at h
    cases h
  | succ n ih =>
    intro x5 o1 o2 o3 o4 M h
    rw [f_Mo_close_l137] at h
    refine zJ_iload (n := 139) (j := 5) (x := x5) d_Mo_close_137 rfl rfl ?_
    refine zJ_sipush (n := 142) (v := 128) d_Mo_close_139 rfl zcs_128 ?_
    refine zJ_icmp_ge (t := 183) (n := 145) d_Mo_close_142 (by decide) rfl (fun hc => ?_) (fun hc => ?_)
    · rw [if_pos hc] at h
      refine zJ_iconst (n := 184) (v := 0) d_Mo_close_183 rfl zci_0 ?_
      refine zS_istore (n := 186) (j := 5) (x' := (0 : Int32)) d_Mo_close_184 rfl (Nat.le_of_ble_eq_true rfl) rfl ?_
      exact t_Mo_close_l186 hd N _ _ _ _ _ _ h
    · rw [if_neg hc] at h
      refine zJ_aload_n (n := 146) (j := 0) (x := a 45) d_Mo_close_145 rfl rfl rfl ?_
      refine zS_getr (n := 149) (k0 := 45) (j := 14) (q := 57) d_Mo_close_146 rfl (fl_Mo_44 D tt) rfl rfl ?_
      refine zJ_iload (n := 151) (j := 5) (x := x5) d_Mo_close_149 rfl rfl ?_
      refine zJ_aload_n (n := 152) (j := 0) (x := a 45) d_Mo_close_151 rfl rfl rfl ?_
      refine zS_getr (n := 155) (k0 := 45) (j := 16) (q := 59) d_Mo_close_152 rfl (fl_Mo_50 D tt) rfl rfl ?_
      refine zJ_iload (n := 157) (j := 5) (x := x5) d_Mo_close_155 rfl rfl ?_
      obtain ⟨g157, h⟩ := zgd h
      refine zS_iald (n := 158) (k0 := 59) d_Mo_close_157 rfl rfl rfl rfl g157 ?_
      obtain ⟨g158, h⟩ := zgd h
      obtain ⟨M158, hM158, h⟩ := zli h
      refine zS_iastN (n := 159) (k0 := 57) d_Mo_close_158 rfl rfl rfl rfl g158 hM158 ?_
      refine zJ_aload_n (n := 160) (j := 0) (x := a 45) d_Mo_close_159 rfl rfl rfl ?_
      refine zS_getr (n := 163) (k0 := 45) (j := 13) (q := 56) d_Mo_close_160 rfl (fl_Mo_41 D tt) rfl rfl ?_
      refine zJ_iload (n := 165) (j := 5) (x := x5) d_Mo_close_163 rfl rfl ?_
      refine zJ_iconst (n := 166) (v := 2) d_Mo_close_165 rfl zci_2 ?_
      refine zJ_idiv (n := 167) d_Mo_close_166 rfl (by decide) ?_
      refine zJ_aload_n (n := 168) (j := 0) (x := a 45) d_Mo_close_167 rfl rfl rfl ?_
      refine zS_getr (n := 171) (k0 := 45) (j := 15) (q := 58) d_Mo_close_168 rfl (fl_Mo_47 D tt) rfl rfl ?_
      refine zJ_iload (n := 173) (j := 5) (x := x5) d_Mo_close_171 rfl rfl ?_
      refine zJ_iconst (n := 174) (v := 2) d_Mo_close_173 rfl zci_2 ?_
      refine zJ_idiv (n := 175) d_Mo_close_174 rfl (by decide) ?_
      obtain ⟨g175, h⟩ := zgd h
      refine zS_iald (n := 176) (k0 := 58) d_Mo_close_175 rfl rfl rfl rfl g175 ?_
      obtain ⟨g176, h⟩ := zgd h
      obtain ⟨M176, hM176, h⟩ := zli h
      refine zS_iastN (n := 177) (k0 := 56) d_Mo_close_176 rfl rfl rfl rfl g176 hM176 ?_
      obtain ⟨v177, hv177, h⟩ := zli h
      refine zS_iinc (n := 180) (j := 5) (x := x5) (v := 1) (x' := v177) d_Mo_close_177 rfl rfl zci_1 (Nat.le_of_ble_eq_true rfl) hv177 ?_
      refine zJ_goto (t := 137) d_Mo_close_180 (by decide) ?_
      exact ih _ _ _ _ _ _ h
theorem t_Mo_close_b113 {D : va_G} {tt : ClassId × ClassId × ClassId} {a : Nat → Nat} {d N : Nat} (hd : 3 ≤ d) {z : Int32 × zMem} {s0 : Int32} {o1 : Option Value} {o2 : Option Value} {o3 : Option Value} {o4 : Option Value} {o5 : Option Value} {M : zMem} (h : f_Mo_close_b113 N s0 M = some z) : zS (zEn D tt) zshp a mz_Mo_close d zTr (zFs (zEn D tt) zshp a (zRi z)) 113 [some (.ref (a 45)), o1, o2, o3, o4, o5] [.int s0] M := by
  unfold f_Mo_close_b113 at h
  refine zS_istore_n (n := 114) (j := 3) (x' := s0) d_Mo_close_113 rfl rfl (Nat.le_of_ble_eq_true rfl) rfl ?_
  refine zJ_iload_n (n := 115) (j := 3) (x := s0) d_Mo_close_114 rfl rfl rfl ?_
  refine zJ_if_eq (t := 246) (n := 118) d_Mo_close_115 (by decide) rfl (fun hc => ?_) (fun hc => ?_)
  · rw [if_pos hc] at h
    exact t_Mo_close_b246 hd h
  · rw [if_neg hc] at h
    refine zJ_aload_n (n := 119) (j := 0) (x := a 45) d_Mo_close_118 rfl rfl rfl ?_
    refine zJ_iconst (n := 120) (v := 3) d_Mo_close_119 rfl zci_3 ?_
    refine zJ_aload_n (n := 121) (j := 0) (x := a 45) d_Mo_close_120 rfl rfl rfl ?_
    refine zS_geti (n := 124) (k0 := 45) (j := 4) d_Mo_close_121 rfl (fl_Mo_145 D tt) rfl rfl ?_
    refine zJ_aload_n (n := 125) (j := 0) (x := a 45) d_Mo_close_124 rfl rfl rfl ?_
    refine zJ_iconst (n := 126) (v := 1) d_Mo_close_125 rfl zci_1 ?_
    obtain ⟨q126, hq126, h⟩ := zbd h
    refine zS_callVi (n := 129) (k0 := 45) (avs := [.int (1 : Int32)]) (rest := [.int (M 45 4), .int (3 : Int32), .ref (a 45)]) (z := q126) (d' := d - 1) d_Mo_close_126 rfl (vk_Mo_142 D tt) rfl rfl rfl (Nat.le_of_ble_eq_true rfl) (by omega) (t_Mo_blockOf (by omega) hq126) ?_
    obtain ⟨q129, hq129, h⟩ := zbd h
    refine zS_callVi (n := 132) (k0 := 45) (avs := [.int (3 : Int32), .int (M 45 4), .int q126.1]) (rest := []) (z := q129) (d' := d - 1) d_Mo_close_129 rfl (vk_Mo_138 D tt) rfl rfl rfl (Nat.le_of_ble_eq_true rfl) (by omega) (t_Mo_write (by omega) hq129) ?_
    refine zS_istore (n := 134) (j := 4) (x' := q129.1) d_Mo_close_132 rfl (Nat.le_of_ble_eq_true rfl) rfl ?_
    refine zJ_iconst (n := 135) (v := 0) d_Mo_close_134 rfl zci_0 ?_
    refine zS_istore (n := 137) (j := 5) (x' := (0 : Int32)) d_Mo_close_135 rfl (Nat.le_of_ble_eq_true rfl) rfl ?_
    exact t_Mo_close_l137 hd N _ _ _ _ _ _ h
theorem t_Mo_close_b112 {D : va_G} {tt : ClassId × ClassId × ClassId} {a : Nat → Nat} {d N : Nat} (hd : 3 ≤ d) {z : Int32 × zMem} {o1 : Option Value} {o2 : Option Value} {o3 : Option Value} {o4 : Option Value} {o5 : Option Value} {M : zMem} (h : f_Mo_close_b112 N M = some z) : zS (zEn D tt) zshp a mz_Mo_close d zTr (zFs (zEn D tt) zshp a (zRi z)) 112 [some (.ref (a 45)), o1, o2, o3, o4, o5] [] M := by
  unfold f_Mo_close_b112 at h
  refine zJ_iconst (n := 113) (v := 0) d_Mo_close_112 rfl zci_0 ?_
  exact t_Mo_close_b113 hd h
theorem t_Mo_close_l49 {D : va_G} {tt : ClassId × ClassId × ClassId} {a : Nat → Nat} {d N : Nat} (hd : 3 ≤ d) {z : Int32 × zMem} : ∀ (n : Nat), ∀ (x1 x2 : Int32) (o3 o4 o5 : Option Value) (M : zMem), f_Mo_close_l49 N n x1 x2 M = some z → zS (zEn D tt) zshp a mz_Mo_close d zTr (zFs (zEn D tt) zshp a (zRi z)) 49 [some (.ref (a 45)), some (.int x1), some (.int x2), o3, o4, o5] [] M := by
  intro n
  induction n with
  | zero =>
    intro x1 x2 o3 o4 o5 M h
    rw [f_Mo_close_l49] at h
    cases h
  | succ n ih =>
    intro x1 x2 o3 o4 o5 M h
    rw [f_Mo_close_l49] at h
    refine zJ_iload_n (n := 50) (j := 2) (x := x2) d_Mo_close_49 rfl rfl rfl ?_
    refine zJ_sipush (n := 53) (v := 128) d_Mo_close_50 rfl zcs_128 ?_
    refine zJ_icmp_ge (t := 90) (n := 56) d_Mo_close_53 (by decide) rfl (fun hc => ?_) (fun hc => ?_)
    · rw [if_pos hc] at h
      refine zJ_aload_n (n := 91) (j := 0) (x := a 45) d_Mo_close_90 rfl rfl rfl ?_
      refine zJ_iconst (n := 92) (v := 1) d_Mo_close_91 rfl zci_1 ?_
      obtain ⟨q92, hq92, h⟩ := zbd h
      refine zS_callVi (n := 95) (k0 := 45) (avs := [.int (1 : Int32)]) (rest := []) (z := q92) (d' := d - 1) d_Mo_close_92 rfl (vk_Mo_151 D tt) rfl rfl rfl (Nat.le_of_ble_eq_true rfl) (by omega) (t_Mo_nodes (by omega) hq92) ?_
      refine zS_istore_n (n := 96) (j := 2) (x' := q92.1) d_Mo_close_95 rfl rfl (Nat.le_of_ble_eq_true rfl) rfl ?_
      refine zJ_aload_n (n := 97) (j := 0) (x := a 45) d_Mo_close_96 rfl rfl rfl ?_
      refine zS_geti (n := 100) (k0 := 45) (j := 18) d_Mo_close_97 rfl (fl_Mo_106 D tt) rfl rfl ?_
      refine zJ_if_ne (t := 112) (n := 103) d_Mo_close_100 (by decide) rfl (fun hc => ?_) (fun hc => ?_)
      · rw [if_neg hc] at h
        exact t_Mo_close_b112 hd h
      · rw [if_pos hc] at h
        refine zJ_iload_n (n := 104) (j := 2) (x := q92.1) d_Mo_close_103 rfl rfl rfl ?_
        refine zJ_iload_n (n := 105) (j := 1) (x := x1) d_Mo_close_104 rfl rfl rfl ?_
        refine zJ_icmp_ne (t := 112) (n := 108) d_Mo_close_105 (by decide) rfl (fun hc => ?_) (fun hc => ?_)
        · rw [if_neg hc] at h
          exact t_Mo_close_b112 hd h
        · rw [if_pos hc] at h
          refine zJ_iconst (n := 109) (v := 1) d_Mo_close_108 rfl zci_1 ?_
          refine zJ_goto (t := 113) d_Mo_close_109 (by decide) ?_
          exact t_Mo_close_b113 hd h
    · rw [if_neg hc] at h
      refine zJ_aload_n (n := 57) (j := 0) (x := a 45) d_Mo_close_56 rfl rfl rfl ?_
      refine zS_getr (n := 60) (k0 := 45) (j := 16) (q := 59) d_Mo_close_57 rfl (fl_Mo_50 D tt) rfl rfl ?_
      refine zJ_iload_n (n := 61) (j := 2) (x := x2) d_Mo_close_60 rfl rfl rfl ?_
      refine zJ_aload_n (n := 62) (j := 0) (x := a 45) d_Mo_close_61 rfl rfl rfl ?_
      refine zS_getr (n := 65) (k0 := 45) (j := 14) (q := 57) d_Mo_close_62 rfl (fl_Mo_44 D tt) rfl rfl ?_
      refine zJ_iload_n (n := 66) (j := 2) (x := x2) d_Mo_close_65 rfl rfl rfl ?_
      obtain ⟨g66, h⟩ := zgd h
      refine zS_iald (n := 67) (k0 := 57) d_Mo_close_66 rfl rfl rfl rfl g66 ?_
      obtain ⟨g67, h⟩ := zgd h
      obtain ⟨M67, hM67, h⟩ := zli h
      refine zS_iastN (n := 68) (k0 := 59) d_Mo_close_67 rfl rfl rfl rfl g67 hM67 ?_
      refine zJ_aload_n (n := 69) (j := 0) (x := a 45) d_Mo_close_68 rfl rfl rfl ?_
      refine zS_getr (n := 72) (k0 := 45) (j := 15) (q := 58) d_Mo_close_69 rfl (fl_Mo_47 D tt) rfl rfl ?_
      refine zJ_iload_n (n := 73) (j := 2) (x := x2) d_Mo_close_72 rfl rfl rfl ?_
      refine zJ_iconst (n := 74) (v := 2) d_Mo_close_73 rfl zci_2 ?_
      refine zJ_idiv (n := 75) d_Mo_close_74 rfl (by decide) ?_
      refine zJ_aload_n (n := 76) (j := 0) (x := a 45) d_Mo_close_75 rfl rfl rfl ?_
      refine zS_getr (n := 79) (k0 := 45) (j := 13) (q := 56) d_Mo_close_76 rfl (fl_Mo_41 D tt) rfl rfl ?_
      refine zJ_iload_n (n := 80) (j := 2) (x := x2) d_Mo_close_79 rfl rfl rfl ?_
      refine zJ_iconst (n := 81) (v := 2) d_Mo_close_80 rfl zci_2 ?_
      refine zJ_idiv (n := 82) d_Mo_close_81 rfl (by decide) ?_
      obtain ⟨g82, h⟩ := zgd h
      refine zS_iald (n := 83) (k0 := 56) d_Mo_close_82 rfl rfl rfl rfl g82 ?_
      obtain ⟨g83, h⟩ := zgd h
      obtain ⟨M83, hM83, h⟩ := zli h
      refine zS_iastN (n := 84) (k0 := 58) d_Mo_close_83 rfl rfl rfl rfl g83 hM83 ?_
      obtain ⟨v84, hv84, h⟩ := zli h
      refine zS_iinc (n := 87) (j := 2) (x := x2) (v := 1) (x' := v84) d_Mo_close_84 rfl rfl zci_1 (Nat.le_of_ble_eq_true rfl) hv84 ?_
      refine zJ_goto (t := 49) d_Mo_close_87 (by decide) ?_
      exact ih _ _ _ _ _ _ h
theorem t_Mo_close {D : va_G} {tt : ClassId × ClassId × ClassId} {a : Nat → Nat} {d N : Nat} (hd : 3 ≤ d) {M : zMem} {z : Int32 × zMem} (h : f_Mo_close N M = some z) : zK (zEn D tt) zshp a mz_Mo_close d [.ref (a 45)] M (zRi z) := by
  refine zK.enter (L := [some (.ref (a 45)), none, none, none, none, none]) (by decide) rfl (Nat.le_of_ble_eq_true rfl) rfl ?_
  unfold f_Mo_close at h
  refine zJ_aload_n (n := 1) (j := 0) (x := a 45) d_Mo_close_0 rfl rfl rfl ?_
  refine zS_geti (n := 4) (k0 := 45) (j := 18) d_Mo_close_1 rfl (fl_Mo_106 D tt) rfl rfl ?_
  refine zJ_if_eq (t := 10) (n := 7) d_Mo_close_4 (by decide) rfl (fun hc => ?_) (fun hc => ?_)
  · rw [if_pos hc] at h
    refine zJ_aload_n (n := 11) (j := 0) (x := a 45) d_Mo_close_10 rfl rfl rfl ?_
    refine zJ_iconst (n := 12) (v := -1) d_Mo_close_11 rfl zci_m1 ?_
    obtain ⟨q12, hq12, h⟩ := zbd h
    refine zS_callVv (n := 15) (k0 := 45) (avs := [.int (-1 : Int32)]) (rest := []) (z := q12) (d' := d - 1) d_Mo_close_12 rfl (vk_Mo_148 D tt) rfl rfl rfl (Nat.le_of_ble_eq_true rfl) (by omega) (t_Mo_grow (by omega) hq12) ?_
    refine zJ_aload_n (n := 16) (j := 0) (x := a 45) d_Mo_close_15 rfl rfl rfl ?_
    refine zJ_iconst (n := 17) (v := 0) d_Mo_close_16 rfl zci_0 ?_
    obtain ⟨q17, hq17, h⟩ := zbd h
    refine zS_callVi (n := 20) (k0 := 45) (avs := [.int (0 : Int32)]) (rest := []) (z := q17) (d' := d - 1) d_Mo_close_17 rfl (vk_Mo_151 D tt) rfl rfl rfl (Nat.le_of_ble_eq_true rfl) (by omega) (t_Mo_nodes (by omega) hq17) ?_
    refine zS_istore_n (n := 21) (j := 1) (x' := q17.1) d_Mo_close_20 rfl rfl (Nat.le_of_ble_eq_true rfl) rfl ?_
    refine zJ_aload_n (n := 22) (j := 0) (x := a 45) d_Mo_close_21 rfl rfl rfl ?_
    refine zS_geti (n := 25) (k0 := 45) (j := 4) d_Mo_close_22 rfl (fl_Mo_145 D tt) rfl rfl ?_
    refine zJ_bipush (n := 27) (v := 40) d_Mo_close_25 rfl zcb_40 ?_
    refine zJ_icmp_eq (t := 44) (n := 30) d_Mo_close_27 (by decide) rfl (fun hc => ?_) (fun hc => ?_)
    · rw [if_pos hc] at h
      refine zJ_bipush (n := 46) (v := -2) d_Mo_close_44 rfl zcb_m2 ?_
      cases h
      exact zS_ireturn d_Mo_close_46 rfl rfl ⟨rfl, rfl⟩
    · rw [if_neg hc] at h
      refine zJ_aload_n (n := 31) (j := 0) (x := a 45) d_Mo_close_30 rfl rfl rfl ?_
      refine zS_geti (n := 34) (k0 := 45) (j := 9) d_Mo_close_31 rfl (fl_Mo_121 D tt) rfl rfl ?_
      refine zJ_iload_n (n := 35) (j := 1) (x := q17.1) d_Mo_close_34 rfl rfl rfl ?_
      refine zJ_iadd (n := 36) d_Mo_close_35 rfl ?_
      refine zJ_iconst (n := 37) (v := 1) d_Mo_close_36 rfl zci_1 ?_
      refine zJ_iadd (n := 38) d_Mo_close_37 rfl ?_
      refine zJ_sipush (n := 41) (v := 300) d_Mo_close_38 rfl zcs_300 ?_
      refine zJ_icmp_le (t := 47) (n := 44) d_Mo_close_41 (by decide) rfl (fun hc => ?_) (fun hc => ?_)
      · rw [if_pos hc] at h
        refine zJ_iconst (n := 48) (v := 0) d_Mo_close_47 rfl zci_0 ?_
        refine zS_istore_n (n := 49) (j := 2) (x' := (0 : Int32)) d_Mo_close_48 rfl rfl (Nat.le_of_ble_eq_true rfl) rfl ?_
        exact t_Mo_close_l49 hd N _ _ _ _ _ _ h
      · rw [if_neg hc] at h
        refine zJ_bipush (n := 46) (v := -2) d_Mo_close_44 rfl zcb_m2 ?_
        cases h
        exact zS_ireturn d_Mo_close_46 rfl rfl ⟨rfl, rfl⟩
  · rw [if_neg hc] at h
    refine zJ_bipush (n := 9) (v := -9) d_Mo_close_7 rfl zcb_m9 ?_
    cases h
    exact zS_ireturn d_Mo_close_9 rfl rfl ⟨rfl, rfl⟩
