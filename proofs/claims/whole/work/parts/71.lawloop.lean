def f_La_law_l28 (Ls : Nat) (xs : Nat → Int32) (N : Nat) : Nat → Int32 → zMem → Option (Int32 × zMem)
  | 0, _, _ => none
  | n + 1, x3, M =>
    (if ((Int32.ofNat Ls) - (6 : Int32)) < x3 then some ((1 : Int32), M) else (if zin x3 Ls = true then (if ((xs x3.toNatClampNeg) &&& (31 : Int32)) = 0 then (if zin (x3 + (1 : Int32)) Ls = true then (if zin (x3 + (2 : Int32)) Ls = true then (if zin (x3 + (3 : Int32)) Ls = true then (f_ED_hash N (xs (x3 + (1 : Int32)).toNatClampNeg) (xs (x3 + (2 : Int32)).toNatClampNeg) (xs (x3 + (3 : Int32)).toNatClampNeg) M).bind fun q152 => (if zin (x3 + (1 : Int32)) Ls = true then (if zin (x3 + (2 : Int32)) Ls = true then (if zin (x3 + (3 : Int32)) Ls = true then (f_Mo_hash N (xs (x3 + (1 : Int32)).toNatClampNeg) (xs (x3 + (2 : Int32)).toNatClampNeg) (xs (x3 + (3 : Int32)).toNatClampNeg) q152.2).bind fun q171 => (if q152.1 = q171.1 then zlt (x3 + (6 : Int32)) fun v836 => (f_La_law_l28 Ls xs N n) v836 q171.2 else some ((0 : Int32), q171.2)) else none) else none) else none) else none) else none) else none) else (if ((xs x3.toNatClampNeg) &&& (31 : Int32)) = 1 then (if zin (x3 + (1 : Int32)) Ls = true then (if zin (x3 + (2 : Int32)) Ls = true then (f_ED_put N (xs (x3 + (1 : Int32)).toNatClampNeg) (xs (x3 + (2 : Int32)).toNatClampNeg) M).bind fun q190 => (if zin (x3 + (1 : Int32)) Ls = true then (if zin (x3 + (2 : Int32)) Ls = true then (f_Mo_put N (xs (x3 + (1 : Int32)).toNatClampNeg) (xs (x3 + (2 : Int32)).toNatClampNeg) q190.2).bind fun q204 => (if q190.1 = q204.1 then zlt (x3 + (6 : Int32)) fun v836 => (f_La_law_l28 Ls xs N n) v836 q204.2 else some ((0 : Int32), q204.2)) else none) else none) else none) else none) else (if ((xs x3.toNatClampNeg) &&& (31 : Int32)) = 2 then (f_ED_close N M).bind fun q213 => (f_Mo_close N q213.2).bind fun q217 => (if q213.1 = q217.1 then zlt (x3 + (6 : Int32)) fun v836 => (f_La_law_l28 Ls xs N n) v836 q217.2 else some ((0 : Int32), q217.2)) else (if ((xs x3.toNatClampNeg) &&& (31 : Int32)) = 3 then (if zin (x3 + (1 : Int32)) Ls = true then (f_ED_fuse N (xs (x3 + (1 : Int32)).toNatClampNeg) M).bind fun q231 => (if zin (x3 + (1 : Int32)) Ls = true then (f_Mo_fuse N (xs (x3 + (1 : Int32)).toNatClampNeg) q231.2).bind fun q240 => (if q231.1 = q240.1 then zlt (x3 + (6 : Int32)) fun v836 => (f_La_law_l28 Ls xs N n) v836 q240.2 else some ((0 : Int32), q240.2)) else none) else none) else (if ((xs x3.toNatClampNeg) &&& (31 : Int32)) = 4 then (f_ED_restart N M).bind fun q249 => (f_Mo_restart N q249.2).bind fun q253 => (if q249.1 = q253.1 then zlt (x3 + (6 : Int32)) fun v836 => (f_La_law_l28 Ls xs N n) v836 q253.2 else some ((0 : Int32), q253.2)) else (if ((xs x3.toNatClampNeg) &&& (31 : Int32)) = 5 then (if zin (x3 + (1 : Int32)) Ls = true then (f_ED_root N (xs (x3 + (1 : Int32)).toNatClampNeg) M).bind fun q267 => (if zin (x3 + (1 : Int32)) Ls = true then (f_Mo_root N (xs (x3 + (1 : Int32)).toNatClampNeg) q267.2).bind fun q276 => (if q267.1 = q276.1 then zlt (x3 + (6 : Int32)) fun v836 => (f_La_law_l28 Ls xs N n) v836 q276.2 else some ((0 : Int32), q276.2)) else none) else none) else (if ((xs x3.toNatClampNeg) &&& (31 : Int32)) = 6 then (if zin (x3 + (1 : Int32)) Ls = true then (f_ED_head N (xs (x3 + (1 : Int32)).toNatClampNeg) M).bind fun q290 => (if zin (x3 + (1 : Int32)) Ls = true then (f_Mo_head N (xs (x3 + (1 : Int32)).toNatClampNeg) q290.2).bind fun q299 => (if q290.1 = q299.1 then zlt (x3 + (6 : Int32)) fun v836 => (f_La_law_l28 Ls xs N n) v836 q299.2 else some ((0 : Int32), q299.2)) else none) else none) else (if ((xs x3.toNatClampNeg) &&& (31 : Int32)) = 7 then (if zin (x3 + (1 : Int32)) Ls = true then (if zin (x3 + (2 : Int32)) Ls = true then (f_ED_block N (xs (x3 + (1 : Int32)).toNatClampNeg) (xs (x3 + (2 : Int32)).toNatClampNeg) M).bind fun q318 => (if zin (x3 + (1 : Int32)) Ls = true then (if zin (x3 + (2 : Int32)) Ls = true then (f_Mo_block N (xs (x3 + (1 : Int32)).toNatClampNeg) (xs (x3 + (2 : Int32)).toNatClampNeg) q318.2).bind fun q332 => (if q318.1 = q332.1 then zlt (x3 + (6 : Int32)) fun v836 => (f_La_law_l28 Ls xs N n) v836 q332.2 else some ((0 : Int32), q332.2)) else none) else none) else none) else none) else (if ((xs x3.toNatClampNeg) &&& (31 : Int32)) = 8 then (if zin (x3 + (1 : Int32)) Ls = true then (f_ED_size N (xs (x3 + (1 : Int32)).toNatClampNeg) M).bind fun q346 => (if zin (x3 + (1 : Int32)) Ls = true then (f_Mo_size N (xs (x3 + (1 : Int32)).toNatClampNeg) q346.2).bind fun q355 => (if q346.1 = q355.1 then zlt (x3 + (6 : Int32)) fun v836 => (f_La_law_l28 Ls xs N n) v836 q355.2 else some ((0 : Int32), q355.2)) else none) else none) else (if ((xs x3.toNatClampNeg) &&& (31 : Int32)) = 9 then (if zin (x3 + (1 : Int32)) Ls = true then (if zin (x3 + (2 : Int32)) Ls = true then (if zin (x3 + (3 : Int32)) Ls = true then (if zin (x3 + (4 : Int32)) Ls = true then (f_ED_prove N (xs (x3 + (1 : Int32)).toNatClampNeg) (xs (x3 + (2 : Int32)).toNatClampNeg) (xs (x3 + (3 : Int32)).toNatClampNeg) (xs (x3 + (4 : Int32)).toNatClampNeg) M).bind fun q384 => (if zin (x3 + (1 : Int32)) Ls = true then (if zin (x3 + (2 : Int32)) Ls = true then (if zin (x3 + (3 : Int32)) Ls = true then (if zin (x3 + (4 : Int32)) Ls = true then (f_Mo_prove N (xs (x3 + (1 : Int32)).toNatClampNeg) (xs (x3 + (2 : Int32)).toNatClampNeg) (xs (x3 + (3 : Int32)).toNatClampNeg) (xs (x3 + (4 : Int32)).toNatClampNeg) q384.2).bind fun q408 => (if q384.1 = q408.1 then zlt (x3 + (6 : Int32)) fun v836 => (f_La_law_l28 Ls xs N n) v836 q408.2 else some ((0 : Int32), q408.2)) else none) else none) else none) else none) else none) else none) else none) else none) else (if ((xs x3.toNatClampNeg) &&& (31 : Int32)) = 10 then (if zin (x3 + (1 : Int32)) Ls = true then (if zin (x3 + (2 : Int32)) Ls = true then (f_ED_word N (xs (x3 + (1 : Int32)).toNatClampNeg) (xs (x3 + (2 : Int32)).toNatClampNeg) M).bind fun q427 => (if zin (x3 + (1 : Int32)) Ls = true then (if zin (x3 + (2 : Int32)) Ls = true then (f_Mo_word N (xs (x3 + (1 : Int32)).toNatClampNeg) (xs (x3 + (2 : Int32)).toNatClampNeg) q427.2).bind fun q441 => (if q427.1 = q441.1 then zlt (x3 + (6 : Int32)) fun v836 => (f_La_law_l28 Ls xs N n) v836 q441.2 else some ((0 : Int32), q441.2)) else none) else none) else none) else none) else (if ((xs x3.toNatClampNeg) &&& (31 : Int32)) = 11 then (if zin (x3 + (1 : Int32)) Ls = true then (if zin (x3 + (2 : Int32)) Ls = true then (if zin (x3 + (3 : Int32)) Ls = true then (f_ED_poke N (xs (x3 + (1 : Int32)).toNatClampNeg) (xs (x3 + (2 : Int32)).toNatClampNeg) (xs (x3 + (3 : Int32)).toNatClampNeg) M).bind fun q465 => (if zin (x3 + (1 : Int32)) Ls = true then (if zin (x3 + (2 : Int32)) Ls = true then (if zin (x3 + (3 : Int32)) Ls = true then (f_Mo_poke N (xs (x3 + (1 : Int32)).toNatClampNeg) (xs (x3 + (2 : Int32)).toNatClampNeg) (xs (x3 + (3 : Int32)).toNatClampNeg) q465.2).bind fun q484 => (if q465.1 = q484.1 then zlt (x3 + (6 : Int32)) fun v836 => (f_La_law_l28 Ls xs N n) v836 q484.2 else some ((0 : Int32), q484.2)) else none) else none) else none) else none) else none) else none) else (if ((xs x3.toNatClampNeg) &&& (31 : Int32)) = 12 then (if zin (x3 + (1 : Int32)) Ls = true then (if zin (x3 + (2 : Int32)) Ls = true then (f_ED_trim N (xs (x3 + (1 : Int32)).toNatClampNeg) (xs (x3 + (2 : Int32)).toNatClampNeg) M).bind fun q503 => (if zin (x3 + (1 : Int32)) Ls = true then (if zin (x3 + (2 : Int32)) Ls = true then (f_Mo_trim N (xs (x3 + (1 : Int32)).toNatClampNeg) (xs (x3 + (2 : Int32)).toNatClampNeg) q503.2).bind fun q517 => (if q503.1 = q517.1 then zlt (x3 + (6 : Int32)) fun v836 => (f_La_law_l28 Ls xs N n) v836 q517.2 else some ((0 : Int32), q517.2)) else none) else none) else none) else none) else (if ((xs x3.toNatClampNeg) &&& (31 : Int32)) = 13 then (if zin (x3 + (1 : Int32)) Ls = true then (if zin (x3 + (2 : Int32)) Ls = true then (if zin (x3 + (3 : Int32)) Ls = true then (f_ED_check N (xs (x3 + (1 : Int32)).toNatClampNeg) (xs (x3 + (2 : Int32)).toNatClampNeg) (xs (x3 + (3 : Int32)).toNatClampNeg) M).bind fun q541 => (if zin (x3 + (1 : Int32)) Ls = true then (if zin (x3 + (2 : Int32)) Ls = true then (if zin (x3 + (3 : Int32)) Ls = true then (f_Mo_check N (xs (x3 + (1 : Int32)).toNatClampNeg) (xs (x3 + (2 : Int32)).toNatClampNeg) (xs (x3 + (3 : Int32)).toNatClampNeg) q541.2).bind fun q560 => (if q541.1 = q560.1 then zlt (x3 + (6 : Int32)) fun v836 => (f_La_law_l28 Ls xs N n) v836 q560.2 else some ((0 : Int32), q560.2)) else none) else none) else none) else none) else none) else none) else (if ((xs x3.toNatClampNeg) &&& (31 : Int32)) = 14 then (if zin (x3 + (1 : Int32)) Ls = true then (if zin (x3 + (2 : Int32)) Ls = true then (if zin (x3 + (3 : Int32)) Ls = true then (if zin (x3 + (4 : Int32)) Ls = true then (if zin (x3 + (5 : Int32)) Ls = true then (f_ED_included N (xs (x3 + (1 : Int32)).toNatClampNeg) (xs (x3 + (2 : Int32)).toNatClampNeg) (xs (x3 + (3 : Int32)).toNatClampNeg) (xs (x3 + (4 : Int32)).toNatClampNeg) (xs (x3 + (5 : Int32)).toNatClampNeg) M).bind fun q594 => (if zin (x3 + (1 : Int32)) Ls = true then (if zin (x3 + (2 : Int32)) Ls = true then (if zin (x3 + (3 : Int32)) Ls = true then (if zin (x3 + (4 : Int32)) Ls = true then (if zin (x3 + (5 : Int32)) Ls = true then (f_Mo_included N (xs (x3 + (1 : Int32)).toNatClampNeg) (xs (x3 + (2 : Int32)).toNatClampNeg) (xs (x3 + (3 : Int32)).toNatClampNeg) (xs (x3 + (4 : Int32)).toNatClampNeg) (xs (x3 + (5 : Int32)).toNatClampNeg) q594.2).bind fun q623 => (if q594.1 = q623.1 then zlt (x3 + (6 : Int32)) fun v836 => (f_La_law_l28 Ls xs N n) v836 q623.2 else some ((0 : Int32), q623.2)) else none) else none) else none) else none) else none) else none) else none) else none) else none) else none) else (if ((xs x3.toNatClampNeg) &&& (31 : Int32)) = 15 then (if zin (x3 + (1 : Int32)) Ls = true then (if zin (x3 + (2 : Int32)) Ls = true then (if zin (x3 + (3 : Int32)) Ls = true then (if zin (x3 + (4 : Int32)) Ls = true then (if zin (x3 + (5 : Int32)) Ls = true then (f_ED_consistent N (xs (x3 + (1 : Int32)).toNatClampNeg) (xs (x3 + (2 : Int32)).toNatClampNeg) (xs (x3 + (3 : Int32)).toNatClampNeg) (xs (x3 + (4 : Int32)).toNatClampNeg) (xs (x3 + (5 : Int32)).toNatClampNeg) M).bind fun q657 => (if zin (x3 + (1 : Int32)) Ls = true then (if zin (x3 + (2 : Int32)) Ls = true then (if zin (x3 + (3 : Int32)) Ls = true then (if zin (x3 + (4 : Int32)) Ls = true then (if zin (x3 + (5 : Int32)) Ls = true then (f_Mo_consistent N (xs (x3 + (1 : Int32)).toNatClampNeg) (xs (x3 + (2 : Int32)).toNatClampNeg) (xs (x3 + (3 : Int32)).toNatClampNeg) (xs (x3 + (4 : Int32)).toNatClampNeg) (xs (x3 + (5 : Int32)).toNatClampNeg) q657.2).bind fun q686 => (if q657.1 = q686.1 then zlt (x3 + (6 : Int32)) fun v836 => (f_La_law_l28 Ls xs N n) v836 q686.2 else some ((0 : Int32), q686.2)) else none) else none) else none) else none) else none) else none) else none) else none) else none) else none) else (if ((xs x3.toNatClampNeg) &&& (31 : Int32)) = 16 then (if zin (x3 + (1 : Int32)) Ls = true then (if zin (x3 + (2 : Int32)) Ls = true then (if zin (x3 + (3 : Int32)) Ls = true then (f_ED_follow N (xs (x3 + (1 : Int32)).toNatClampNeg) (xs (x3 + (2 : Int32)).toNatClampNeg) (xs (x3 + (3 : Int32)).toNatClampNeg) M).bind fun q710 => (if zin (x3 + (1 : Int32)) Ls = true then (if zin (x3 + (2 : Int32)) Ls = true then (if zin (x3 + (3 : Int32)) Ls = true then (f_Mo_follow N (xs (x3 + (1 : Int32)).toNatClampNeg) (xs (x3 + (2 : Int32)).toNatClampNeg) (xs (x3 + (3 : Int32)).toNatClampNeg) q710.2).bind fun q729 => (if q710.1 = q729.1 then zlt (x3 + (6 : Int32)) fun v836 => (f_La_law_l28 Ls xs N n) v836 q729.2 else some ((0 : Int32), q729.2)) else none) else none) else none) else none) else none) else none) else (if ((xs x3.toNatClampNeg) &&& (31 : Int32)) = 17 then (if zin (x3 + (1 : Int32)) Ls = true then (f_ED_seen N (xs (x3 + (1 : Int32)).toNatClampNeg) M).bind fun q743 => (if zin (x3 + (1 : Int32)) Ls = true then (f_Mo_seen N (xs (x3 + (1 : Int32)).toNatClampNeg) q743.2).bind fun q752 => (if q743.1 = q752.1 then zlt (x3 + (6 : Int32)) fun v836 => (f_La_law_l28 Ls xs N n) v836 q752.2 else some ((0 : Int32), q752.2)) else none) else none) else (if ((xs x3.toNatClampNeg) &&& (31 : Int32)) = 18 then (if zin (x3 + (1 : Int32)) Ls = true then (if zin (x3 + (2 : Int32)) Ls = true then (if zin (x3 + (3 : Int32)) Ls = true then (if zin (x3 + (4 : Int32)) Ls = true then (f_ED_extract N (xs (x3 + (1 : Int32)).toNatClampNeg) (xs (x3 + (2 : Int32)).toNatClampNeg) (xs (x3 + (3 : Int32)).toNatClampNeg) (xs (x3 + (4 : Int32)).toNatClampNeg) M).bind fun q781 => (if zin (x3 + (1 : Int32)) Ls = true then (if zin (x3 + (2 : Int32)) Ls = true then (if zin (x3 + (3 : Int32)) Ls = true then (if zin (x3 + (4 : Int32)) Ls = true then (f_Mo_extract N (xs (x3 + (1 : Int32)).toNatClampNeg) (xs (x3 + (2 : Int32)).toNatClampNeg) (xs (x3 + (3 : Int32)).toNatClampNeg) (xs (x3 + (4 : Int32)).toNatClampNeg) q781.2).bind fun q805 => (if q781.1 = q805.1 then zlt (x3 + (6 : Int32)) fun v836 => (f_La_law_l28 Ls xs N n) v836 q805.2 else some ((0 : Int32), q805.2)) else none) else none) else none) else none) else none) else none) else none) else none) else (if ((xs x3.toNatClampNeg) &&& (31 : Int32)) = 19 then (if zin (x3 + (1 : Int32)) Ls = true then (f_ED_clash N (xs (x3 + (1 : Int32)).toNatClampNeg) M).bind fun q819 => (if zin (x3 + (1 : Int32)) Ls = true then (f_Mo_clash N (xs (x3 + (1 : Int32)).toNatClampNeg) q819.2).bind fun q828 => (if q819.1 = q828.1 then zlt (x3 + (6 : Int32)) fun v836 => (f_La_law_l28 Ls xs N n) v836 q828.2 else some ((0 : Int32), q828.2)) else none) else none) else zlt (x3 + (6 : Int32)) fun v836 => (f_La_law_l28 Ls xs N n) v836 M)))))))))))))))))))) else none))
set_option maxHeartbeats 4000000 in
set_option maxRecDepth 100000 in
theorem t_La_law_l28 {D : va_G} {tt : ClassId × ClassId × ClassId} {a : Nat → Nat} {N b Ls : Nat} {xs : Nat → Int32} {z : Int32 × zMem} (hz : z.1 = 1) : ∀ (n : Nat), ∀ (x3 : Int32) (M : zMem), f_La_law_l28 Ls xs N n x3 M = some z → zJ (zEn D tt) mz_La_law 7 600000 7302250 (zX b Ls xs) zLw 28 [some (.ref b), some (.ref (a 0)), some (.ref (a 45)), some (.int x3)] [] (zw (zEn D tt).2.2.2 a M 0 zshp) 600000 7302250 := by
  intro n
  induction n with
  | zero =>
    intro x3 M h
    rw [f_La_law_l28] at h
    cases h
  | succ n ih =>
    intro x3 M h
    rw [f_La_law_l28] at h
    refine zJ_iload_n (n := 29) (j := 3) (x := x3) d_La_law_28 rfl rfl rfl ?_
    refine zJ_aload_n (n := 30) (j := 0) (x := b) d_La_law_29 rfl rfl rfl ?_
    refine zJ_slen (n := 31) d_La_law_30 rfl ?_
    refine zJ_bipush (n := 33) (v := 6) d_La_law_31 rfl zcb_6 ?_
    refine zJ_isub (n := 34) d_La_law_33 rfl ?_
    refine zJ_icmp_gt (t := 842) (n := 37) d_La_law_34 (by decide) rfl (fun hc => ?_) (fun hc => ?_)
    · rw [if_pos hc] at h
      refine zJ_iconst (n := 843) (v := 1) d_La_law_842 rfl zci_1 ?_
      exact zJ_lret d_La_law_843
    · rw [if_neg hc] at h
      refine zJ_aload_n (n := 38) (j := 0) (x := b) d_La_law_37 rfl rfl rfl ?_
      refine zJ_iload_n (n := 39) (j := 3) (x := x3) d_La_law_38 rfl rfl rfl ?_
      obtain ⟨g39, h⟩ := zgd h
      refine zJ_sld (n := 40) d_La_law_39 rfl g39 ?_
      refine zJ_bipush (n := 42) (v := 31) d_La_law_40 rfl zcb_31 ?_
      refine zJ_iand (n := 43) d_La_law_42 rfl ?_
      by_cases hc0 : ((xs x3.toNatClampNeg) &&& (31 : Int32)) = 0
      · rw [if_pos hc0] at h
        refine zJ_tableIn (t := 136) d_La_law_43 (by rw [hc0]; decide) (by rw [hc0]; decide) (by rw [hc0]; rfl) (by decide) ?_
        refine zJ_aload_n (n := 137) (j := 1) (x := a 0) d_La_law_136 rfl rfl rfl ?_
        refine zJ_aload_n (n := 138) (j := 0) (x := b) d_La_law_137 rfl rfl rfl ?_
        refine zJ_iload_n (n := 139) (j := 3) (x := x3) d_La_law_138 rfl rfl rfl ?_
        refine zJ_iconst (n := 140) (v := 1) d_La_law_139 rfl zci_1 ?_
        refine zJ_iadd (n := 141) d_La_law_140 rfl ?_
        obtain ⟨g141, h⟩ := zgd h
        refine zJ_sld (n := 142) d_La_law_141 rfl g141 ?_
        refine zJ_aload_n (n := 143) (j := 0) (x := b) d_La_law_142 rfl rfl rfl ?_
        refine zJ_iload_n (n := 144) (j := 3) (x := x3) d_La_law_143 rfl rfl rfl ?_
        refine zJ_iconst (n := 145) (v := 2) d_La_law_144 rfl zci_2 ?_
        refine zJ_iadd (n := 146) d_La_law_145 rfl ?_
        obtain ⟨g146, h⟩ := zgd h
        refine zJ_sld (n := 147) d_La_law_146 rfl g146 ?_
        refine zJ_aload_n (n := 148) (j := 0) (x := b) d_La_law_147 rfl rfl rfl ?_
        refine zJ_iload_n (n := 149) (j := 3) (x := x3) d_La_law_148 rfl rfl rfl ?_
        refine zJ_iconst (n := 150) (v := 3) d_La_law_149 rfl zci_3 ?_
        refine zJ_iadd (n := 151) d_La_law_150 rfl ?_
        obtain ⟨g151, h⟩ := zgd h
        refine zJ_sld (n := 152) d_La_law_151 rfl g151 ?_
        obtain ⟨q152, hq152, h⟩ := zbd h
        refine zJ_callVs (n := 155) (k0 := 0) (avs := [.int (xs (x3 + (1 : Int32)).toNatClampNeg), .int (xs (x3 + (2 : Int32)).toNatClampNeg), .int (xs (x3 + (3 : Int32)).toNatClampNeg)]) (rest := []) (z := q152) (d' := 6) d_La_law_152 rfl (vk_La_21 D tt) rfl rfl rfl (Nat.le_of_ble_eq_true rfl) (by decide) (t_ED_hash (by decide) hq152) ?_
        refine zJ_aload_n (n := 156) (j := 2) (x := a 45) d_La_law_155 rfl rfl rfl ?_
        refine zJ_aload_n (n := 157) (j := 0) (x := b) d_La_law_156 rfl rfl rfl ?_
        refine zJ_iload_n (n := 158) (j := 3) (x := x3) d_La_law_157 rfl rfl rfl ?_
        refine zJ_iconst (n := 159) (v := 1) d_La_law_158 rfl zci_1 ?_
        refine zJ_iadd (n := 160) d_La_law_159 rfl ?_
        obtain ⟨g160, h⟩ := zgd h
        refine zJ_sld (n := 161) d_La_law_160 rfl g160 ?_
        refine zJ_aload_n (n := 162) (j := 0) (x := b) d_La_law_161 rfl rfl rfl ?_
        refine zJ_iload_n (n := 163) (j := 3) (x := x3) d_La_law_162 rfl rfl rfl ?_
        refine zJ_iconst (n := 164) (v := 2) d_La_law_163 rfl zci_2 ?_
        refine zJ_iadd (n := 165) d_La_law_164 rfl ?_
        obtain ⟨g165, h⟩ := zgd h
        refine zJ_sld (n := 166) d_La_law_165 rfl g165 ?_
        refine zJ_aload_n (n := 167) (j := 0) (x := b) d_La_law_166 rfl rfl rfl ?_
        refine zJ_iload_n (n := 168) (j := 3) (x := x3) d_La_law_167 rfl rfl rfl ?_
        refine zJ_iconst (n := 169) (v := 3) d_La_law_168 rfl zci_3 ?_
        refine zJ_iadd (n := 170) d_La_law_169 rfl ?_
        obtain ⟨g170, h⟩ := zgd h
        refine zJ_sld (n := 171) d_La_law_170 rfl g170 ?_
        obtain ⟨q171, hq171, h⟩ := zbd h
        refine zJ_callVs (n := 174) (k0 := 45) (avs := [.int (xs (x3 + (1 : Int32)).toNatClampNeg), .int (xs (x3 + (2 : Int32)).toNatClampNeg), .int (xs (x3 + (3 : Int32)).toNatClampNeg)]) (rest := [.int q152.1]) (z := q171) (d' := 6) d_La_law_171 rfl (vk_La_25 D tt) rfl rfl rfl (Nat.le_of_ble_eq_true rfl) (by decide) (t_Mo_hash (by decide) hq171) ?_
        refine zJ_icmp_eq (t := 836) (n := 177) d_La_law_174 (by decide) rfl (fun hc => ?_) (fun hc => ?_)
        · rw [if_pos hc] at h
          obtain ⟨v836, hv836, h⟩ := zli h
          refine zJ_iincC (n := 839) (j := 3) (x := x3) (v := 6) (x' := v836) d_La_law_836 rfl rfl zci_6 (Nat.le_of_ble_eq_true rfl) hv836 ?_
          refine zJ_goto (t := 28) d_La_law_839 (by decide) ?_
          exact ih _ _ h
        · rw [if_neg hc] at h
          refine zJ_iconst (n := 178) (v := 0) d_La_law_177 rfl zci_0 ?_
          cases h
          exact absurd (show (0 : Int32) = 1 from hz) (by decide)
      · rw [if_neg hc0] at h
        by_cases hc1 : ((xs x3.toNatClampNeg) &&& (31 : Int32)) = 1
        · rw [if_pos hc1] at h
          refine zJ_tableIn (t := 179) d_La_law_43 (by rw [hc1]; decide) (by rw [hc1]; decide) (by rw [hc1]; rfl) (by decide) ?_
          refine zJ_aload_n (n := 180) (j := 1) (x := a 0) d_La_law_179 rfl rfl rfl ?_
          refine zJ_aload_n (n := 181) (j := 0) (x := b) d_La_law_180 rfl rfl rfl ?_
          refine zJ_iload_n (n := 182) (j := 3) (x := x3) d_La_law_181 rfl rfl rfl ?_
          refine zJ_iconst (n := 183) (v := 1) d_La_law_182 rfl zci_1 ?_
          refine zJ_iadd (n := 184) d_La_law_183 rfl ?_
          obtain ⟨g184, h⟩ := zgd h
          refine zJ_sld (n := 185) d_La_law_184 rfl g184 ?_
          refine zJ_aload_n (n := 186) (j := 0) (x := b) d_La_law_185 rfl rfl rfl ?_
          refine zJ_iload_n (n := 187) (j := 3) (x := x3) d_La_law_186 rfl rfl rfl ?_
          refine zJ_iconst (n := 188) (v := 2) d_La_law_187 rfl zci_2 ?_
          refine zJ_iadd (n := 189) d_La_law_188 rfl ?_
          obtain ⟨g189, h⟩ := zgd h
          refine zJ_sld (n := 190) d_La_law_189 rfl g189 ?_
          obtain ⟨q190, hq190, h⟩ := zbd h
          refine zJ_callVs (n := 193) (k0 := 0) (avs := [.int (xs (x3 + (1 : Int32)).toNatClampNeg), .int (xs (x3 + (2 : Int32)).toNatClampNeg)]) (rest := []) (z := q190) (d' := 6) d_La_law_190 rfl (vk_La_26 D tt) rfl rfl rfl (Nat.le_of_ble_eq_true rfl) (by decide) (t_ED_put (by decide) hq190) ?_
          refine zJ_aload_n (n := 194) (j := 2) (x := a 45) d_La_law_193 rfl rfl rfl ?_
          refine zJ_aload_n (n := 195) (j := 0) (x := b) d_La_law_194 rfl rfl rfl ?_
          refine zJ_iload_n (n := 196) (j := 3) (x := x3) d_La_law_195 rfl rfl rfl ?_
          refine zJ_iconst (n := 197) (v := 1) d_La_law_196 rfl zci_1 ?_
          refine zJ_iadd (n := 198) d_La_law_197 rfl ?_
          obtain ⟨g198, h⟩ := zgd h
          refine zJ_sld (n := 199) d_La_law_198 rfl g198 ?_
          refine zJ_aload_n (n := 200) (j := 0) (x := b) d_La_law_199 rfl rfl rfl ?_
          refine zJ_iload_n (n := 201) (j := 3) (x := x3) d_La_law_200 rfl rfl rfl ?_
          refine zJ_iconst (n := 202) (v := 2) d_La_law_201 rfl zci_2 ?_
          refine zJ_iadd (n := 203) d_La_law_202 rfl ?_
          obtain ⟨g203, h⟩ := zgd h
          refine zJ_sld (n := 204) d_La_law_203 rfl g203 ?_
          obtain ⟨q204, hq204, h⟩ := zbd h
          refine zJ_callVs (n := 207) (k0 := 45) (avs := [.int (xs (x3 + (1 : Int32)).toNatClampNeg), .int (xs (x3 + (2 : Int32)).toNatClampNeg)]) (rest := [.int q190.1]) (z := q204) (d' := 6) d_La_law_204 rfl (vk_La_30 D tt) rfl rfl rfl (Nat.le_of_ble_eq_true rfl) (by decide) (t_Mo_put (by decide) hq204) ?_
          refine zJ_icmp_eq (t := 836) (n := 210) d_La_law_207 (by decide) rfl (fun hc => ?_) (fun hc => ?_)
          · rw [if_pos hc] at h
            obtain ⟨v836, hv836, h⟩ := zli h
            refine zJ_iincC (n := 839) (j := 3) (x := x3) (v := 6) (x' := v836) d_La_law_836 rfl rfl zci_6 (Nat.le_of_ble_eq_true rfl) hv836 ?_
            refine zJ_goto (t := 28) d_La_law_839 (by decide) ?_
            exact ih _ _ h
          · rw [if_neg hc] at h
            refine zJ_iconst (n := 211) (v := 0) d_La_law_210 rfl zci_0 ?_
            cases h
            exact absurd (show (0 : Int32) = 1 from hz) (by decide)
        · rw [if_neg hc1] at h
          by_cases hc2 : ((xs x3.toNatClampNeg) &&& (31 : Int32)) = 2
          · rw [if_pos hc2] at h
            refine zJ_tableIn (t := 212) d_La_law_43 (by rw [hc2]; decide) (by rw [hc2]; decide) (by rw [hc2]; rfl) (by decide) ?_
            refine zJ_aload_n (n := 213) (j := 1) (x := a 0) d_La_law_212 rfl rfl rfl ?_
            obtain ⟨q213, hq213, h⟩ := zbd h
            refine zJ_callVs (n := 216) (k0 := 0) (avs := []) (rest := []) (z := q213) (d' := 6) d_La_law_213 rfl (vk_La_31 D tt) rfl rfl rfl (Nat.le_of_ble_eq_true rfl) (by decide) (t_ED_close (by decide) hq213) ?_
            refine zJ_aload_n (n := 217) (j := 2) (x := a 45) d_La_law_216 rfl rfl rfl ?_
            obtain ⟨q217, hq217, h⟩ := zbd h
            refine zJ_callVs (n := 220) (k0 := 45) (avs := []) (rest := [.int q213.1]) (z := q217) (d' := 6) d_La_law_217 rfl (vk_La_35 D tt) rfl rfl rfl (Nat.le_of_ble_eq_true rfl) (by decide) (t_Mo_close (by decide) hq217) ?_
            refine zJ_icmp_eq (t := 836) (n := 223) d_La_law_220 (by decide) rfl (fun hc => ?_) (fun hc => ?_)
            · rw [if_pos hc] at h
              obtain ⟨v836, hv836, h⟩ := zli h
              refine zJ_iincC (n := 839) (j := 3) (x := x3) (v := 6) (x' := v836) d_La_law_836 rfl rfl zci_6 (Nat.le_of_ble_eq_true rfl) hv836 ?_
              refine zJ_goto (t := 28) d_La_law_839 (by decide) ?_
              exact ih _ _ h
            · rw [if_neg hc] at h
              refine zJ_iconst (n := 224) (v := 0) d_La_law_223 rfl zci_0 ?_
              cases h
              exact absurd (show (0 : Int32) = 1 from hz) (by decide)
          · rw [if_neg hc2] at h
            by_cases hc3 : ((xs x3.toNatClampNeg) &&& (31 : Int32)) = 3
            · rw [if_pos hc3] at h
              refine zJ_tableIn (t := 225) d_La_law_43 (by rw [hc3]; decide) (by rw [hc3]; decide) (by rw [hc3]; rfl) (by decide) ?_
              refine zJ_aload_n (n := 226) (j := 1) (x := a 0) d_La_law_225 rfl rfl rfl ?_
              refine zJ_aload_n (n := 227) (j := 0) (x := b) d_La_law_226 rfl rfl rfl ?_
              refine zJ_iload_n (n := 228) (j := 3) (x := x3) d_La_law_227 rfl rfl rfl ?_
              refine zJ_iconst (n := 229) (v := 1) d_La_law_228 rfl zci_1 ?_
              refine zJ_iadd (n := 230) d_La_law_229 rfl ?_
              obtain ⟨g230, h⟩ := zgd h
              refine zJ_sld (n := 231) d_La_law_230 rfl g230 ?_
              obtain ⟨q231, hq231, h⟩ := zbd h
              refine zJ_callVs (n := 234) (k0 := 0) (avs := [.int (xs (x3 + (1 : Int32)).toNatClampNeg)]) (rest := []) (z := q231) (d' := 6) d_La_law_231 rfl (vk_La_36 D tt) rfl rfl rfl (Nat.le_of_ble_eq_true rfl) (by decide) (t_ED_fuse (by decide) hq231) ?_
              refine zJ_aload_n (n := 235) (j := 2) (x := a 45) d_La_law_234 rfl rfl rfl ?_
              refine zJ_aload_n (n := 236) (j := 0) (x := b) d_La_law_235 rfl rfl rfl ?_
              refine zJ_iload_n (n := 237) (j := 3) (x := x3) d_La_law_236 rfl rfl rfl ?_
              refine zJ_iconst (n := 238) (v := 1) d_La_law_237 rfl zci_1 ?_
              refine zJ_iadd (n := 239) d_La_law_238 rfl ?_
              obtain ⟨g239, h⟩ := zgd h
              refine zJ_sld (n := 240) d_La_law_239 rfl g239 ?_
              obtain ⟨q240, hq240, h⟩ := zbd h
              refine zJ_callVs (n := 243) (k0 := 45) (avs := [.int (xs (x3 + (1 : Int32)).toNatClampNeg)]) (rest := [.int q231.1]) (z := q240) (d' := 6) d_La_law_240 rfl (vk_La_40 D tt) rfl rfl rfl (Nat.le_of_ble_eq_true rfl) (by decide) (t_Mo_fuse (by decide) hq240) ?_
              refine zJ_icmp_eq (t := 836) (n := 246) d_La_law_243 (by decide) rfl (fun hc => ?_) (fun hc => ?_)
              · rw [if_pos hc] at h
                obtain ⟨v836, hv836, h⟩ := zli h
                refine zJ_iincC (n := 839) (j := 3) (x := x3) (v := 6) (x' := v836) d_La_law_836 rfl rfl zci_6 (Nat.le_of_ble_eq_true rfl) hv836 ?_
                refine zJ_goto (t := 28) d_La_law_839 (by decide) ?_
                exact ih _ _ h
              · rw [if_neg hc] at h
                refine zJ_iconst (n := 247) (v := 0) d_La_law_246 rfl zci_0 ?_
                cases h
                exact absurd (show (0 : Int32) = 1 from hz) (by decide)
            · rw [if_neg hc3] at h
              by_cases hc4 : ((xs x3.toNatClampNeg) &&& (31 : Int32)) = 4
              · rw [if_pos hc4] at h
                refine zJ_tableIn (t := 248) d_La_law_43 (by rw [hc4]; decide) (by rw [hc4]; decide) (by rw [hc4]; rfl) (by decide) ?_
                refine zJ_aload_n (n := 249) (j := 1) (x := a 0) d_La_law_248 rfl rfl rfl ?_
                obtain ⟨q249, hq249, h⟩ := zbd h
                refine zJ_callVs (n := 252) (k0 := 0) (avs := []) (rest := []) (z := q249) (d' := 6) d_La_law_249 rfl (vk_La_41 D tt) rfl rfl rfl (Nat.le_of_ble_eq_true rfl) (by decide) (t_ED_restart (by decide) hq249) ?_
                refine zJ_aload_n (n := 253) (j := 2) (x := a 45) d_La_law_252 rfl rfl rfl ?_
                obtain ⟨q253, hq253, h⟩ := zbd h
                refine zJ_callVs (n := 256) (k0 := 45) (avs := []) (rest := [.int q249.1]) (z := q253) (d' := 6) d_La_law_253 rfl (vk_La_44 D tt) rfl rfl rfl (Nat.le_of_ble_eq_true rfl) (by decide) (t_Mo_restart (by decide) hq253) ?_
                refine zJ_icmp_eq (t := 836) (n := 259) d_La_law_256 (by decide) rfl (fun hc => ?_) (fun hc => ?_)
                · rw [if_pos hc] at h
                  obtain ⟨v836, hv836, h⟩ := zli h
                  refine zJ_iincC (n := 839) (j := 3) (x := x3) (v := 6) (x' := v836) d_La_law_836 rfl rfl zci_6 (Nat.le_of_ble_eq_true rfl) hv836 ?_
                  refine zJ_goto (t := 28) d_La_law_839 (by decide) ?_
                  exact ih _ _ h
                · rw [if_neg hc] at h
                  refine zJ_iconst (n := 260) (v := 0) d_La_law_259 rfl zci_0 ?_
                  cases h
                  exact absurd (show (0 : Int32) = 1 from hz) (by decide)
              · rw [if_neg hc4] at h
                by_cases hc5 : ((xs x3.toNatClampNeg) &&& (31 : Int32)) = 5
                · rw [if_pos hc5] at h
                  refine zJ_tableIn (t := 261) d_La_law_43 (by rw [hc5]; decide) (by rw [hc5]; decide) (by rw [hc5]; rfl) (by decide) ?_
                  refine zJ_aload_n (n := 262) (j := 1) (x := a 0) d_La_law_261 rfl rfl rfl ?_
                  refine zJ_aload_n (n := 263) (j := 0) (x := b) d_La_law_262 rfl rfl rfl ?_
                  refine zJ_iload_n (n := 264) (j := 3) (x := x3) d_La_law_263 rfl rfl rfl ?_
                  refine zJ_iconst (n := 265) (v := 1) d_La_law_264 rfl zci_1 ?_
                  refine zJ_iadd (n := 266) d_La_law_265 rfl ?_
                  obtain ⟨g266, h⟩ := zgd h
                  refine zJ_sld (n := 267) d_La_law_266 rfl g266 ?_
                  obtain ⟨q267, hq267, h⟩ := zbd h
                  refine zJ_callVs (n := 270) (k0 := 0) (avs := [.int (xs (x3 + (1 : Int32)).toNatClampNeg)]) (rest := []) (z := q267) (d' := 6) d_La_law_267 rfl (vk_La_45 D tt) rfl rfl rfl (Nat.le_of_ble_eq_true rfl) (by decide) (t_ED_root (by decide) hq267) ?_
                  refine zJ_aload_n (n := 271) (j := 2) (x := a 45) d_La_law_270 rfl rfl rfl ?_
                  refine zJ_aload_n (n := 272) (j := 0) (x := b) d_La_law_271 rfl rfl rfl ?_
                  refine zJ_iload_n (n := 273) (j := 3) (x := x3) d_La_law_272 rfl rfl rfl ?_
                  refine zJ_iconst (n := 274) (v := 1) d_La_law_273 rfl zci_1 ?_
                  refine zJ_iadd (n := 275) d_La_law_274 rfl ?_
                  obtain ⟨g275, h⟩ := zgd h
                  refine zJ_sld (n := 276) d_La_law_275 rfl g275 ?_
                  obtain ⟨q276, hq276, h⟩ := zbd h
                  refine zJ_callVs (n := 279) (k0 := 45) (avs := [.int (xs (x3 + (1 : Int32)).toNatClampNeg)]) (rest := [.int q267.1]) (z := q276) (d' := 6) d_La_law_276 rfl (vk_La_49 D tt) rfl rfl rfl (Nat.le_of_ble_eq_true rfl) (by decide) (t_Mo_root (by decide) hq276) ?_
                  refine zJ_icmp_eq (t := 836) (n := 282) d_La_law_279 (by decide) rfl (fun hc => ?_) (fun hc => ?_)
                  · rw [if_pos hc] at h
                    obtain ⟨v836, hv836, h⟩ := zli h
                    refine zJ_iincC (n := 839) (j := 3) (x := x3) (v := 6) (x' := v836) d_La_law_836 rfl rfl zci_6 (Nat.le_of_ble_eq_true rfl) hv836 ?_
                    refine zJ_goto (t := 28) d_La_law_839 (by decide) ?_
                    exact ih _ _ h
                  · rw [if_neg hc] at h
                    refine zJ_iconst (n := 283) (v := 0) d_La_law_282 rfl zci_0 ?_
                    cases h
                    exact absurd (show (0 : Int32) = 1 from hz) (by decide)
                · rw [if_neg hc5] at h
                  by_cases hc6 : ((xs x3.toNatClampNeg) &&& (31 : Int32)) = 6
                  · rw [if_pos hc6] at h
                    refine zJ_tableIn (t := 284) d_La_law_43 (by rw [hc6]; decide) (by rw [hc6]; decide) (by rw [hc6]; rfl) (by decide) ?_
                    refine zJ_aload_n (n := 285) (j := 1) (x := a 0) d_La_law_284 rfl rfl rfl ?_
                    refine zJ_aload_n (n := 286) (j := 0) (x := b) d_La_law_285 rfl rfl rfl ?_
                    refine zJ_iload_n (n := 287) (j := 3) (x := x3) d_La_law_286 rfl rfl rfl ?_
                    refine zJ_iconst (n := 288) (v := 1) d_La_law_287 rfl zci_1 ?_
                    refine zJ_iadd (n := 289) d_La_law_288 rfl ?_
                    obtain ⟨g289, h⟩ := zgd h
                    refine zJ_sld (n := 290) d_La_law_289 rfl g289 ?_
                    obtain ⟨q290, hq290, h⟩ := zbd h
                    refine zJ_callVs (n := 293) (k0 := 0) (avs := [.int (xs (x3 + (1 : Int32)).toNatClampNeg)]) (rest := []) (z := q290) (d' := 6) d_La_law_290 rfl (vk_La_50 D tt) rfl rfl rfl (Nat.le_of_ble_eq_true rfl) (by decide) (t_ED_head (by decide) hq290) ?_
                    refine zJ_aload_n (n := 294) (j := 2) (x := a 45) d_La_law_293 rfl rfl rfl ?_
                    refine zJ_aload_n (n := 295) (j := 0) (x := b) d_La_law_294 rfl rfl rfl ?_
                    refine zJ_iload_n (n := 296) (j := 3) (x := x3) d_La_law_295 rfl rfl rfl ?_
                    refine zJ_iconst (n := 297) (v := 1) d_La_law_296 rfl zci_1 ?_
                    refine zJ_iadd (n := 298) d_La_law_297 rfl ?_
                    obtain ⟨g298, h⟩ := zgd h
                    refine zJ_sld (n := 299) d_La_law_298 rfl g298 ?_
                    obtain ⟨q299, hq299, h⟩ := zbd h
                    refine zJ_callVs (n := 302) (k0 := 45) (avs := [.int (xs (x3 + (1 : Int32)).toNatClampNeg)]) (rest := [.int q290.1]) (z := q299) (d' := 6) d_La_law_299 rfl (vk_La_53 D tt) rfl rfl rfl (Nat.le_of_ble_eq_true rfl) (by decide) (t_Mo_head (by decide) hq299) ?_
                    refine zJ_icmp_eq (t := 836) (n := 305) d_La_law_302 (by decide) rfl (fun hc => ?_) (fun hc => ?_)
                    · rw [if_pos hc] at h
                      obtain ⟨v836, hv836, h⟩ := zli h
                      refine zJ_iincC (n := 839) (j := 3) (x := x3) (v := 6) (x' := v836) d_La_law_836 rfl rfl zci_6 (Nat.le_of_ble_eq_true rfl) hv836 ?_
                      refine zJ_goto (t := 28) d_La_law_839 (by decide) ?_
                      exact ih _ _ h
                    · rw [if_neg hc] at h
                      refine zJ_iconst (n := 306) (v := 0) d_La_law_305 rfl zci_0 ?_
                      cases h
                      exact absurd (show (0 : Int32) = 1 from hz) (by decide)
                  · rw [if_neg hc6] at h
                    by_cases hc7 : ((xs x3.toNatClampNeg) &&& (31 : Int32)) = 7
                    · rw [if_pos hc7] at h
                      refine zJ_tableIn (t := 307) d_La_law_43 (by rw [hc7]; decide) (by rw [hc7]; decide) (by rw [hc7]; rfl) (by decide) ?_
                      refine zJ_aload_n (n := 308) (j := 1) (x := a 0) d_La_law_307 rfl rfl rfl ?_
                      refine zJ_aload_n (n := 309) (j := 0) (x := b) d_La_law_308 rfl rfl rfl ?_
                      refine zJ_iload_n (n := 310) (j := 3) (x := x3) d_La_law_309 rfl rfl rfl ?_
                      refine zJ_iconst (n := 311) (v := 1) d_La_law_310 rfl zci_1 ?_
                      refine zJ_iadd (n := 312) d_La_law_311 rfl ?_
                      obtain ⟨g312, h⟩ := zgd h
                      refine zJ_sld (n := 313) d_La_law_312 rfl g312 ?_
                      refine zJ_aload_n (n := 314) (j := 0) (x := b) d_La_law_313 rfl rfl rfl ?_
                      refine zJ_iload_n (n := 315) (j := 3) (x := x3) d_La_law_314 rfl rfl rfl ?_
                      refine zJ_iconst (n := 316) (v := 2) d_La_law_315 rfl zci_2 ?_
                      refine zJ_iadd (n := 317) d_La_law_316 rfl ?_
                      obtain ⟨g317, h⟩ := zgd h
                      refine zJ_sld (n := 318) d_La_law_317 rfl g317 ?_
                      obtain ⟨q318, hq318, h⟩ := zbd h
                      refine zJ_callVs (n := 321) (k0 := 0) (avs := [.int (xs (x3 + (1 : Int32)).toNatClampNeg), .int (xs (x3 + (2 : Int32)).toNatClampNeg)]) (rest := []) (z := q318) (d' := 6) d_La_law_318 rfl (vk_La_54 D tt) rfl rfl rfl (Nat.le_of_ble_eq_true rfl) (by decide) (t_ED_block (by decide) hq318) ?_
                      refine zJ_aload_n (n := 322) (j := 2) (x := a 45) d_La_law_321 rfl rfl rfl ?_
                      refine zJ_aload_n (n := 323) (j := 0) (x := b) d_La_law_322 rfl rfl rfl ?_
                      refine zJ_iload_n (n := 324) (j := 3) (x := x3) d_La_law_323 rfl rfl rfl ?_
                      refine zJ_iconst (n := 325) (v := 1) d_La_law_324 rfl zci_1 ?_
                      refine zJ_iadd (n := 326) d_La_law_325 rfl ?_
                      obtain ⟨g326, h⟩ := zgd h
                      refine zJ_sld (n := 327) d_La_law_326 rfl g326 ?_
                      refine zJ_aload_n (n := 328) (j := 0) (x := b) d_La_law_327 rfl rfl rfl ?_
                      refine zJ_iload_n (n := 329) (j := 3) (x := x3) d_La_law_328 rfl rfl rfl ?_
                      refine zJ_iconst (n := 330) (v := 2) d_La_law_329 rfl zci_2 ?_
                      refine zJ_iadd (n := 331) d_La_law_330 rfl ?_
                      obtain ⟨g331, h⟩ := zgd h
                      refine zJ_sld (n := 332) d_La_law_331 rfl g331 ?_
                      obtain ⟨q332, hq332, h⟩ := zbd h
                      refine zJ_callVs (n := 335) (k0 := 45) (avs := [.int (xs (x3 + (1 : Int32)).toNatClampNeg), .int (xs (x3 + (2 : Int32)).toNatClampNeg)]) (rest := [.int q318.1]) (z := q332) (d' := 6) d_La_law_332 rfl (vk_La_57 D tt) rfl rfl rfl (Nat.le_of_ble_eq_true rfl) (by decide) (t_Mo_block (by decide) hq332) ?_
                      refine zJ_icmp_eq (t := 836) (n := 338) d_La_law_335 (by decide) rfl (fun hc => ?_) (fun hc => ?_)
                      · rw [if_pos hc] at h
                        obtain ⟨v836, hv836, h⟩ := zli h
                        refine zJ_iincC (n := 839) (j := 3) (x := x3) (v := 6) (x' := v836) d_La_law_836 rfl rfl zci_6 (Nat.le_of_ble_eq_true rfl) hv836 ?_
                        refine zJ_goto (t := 28) d_La_law_839 (by decide) ?_
                        exact ih _ _ h
                      · rw [if_neg hc] at h
                        refine zJ_iconst (n := 339) (v := 0) d_La_law_338 rfl zci_0 ?_
                        cases h
                        exact absurd (show (0 : Int32) = 1 from hz) (by decide)
                    · rw [if_neg hc7] at h
                      by_cases hc8 : ((xs x3.toNatClampNeg) &&& (31 : Int32)) = 8
                      · rw [if_pos hc8] at h
                        refine zJ_tableIn (t := 340) d_La_law_43 (by rw [hc8]; decide) (by rw [hc8]; decide) (by rw [hc8]; rfl) (by decide) ?_
                        refine zJ_aload_n (n := 341) (j := 1) (x := a 0) d_La_law_340 rfl rfl rfl ?_
                        refine zJ_aload_n (n := 342) (j := 0) (x := b) d_La_law_341 rfl rfl rfl ?_
                        refine zJ_iload_n (n := 343) (j := 3) (x := x3) d_La_law_342 rfl rfl rfl ?_
                        refine zJ_iconst (n := 344) (v := 1) d_La_law_343 rfl zci_1 ?_
                        refine zJ_iadd (n := 345) d_La_law_344 rfl ?_
                        obtain ⟨g345, h⟩ := zgd h
                        refine zJ_sld (n := 346) d_La_law_345 rfl g345 ?_
                        obtain ⟨q346, hq346, h⟩ := zbd h
                        refine zJ_callVs (n := 349) (k0 := 0) (avs := [.int (xs (x3 + (1 : Int32)).toNatClampNeg)]) (rest := []) (z := q346) (d' := 6) d_La_law_346 rfl (vk_La_58 D tt) rfl rfl rfl (Nat.le_of_ble_eq_true rfl) (by decide) (t_ED_size (by decide) hq346) ?_
                        refine zJ_aload_n (n := 350) (j := 2) (x := a 45) d_La_law_349 rfl rfl rfl ?_
                        refine zJ_aload_n (n := 351) (j := 0) (x := b) d_La_law_350 rfl rfl rfl ?_
                        refine zJ_iload_n (n := 352) (j := 3) (x := x3) d_La_law_351 rfl rfl rfl ?_
                        refine zJ_iconst (n := 353) (v := 1) d_La_law_352 rfl zci_1 ?_
                        refine zJ_iadd (n := 354) d_La_law_353 rfl ?_
                        obtain ⟨g354, h⟩ := zgd h
                        refine zJ_sld (n := 355) d_La_law_354 rfl g354 ?_
                        obtain ⟨q355, hq355, h⟩ := zbd h
                        refine zJ_callVs (n := 358) (k0 := 45) (avs := [.int (xs (x3 + (1 : Int32)).toNatClampNeg)]) (rest := [.int q346.1]) (z := q355) (d' := 6) d_La_law_355 rfl (vk_La_61 D tt) rfl rfl rfl (Nat.le_of_ble_eq_true rfl) (by decide) (t_Mo_size (by decide) hq355) ?_
                        refine zJ_icmp_eq (t := 836) (n := 361) d_La_law_358 (by decide) rfl (fun hc => ?_) (fun hc => ?_)
                        · rw [if_pos hc] at h
                          obtain ⟨v836, hv836, h⟩ := zli h
                          refine zJ_iincC (n := 839) (j := 3) (x := x3) (v := 6) (x' := v836) d_La_law_836 rfl rfl zci_6 (Nat.le_of_ble_eq_true rfl) hv836 ?_
                          refine zJ_goto (t := 28) d_La_law_839 (by decide) ?_
                          exact ih _ _ h
                        · rw [if_neg hc] at h
                          refine zJ_iconst (n := 362) (v := 0) d_La_law_361 rfl zci_0 ?_
                          cases h
                          exact absurd (show (0 : Int32) = 1 from hz) (by decide)
                      · rw [if_neg hc8] at h
                        by_cases hc9 : ((xs x3.toNatClampNeg) &&& (31 : Int32)) = 9
                        · rw [if_pos hc9] at h
                          refine zJ_tableIn (t := 363) d_La_law_43 (by rw [hc9]; decide) (by rw [hc9]; decide) (by rw [hc9]; rfl) (by decide) ?_
                          refine zJ_aload_n (n := 364) (j := 1) (x := a 0) d_La_law_363 rfl rfl rfl ?_
                          refine zJ_aload_n (n := 365) (j := 0) (x := b) d_La_law_364 rfl rfl rfl ?_
                          refine zJ_iload_n (n := 366) (j := 3) (x := x3) d_La_law_365 rfl rfl rfl ?_
                          refine zJ_iconst (n := 367) (v := 1) d_La_law_366 rfl zci_1 ?_
                          refine zJ_iadd (n := 368) d_La_law_367 rfl ?_
                          obtain ⟨g368, h⟩ := zgd h
                          refine zJ_sld (n := 369) d_La_law_368 rfl g368 ?_
                          refine zJ_aload_n (n := 370) (j := 0) (x := b) d_La_law_369 rfl rfl rfl ?_
                          refine zJ_iload_n (n := 371) (j := 3) (x := x3) d_La_law_370 rfl rfl rfl ?_
                          refine zJ_iconst (n := 372) (v := 2) d_La_law_371 rfl zci_2 ?_
                          refine zJ_iadd (n := 373) d_La_law_372 rfl ?_
                          obtain ⟨g373, h⟩ := zgd h
                          refine zJ_sld (n := 374) d_La_law_373 rfl g373 ?_
                          refine zJ_aload_n (n := 375) (j := 0) (x := b) d_La_law_374 rfl rfl rfl ?_
                          refine zJ_iload_n (n := 376) (j := 3) (x := x3) d_La_law_375 rfl rfl rfl ?_
                          refine zJ_iconst (n := 377) (v := 3) d_La_law_376 rfl zci_3 ?_
                          refine zJ_iadd (n := 378) d_La_law_377 rfl ?_
                          obtain ⟨g378, h⟩ := zgd h
                          refine zJ_sld (n := 379) d_La_law_378 rfl g378 ?_
                          refine zJ_aload_n (n := 380) (j := 0) (x := b) d_La_law_379 rfl rfl rfl ?_
                          refine zJ_iload_n (n := 381) (j := 3) (x := x3) d_La_law_380 rfl rfl rfl ?_
                          refine zJ_iconst (n := 382) (v := 4) d_La_law_381 rfl zci_4 ?_
                          refine zJ_iadd (n := 383) d_La_law_382 rfl ?_
                          obtain ⟨g383, h⟩ := zgd h
                          refine zJ_sld (n := 384) d_La_law_383 rfl g383 ?_
                          obtain ⟨q384, hq384, h⟩ := zbd h
                          refine zJ_callVs (n := 387) (k0 := 0) (avs := [.int (xs (x3 + (1 : Int32)).toNatClampNeg), .int (xs (x3 + (2 : Int32)).toNatClampNeg), .int (xs (x3 + (3 : Int32)).toNatClampNeg), .int (xs (x3 + (4 : Int32)).toNatClampNeg)]) (rest := []) (z := q384) (d' := 6) d_La_law_384 rfl (vk_La_62 D tt) rfl rfl rfl (Nat.le_of_ble_eq_true rfl) (by decide) (t_ED_prove (by decide) hq384) ?_
                          refine zJ_aload_n (n := 388) (j := 2) (x := a 45) d_La_law_387 rfl rfl rfl ?_
                          refine zJ_aload_n (n := 389) (j := 0) (x := b) d_La_law_388 rfl rfl rfl ?_
                          refine zJ_iload_n (n := 390) (j := 3) (x := x3) d_La_law_389 rfl rfl rfl ?_
                          refine zJ_iconst (n := 391) (v := 1) d_La_law_390 rfl zci_1 ?_
                          refine zJ_iadd (n := 392) d_La_law_391 rfl ?_
                          obtain ⟨g392, h⟩ := zgd h
                          refine zJ_sld (n := 393) d_La_law_392 rfl g392 ?_
                          refine zJ_aload_n (n := 394) (j := 0) (x := b) d_La_law_393 rfl rfl rfl ?_
                          refine zJ_iload_n (n := 395) (j := 3) (x := x3) d_La_law_394 rfl rfl rfl ?_
                          refine zJ_iconst (n := 396) (v := 2) d_La_law_395 rfl zci_2 ?_
                          refine zJ_iadd (n := 397) d_La_law_396 rfl ?_
                          obtain ⟨g397, h⟩ := zgd h
                          refine zJ_sld (n := 398) d_La_law_397 rfl g397 ?_
                          refine zJ_aload_n (n := 399) (j := 0) (x := b) d_La_law_398 rfl rfl rfl ?_
                          refine zJ_iload_n (n := 400) (j := 3) (x := x3) d_La_law_399 rfl rfl rfl ?_
                          refine zJ_iconst (n := 401) (v := 3) d_La_law_400 rfl zci_3 ?_
                          refine zJ_iadd (n := 402) d_La_law_401 rfl ?_
                          obtain ⟨g402, h⟩ := zgd h
                          refine zJ_sld (n := 403) d_La_law_402 rfl g402 ?_
                          refine zJ_aload_n (n := 404) (j := 0) (x := b) d_La_law_403 rfl rfl rfl ?_
                          refine zJ_iload_n (n := 405) (j := 3) (x := x3) d_La_law_404 rfl rfl rfl ?_
                          refine zJ_iconst (n := 406) (v := 4) d_La_law_405 rfl zci_4 ?_
                          refine zJ_iadd (n := 407) d_La_law_406 rfl ?_
                          obtain ⟨g407, h⟩ := zgd h
                          refine zJ_sld (n := 408) d_La_law_407 rfl g407 ?_
                          obtain ⟨q408, hq408, h⟩ := zbd h
                          refine zJ_callVs (n := 411) (k0 := 45) (avs := [.int (xs (x3 + (1 : Int32)).toNatClampNeg), .int (xs (x3 + (2 : Int32)).toNatClampNeg), .int (xs (x3 + (3 : Int32)).toNatClampNeg), .int (xs (x3 + (4 : Int32)).toNatClampNeg)]) (rest := [.int q384.1]) (z := q408) (d' := 6) d_La_law_408 rfl (vk_La_66 D tt) rfl rfl rfl (Nat.le_of_ble_eq_true rfl) (by decide) (t_Mo_prove (by decide) hq408) ?_
                          refine zJ_icmp_eq (t := 836) (n := 414) d_La_law_411 (by decide) rfl (fun hc => ?_) (fun hc => ?_)
                          · rw [if_pos hc] at h
                            obtain ⟨v836, hv836, h⟩ := zli h
                            refine zJ_iincC (n := 839) (j := 3) (x := x3) (v := 6) (x' := v836) d_La_law_836 rfl rfl zci_6 (Nat.le_of_ble_eq_true rfl) hv836 ?_
                            refine zJ_goto (t := 28) d_La_law_839 (by decide) ?_
                            exact ih _ _ h
                          · rw [if_neg hc] at h
                            refine zJ_iconst (n := 415) (v := 0) d_La_law_414 rfl zci_0 ?_
                            cases h
                            exact absurd (show (0 : Int32) = 1 from hz) (by decide)
                        · rw [if_neg hc9] at h
                          by_cases hc10 : ((xs x3.toNatClampNeg) &&& (31 : Int32)) = 10
                          · rw [if_pos hc10] at h
                            refine zJ_tableIn (t := 416) d_La_law_43 (by rw [hc10]; decide) (by rw [hc10]; decide) (by rw [hc10]; rfl) (by decide) ?_
                            refine zJ_aload_n (n := 417) (j := 1) (x := a 0) d_La_law_416 rfl rfl rfl ?_
                            refine zJ_aload_n (n := 418) (j := 0) (x := b) d_La_law_417 rfl rfl rfl ?_
                            refine zJ_iload_n (n := 419) (j := 3) (x := x3) d_La_law_418 rfl rfl rfl ?_
                            refine zJ_iconst (n := 420) (v := 1) d_La_law_419 rfl zci_1 ?_
                            refine zJ_iadd (n := 421) d_La_law_420 rfl ?_
                            obtain ⟨g421, h⟩ := zgd h
                            refine zJ_sld (n := 422) d_La_law_421 rfl g421 ?_
                            refine zJ_aload_n (n := 423) (j := 0) (x := b) d_La_law_422 rfl rfl rfl ?_
                            refine zJ_iload_n (n := 424) (j := 3) (x := x3) d_La_law_423 rfl rfl rfl ?_
                            refine zJ_iconst (n := 425) (v := 2) d_La_law_424 rfl zci_2 ?_
                            refine zJ_iadd (n := 426) d_La_law_425 rfl ?_
                            obtain ⟨g426, h⟩ := zgd h
                            refine zJ_sld (n := 427) d_La_law_426 rfl g426 ?_
                            obtain ⟨q427, hq427, h⟩ := zbd h
                            refine zJ_callVs (n := 430) (k0 := 0) (avs := [.int (xs (x3 + (1 : Int32)).toNatClampNeg), .int (xs (x3 + (2 : Int32)).toNatClampNeg)]) (rest := []) (z := q427) (d' := 6) d_La_law_427 rfl (vk_La_67 D tt) rfl rfl rfl (Nat.le_of_ble_eq_true rfl) (by decide) (t_ED_word (by decide) hq427) ?_
                            refine zJ_aload_n (n := 431) (j := 2) (x := a 45) d_La_law_430 rfl rfl rfl ?_
                            refine zJ_aload_n (n := 432) (j := 0) (x := b) d_La_law_431 rfl rfl rfl ?_
                            refine zJ_iload_n (n := 433) (j := 3) (x := x3) d_La_law_432 rfl rfl rfl ?_
                            refine zJ_iconst (n := 434) (v := 1) d_La_law_433 rfl zci_1 ?_
                            refine zJ_iadd (n := 435) d_La_law_434 rfl ?_
                            obtain ⟨g435, h⟩ := zgd h
                            refine zJ_sld (n := 436) d_La_law_435 rfl g435 ?_
                            refine zJ_aload_n (n := 437) (j := 0) (x := b) d_La_law_436 rfl rfl rfl ?_
                            refine zJ_iload_n (n := 438) (j := 3) (x := x3) d_La_law_437 rfl rfl rfl ?_
                            refine zJ_iconst (n := 439) (v := 2) d_La_law_438 rfl zci_2 ?_
                            refine zJ_iadd (n := 440) d_La_law_439 rfl ?_
                            obtain ⟨g440, h⟩ := zgd h
                            refine zJ_sld (n := 441) d_La_law_440 rfl g440 ?_
                            obtain ⟨q441, hq441, h⟩ := zbd h
                            refine zJ_callVs (n := 444) (k0 := 45) (avs := [.int (xs (x3 + (1 : Int32)).toNatClampNeg), .int (xs (x3 + (2 : Int32)).toNatClampNeg)]) (rest := [.int q427.1]) (z := q441) (d' := 6) d_La_law_441 rfl (vk_La_70 D tt) rfl rfl rfl (Nat.le_of_ble_eq_true rfl) (by decide) (t_Mo_word (by decide) hq441) ?_
                            refine zJ_icmp_eq (t := 836) (n := 447) d_La_law_444 (by decide) rfl (fun hc => ?_) (fun hc => ?_)
                            · rw [if_pos hc] at h
                              obtain ⟨v836, hv836, h⟩ := zli h
                              refine zJ_iincC (n := 839) (j := 3) (x := x3) (v := 6) (x' := v836) d_La_law_836 rfl rfl zci_6 (Nat.le_of_ble_eq_true rfl) hv836 ?_
                              refine zJ_goto (t := 28) d_La_law_839 (by decide) ?_
                              exact ih _ _ h
                            · rw [if_neg hc] at h
                              refine zJ_iconst (n := 448) (v := 0) d_La_law_447 rfl zci_0 ?_
                              cases h
                              exact absurd (show (0 : Int32) = 1 from hz) (by decide)
                          · rw [if_neg hc10] at h
                            by_cases hc11 : ((xs x3.toNatClampNeg) &&& (31 : Int32)) = 11
                            · rw [if_pos hc11] at h
                              refine zJ_tableIn (t := 449) d_La_law_43 (by rw [hc11]; decide) (by rw [hc11]; decide) (by rw [hc11]; rfl) (by decide) ?_
                              refine zJ_aload_n (n := 450) (j := 1) (x := a 0) d_La_law_449 rfl rfl rfl ?_
                              refine zJ_aload_n (n := 451) (j := 0) (x := b) d_La_law_450 rfl rfl rfl ?_
                              refine zJ_iload_n (n := 452) (j := 3) (x := x3) d_La_law_451 rfl rfl rfl ?_
                              refine zJ_iconst (n := 453) (v := 1) d_La_law_452 rfl zci_1 ?_
                              refine zJ_iadd (n := 454) d_La_law_453 rfl ?_
                              obtain ⟨g454, h⟩ := zgd h
                              refine zJ_sld (n := 455) d_La_law_454 rfl g454 ?_
                              refine zJ_aload_n (n := 456) (j := 0) (x := b) d_La_law_455 rfl rfl rfl ?_
                              refine zJ_iload_n (n := 457) (j := 3) (x := x3) d_La_law_456 rfl rfl rfl ?_
                              refine zJ_iconst (n := 458) (v := 2) d_La_law_457 rfl zci_2 ?_
                              refine zJ_iadd (n := 459) d_La_law_458 rfl ?_
                              obtain ⟨g459, h⟩ := zgd h
                              refine zJ_sld (n := 460) d_La_law_459 rfl g459 ?_
                              refine zJ_aload_n (n := 461) (j := 0) (x := b) d_La_law_460 rfl rfl rfl ?_
                              refine zJ_iload_n (n := 462) (j := 3) (x := x3) d_La_law_461 rfl rfl rfl ?_
                              refine zJ_iconst (n := 463) (v := 3) d_La_law_462 rfl zci_3 ?_
                              refine zJ_iadd (n := 464) d_La_law_463 rfl ?_
                              obtain ⟨g464, h⟩ := zgd h
                              refine zJ_sld (n := 465) d_La_law_464 rfl g464 ?_
                              obtain ⟨q465, hq465, h⟩ := zbd h
                              refine zJ_callVs (n := 468) (k0 := 0) (avs := [.int (xs (x3 + (1 : Int32)).toNatClampNeg), .int (xs (x3 + (2 : Int32)).toNatClampNeg), .int (xs (x3 + (3 : Int32)).toNatClampNeg)]) (rest := []) (z := q465) (d' := 6) d_La_law_465 rfl (vk_La_71 D tt) rfl rfl rfl (Nat.le_of_ble_eq_true rfl) (by decide) (t_ED_poke (by decide) hq465) ?_
                              refine zJ_aload_n (n := 469) (j := 2) (x := a 45) d_La_law_468 rfl rfl rfl ?_
                              refine zJ_aload_n (n := 470) (j := 0) (x := b) d_La_law_469 rfl rfl rfl ?_
                              refine zJ_iload_n (n := 471) (j := 3) (x := x3) d_La_law_470 rfl rfl rfl ?_
                              refine zJ_iconst (n := 472) (v := 1) d_La_law_471 rfl zci_1 ?_
                              refine zJ_iadd (n := 473) d_La_law_472 rfl ?_
                              obtain ⟨g473, h⟩ := zgd h
                              refine zJ_sld (n := 474) d_La_law_473 rfl g473 ?_
                              refine zJ_aload_n (n := 475) (j := 0) (x := b) d_La_law_474 rfl rfl rfl ?_
                              refine zJ_iload_n (n := 476) (j := 3) (x := x3) d_La_law_475 rfl rfl rfl ?_
                              refine zJ_iconst (n := 477) (v := 2) d_La_law_476 rfl zci_2 ?_
                              refine zJ_iadd (n := 478) d_La_law_477 rfl ?_
                              obtain ⟨g478, h⟩ := zgd h
                              refine zJ_sld (n := 479) d_La_law_478 rfl g478 ?_
                              refine zJ_aload_n (n := 480) (j := 0) (x := b) d_La_law_479 rfl rfl rfl ?_
                              refine zJ_iload_n (n := 481) (j := 3) (x := x3) d_La_law_480 rfl rfl rfl ?_
                              refine zJ_iconst (n := 482) (v := 3) d_La_law_481 rfl zci_3 ?_
                              refine zJ_iadd (n := 483) d_La_law_482 rfl ?_
                              obtain ⟨g483, h⟩ := zgd h
                              refine zJ_sld (n := 484) d_La_law_483 rfl g483 ?_
                              obtain ⟨q484, hq484, h⟩ := zbd h
                              refine zJ_callVs (n := 487) (k0 := 45) (avs := [.int (xs (x3 + (1 : Int32)).toNatClampNeg), .int (xs (x3 + (2 : Int32)).toNatClampNeg), .int (xs (x3 + (3 : Int32)).toNatClampNeg)]) (rest := [.int q465.1]) (z := q484) (d' := 6) d_La_law_484 rfl (vk_La_75 D tt) rfl rfl rfl (Nat.le_of_ble_eq_true rfl) (by decide) (t_Mo_poke (by decide) hq484) ?_
                              refine zJ_icmp_eq (t := 836) (n := 490) d_La_law_487 (by decide) rfl (fun hc => ?_) (fun hc => ?_)
                              · rw [if_pos hc] at h
                                obtain ⟨v836, hv836, h⟩ := zli h
                                refine zJ_iincC (n := 839) (j := 3) (x := x3) (v := 6) (x' := v836) d_La_law_836 rfl rfl zci_6 (Nat.le_of_ble_eq_true rfl) hv836 ?_
                                refine zJ_goto (t := 28) d_La_law_839 (by decide) ?_
                                exact ih _ _ h
                              · rw [if_neg hc] at h
                                refine zJ_iconst (n := 491) (v := 0) d_La_law_490 rfl zci_0 ?_
                                cases h
                                exact absurd (show (0 : Int32) = 1 from hz) (by decide)
                            · rw [if_neg hc11] at h
                              by_cases hc12 : ((xs x3.toNatClampNeg) &&& (31 : Int32)) = 12
                              · rw [if_pos hc12] at h
                                refine zJ_tableIn (t := 492) d_La_law_43 (by rw [hc12]; decide) (by rw [hc12]; decide) (by rw [hc12]; rfl) (by decide) ?_
                                refine zJ_aload_n (n := 493) (j := 1) (x := a 0) d_La_law_492 rfl rfl rfl ?_
                                refine zJ_aload_n (n := 494) (j := 0) (x := b) d_La_law_493 rfl rfl rfl ?_
                                refine zJ_iload_n (n := 495) (j := 3) (x := x3) d_La_law_494 rfl rfl rfl ?_
                                refine zJ_iconst (n := 496) (v := 1) d_La_law_495 rfl zci_1 ?_
                                refine zJ_iadd (n := 497) d_La_law_496 rfl ?_
                                obtain ⟨g497, h⟩ := zgd h
                                refine zJ_sld (n := 498) d_La_law_497 rfl g497 ?_
                                refine zJ_aload_n (n := 499) (j := 0) (x := b) d_La_law_498 rfl rfl rfl ?_
                                refine zJ_iload_n (n := 500) (j := 3) (x := x3) d_La_law_499 rfl rfl rfl ?_
                                refine zJ_iconst (n := 501) (v := 2) d_La_law_500 rfl zci_2 ?_
                                refine zJ_iadd (n := 502) d_La_law_501 rfl ?_
                                obtain ⟨g502, h⟩ := zgd h
                                refine zJ_sld (n := 503) d_La_law_502 rfl g502 ?_
                                obtain ⟨q503, hq503, h⟩ := zbd h
                                refine zJ_callVs (n := 506) (k0 := 0) (avs := [.int (xs (x3 + (1 : Int32)).toNatClampNeg), .int (xs (x3 + (2 : Int32)).toNatClampNeg)]) (rest := []) (z := q503) (d' := 6) d_La_law_503 rfl (vk_La_76 D tt) rfl rfl rfl (Nat.le_of_ble_eq_true rfl) (by decide) (t_ED_trim (by decide) hq503) ?_
                                refine zJ_aload_n (n := 507) (j := 2) (x := a 45) d_La_law_506 rfl rfl rfl ?_
                                refine zJ_aload_n (n := 508) (j := 0) (x := b) d_La_law_507 rfl rfl rfl ?_
                                refine zJ_iload_n (n := 509) (j := 3) (x := x3) d_La_law_508 rfl rfl rfl ?_
                                refine zJ_iconst (n := 510) (v := 1) d_La_law_509 rfl zci_1 ?_
                                refine zJ_iadd (n := 511) d_La_law_510 rfl ?_
                                obtain ⟨g511, h⟩ := zgd h
                                refine zJ_sld (n := 512) d_La_law_511 rfl g511 ?_
                                refine zJ_aload_n (n := 513) (j := 0) (x := b) d_La_law_512 rfl rfl rfl ?_
                                refine zJ_iload_n (n := 514) (j := 3) (x := x3) d_La_law_513 rfl rfl rfl ?_
                                refine zJ_iconst (n := 515) (v := 2) d_La_law_514 rfl zci_2 ?_
                                refine zJ_iadd (n := 516) d_La_law_515 rfl ?_
                                obtain ⟨g516, h⟩ := zgd h
                                refine zJ_sld (n := 517) d_La_law_516 rfl g516 ?_
                                obtain ⟨q517, hq517, h⟩ := zbd h
                                refine zJ_callVs (n := 520) (k0 := 45) (avs := [.int (xs (x3 + (1 : Int32)).toNatClampNeg), .int (xs (x3 + (2 : Int32)).toNatClampNeg)]) (rest := [.int q503.1]) (z := q517) (d' := 6) d_La_law_517 rfl (vk_La_80 D tt) rfl rfl rfl (Nat.le_of_ble_eq_true rfl) (by decide) (t_Mo_trim (by decide) hq517) ?_
                                refine zJ_icmp_eq (t := 836) (n := 523) d_La_law_520 (by decide) rfl (fun hc => ?_) (fun hc => ?_)
                                · rw [if_pos hc] at h
                                  obtain ⟨v836, hv836, h⟩ := zli h
                                  refine zJ_iincC (n := 839) (j := 3) (x := x3) (v := 6) (x' := v836) d_La_law_836 rfl rfl zci_6 (Nat.le_of_ble_eq_true rfl) hv836 ?_
                                  refine zJ_goto (t := 28) d_La_law_839 (by decide) ?_
                                  exact ih _ _ h
                                · rw [if_neg hc] at h
                                  refine zJ_iconst (n := 524) (v := 0) d_La_law_523 rfl zci_0 ?_
                                  cases h
                                  exact absurd (show (0 : Int32) = 1 from hz) (by decide)
                              · rw [if_neg hc12] at h
                                by_cases hc13 : ((xs x3.toNatClampNeg) &&& (31 : Int32)) = 13
                                · rw [if_pos hc13] at h
                                  refine zJ_tableIn (t := 525) d_La_law_43 (by rw [hc13]; decide) (by rw [hc13]; decide) (by rw [hc13]; rfl) (by decide) ?_
                                  refine zJ_aload_n (n := 526) (j := 1) (x := a 0) d_La_law_525 rfl rfl rfl ?_
                                  refine zJ_aload_n (n := 527) (j := 0) (x := b) d_La_law_526 rfl rfl rfl ?_
                                  refine zJ_iload_n (n := 528) (j := 3) (x := x3) d_La_law_527 rfl rfl rfl ?_
                                  refine zJ_iconst (n := 529) (v := 1) d_La_law_528 rfl zci_1 ?_
                                  refine zJ_iadd (n := 530) d_La_law_529 rfl ?_
                                  obtain ⟨g530, h⟩ := zgd h
                                  refine zJ_sld (n := 531) d_La_law_530 rfl g530 ?_
                                  refine zJ_aload_n (n := 532) (j := 0) (x := b) d_La_law_531 rfl rfl rfl ?_
                                  refine zJ_iload_n (n := 533) (j := 3) (x := x3) d_La_law_532 rfl rfl rfl ?_
                                  refine zJ_iconst (n := 534) (v := 2) d_La_law_533 rfl zci_2 ?_
                                  refine zJ_iadd (n := 535) d_La_law_534 rfl ?_
                                  obtain ⟨g535, h⟩ := zgd h
                                  refine zJ_sld (n := 536) d_La_law_535 rfl g535 ?_
                                  refine zJ_aload_n (n := 537) (j := 0) (x := b) d_La_law_536 rfl rfl rfl ?_
                                  refine zJ_iload_n (n := 538) (j := 3) (x := x3) d_La_law_537 rfl rfl rfl ?_
                                  refine zJ_iconst (n := 539) (v := 3) d_La_law_538 rfl zci_3 ?_
                                  refine zJ_iadd (n := 540) d_La_law_539 rfl ?_
                                  obtain ⟨g540, h⟩ := zgd h
                                  refine zJ_sld (n := 541) d_La_law_540 rfl g540 ?_
                                  obtain ⟨q541, hq541, h⟩ := zbd h
                                  refine zJ_callVs (n := 544) (k0 := 0) (avs := [.int (xs (x3 + (1 : Int32)).toNatClampNeg), .int (xs (x3 + (2 : Int32)).toNatClampNeg), .int (xs (x3 + (3 : Int32)).toNatClampNeg)]) (rest := []) (z := q541) (d' := 6) d_La_law_541 rfl (vk_La_81 D tt) rfl rfl rfl (Nat.le_of_ble_eq_true rfl) (by decide) (t_ED_check (by decide) hq541) ?_
                                  refine zJ_aload_n (n := 545) (j := 2) (x := a 45) d_La_law_544 rfl rfl rfl ?_
                                  refine zJ_aload_n (n := 546) (j := 0) (x := b) d_La_law_545 rfl rfl rfl ?_
                                  refine zJ_iload_n (n := 547) (j := 3) (x := x3) d_La_law_546 rfl rfl rfl ?_
                                  refine zJ_iconst (n := 548) (v := 1) d_La_law_547 rfl zci_1 ?_
                                  refine zJ_iadd (n := 549) d_La_law_548 rfl ?_
                                  obtain ⟨g549, h⟩ := zgd h
                                  refine zJ_sld (n := 550) d_La_law_549 rfl g549 ?_
                                  refine zJ_aload_n (n := 551) (j := 0) (x := b) d_La_law_550 rfl rfl rfl ?_
                                  refine zJ_iload_n (n := 552) (j := 3) (x := x3) d_La_law_551 rfl rfl rfl ?_
                                  refine zJ_iconst (n := 553) (v := 2) d_La_law_552 rfl zci_2 ?_
                                  refine zJ_iadd (n := 554) d_La_law_553 rfl ?_
                                  obtain ⟨g554, h⟩ := zgd h
                                  refine zJ_sld (n := 555) d_La_law_554 rfl g554 ?_
                                  refine zJ_aload_n (n := 556) (j := 0) (x := b) d_La_law_555 rfl rfl rfl ?_
                                  refine zJ_iload_n (n := 557) (j := 3) (x := x3) d_La_law_556 rfl rfl rfl ?_
                                  refine zJ_iconst (n := 558) (v := 3) d_La_law_557 rfl zci_3 ?_
                                  refine zJ_iadd (n := 559) d_La_law_558 rfl ?_
                                  obtain ⟨g559, h⟩ := zgd h
                                  refine zJ_sld (n := 560) d_La_law_559 rfl g559 ?_
                                  obtain ⟨q560, hq560, h⟩ := zbd h
                                  refine zJ_callVs (n := 563) (k0 := 45) (avs := [.int (xs (x3 + (1 : Int32)).toNatClampNeg), .int (xs (x3 + (2 : Int32)).toNatClampNeg), .int (xs (x3 + (3 : Int32)).toNatClampNeg)]) (rest := [.int q541.1]) (z := q560) (d' := 6) d_La_law_560 rfl (vk_La_84 D tt) rfl rfl rfl (Nat.le_of_ble_eq_true rfl) (by decide) (t_Mo_check (by decide) hq560) ?_
                                  refine zJ_icmp_eq (t := 836) (n := 566) d_La_law_563 (by decide) rfl (fun hc => ?_) (fun hc => ?_)
                                  · rw [if_pos hc] at h
                                    obtain ⟨v836, hv836, h⟩ := zli h
                                    refine zJ_iincC (n := 839) (j := 3) (x := x3) (v := 6) (x' := v836) d_La_law_836 rfl rfl zci_6 (Nat.le_of_ble_eq_true rfl) hv836 ?_
                                    refine zJ_goto (t := 28) d_La_law_839 (by decide) ?_
                                    exact ih _ _ h
                                  · rw [if_neg hc] at h
                                    refine zJ_iconst (n := 567) (v := 0) d_La_law_566 rfl zci_0 ?_
                                    cases h
                                    exact absurd (show (0 : Int32) = 1 from hz) (by decide)
                                · rw [if_neg hc13] at h
                                  by_cases hc14 : ((xs x3.toNatClampNeg) &&& (31 : Int32)) = 14
                                  · rw [if_pos hc14] at h
                                    refine zJ_tableIn (t := 568) d_La_law_43 (by rw [hc14]; decide) (by rw [hc14]; decide) (by rw [hc14]; rfl) (by decide) ?_
                                    refine zJ_aload_n (n := 569) (j := 1) (x := a 0) d_La_law_568 rfl rfl rfl ?_
                                    refine zJ_aload_n (n := 570) (j := 0) (x := b) d_La_law_569 rfl rfl rfl ?_
                                    refine zJ_iload_n (n := 571) (j := 3) (x := x3) d_La_law_570 rfl rfl rfl ?_
                                    refine zJ_iconst (n := 572) (v := 1) d_La_law_571 rfl zci_1 ?_
                                    refine zJ_iadd (n := 573) d_La_law_572 rfl ?_
                                    obtain ⟨g573, h⟩ := zgd h
                                    refine zJ_sld (n := 574) d_La_law_573 rfl g573 ?_
                                    refine zJ_aload_n (n := 575) (j := 0) (x := b) d_La_law_574 rfl rfl rfl ?_
                                    refine zJ_iload_n (n := 576) (j := 3) (x := x3) d_La_law_575 rfl rfl rfl ?_
                                    refine zJ_iconst (n := 577) (v := 2) d_La_law_576 rfl zci_2 ?_
                                    refine zJ_iadd (n := 578) d_La_law_577 rfl ?_
                                    obtain ⟨g578, h⟩ := zgd h
                                    refine zJ_sld (n := 579) d_La_law_578 rfl g578 ?_
                                    refine zJ_aload_n (n := 580) (j := 0) (x := b) d_La_law_579 rfl rfl rfl ?_
                                    refine zJ_iload_n (n := 581) (j := 3) (x := x3) d_La_law_580 rfl rfl rfl ?_
                                    refine zJ_iconst (n := 582) (v := 3) d_La_law_581 rfl zci_3 ?_
                                    refine zJ_iadd (n := 583) d_La_law_582 rfl ?_
                                    obtain ⟨g583, h⟩ := zgd h
                                    refine zJ_sld (n := 584) d_La_law_583 rfl g583 ?_
                                    refine zJ_aload_n (n := 585) (j := 0) (x := b) d_La_law_584 rfl rfl rfl ?_
                                    refine zJ_iload_n (n := 586) (j := 3) (x := x3) d_La_law_585 rfl rfl rfl ?_
                                    refine zJ_iconst (n := 587) (v := 4) d_La_law_586 rfl zci_4 ?_
                                    refine zJ_iadd (n := 588) d_La_law_587 rfl ?_
                                    obtain ⟨g588, h⟩ := zgd h
                                    refine zJ_sld (n := 589) d_La_law_588 rfl g588 ?_
                                    refine zJ_aload_n (n := 590) (j := 0) (x := b) d_La_law_589 rfl rfl rfl ?_
                                    refine zJ_iload_n (n := 591) (j := 3) (x := x3) d_La_law_590 rfl rfl rfl ?_
                                    refine zJ_iconst (n := 592) (v := 5) d_La_law_591 rfl zci_5 ?_
                                    refine zJ_iadd (n := 593) d_La_law_592 rfl ?_
                                    obtain ⟨g593, h⟩ := zgd h
                                    refine zJ_sld (n := 594) d_La_law_593 rfl g593 ?_
                                    obtain ⟨q594, hq594, h⟩ := zbd h
                                    refine zJ_callVs (n := 597) (k0 := 0) (avs := [.int (xs (x3 + (1 : Int32)).toNatClampNeg), .int (xs (x3 + (2 : Int32)).toNatClampNeg), .int (xs (x3 + (3 : Int32)).toNatClampNeg), .int (xs (x3 + (4 : Int32)).toNatClampNeg), .int (xs (x3 + (5 : Int32)).toNatClampNeg)]) (rest := []) (z := q594) (d' := 6) d_La_law_594 rfl (vk_La_85 D tt) rfl rfl rfl (Nat.le_of_ble_eq_true rfl) (by decide) (t_ED_included (by decide) hq594) ?_
                                    refine zJ_aload_n (n := 598) (j := 2) (x := a 45) d_La_law_597 rfl rfl rfl ?_
                                    refine zJ_aload_n (n := 599) (j := 0) (x := b) d_La_law_598 rfl rfl rfl ?_
                                    refine zJ_iload_n (n := 600) (j := 3) (x := x3) d_La_law_599 rfl rfl rfl ?_
                                    refine zJ_iconst (n := 601) (v := 1) d_La_law_600 rfl zci_1 ?_
                                    refine zJ_iadd (n := 602) d_La_law_601 rfl ?_
                                    obtain ⟨g602, h⟩ := zgd h
                                    refine zJ_sld (n := 603) d_La_law_602 rfl g602 ?_
                                    refine zJ_aload_n (n := 604) (j := 0) (x := b) d_La_law_603 rfl rfl rfl ?_
                                    refine zJ_iload_n (n := 605) (j := 3) (x := x3) d_La_law_604 rfl rfl rfl ?_
                                    refine zJ_iconst (n := 606) (v := 2) d_La_law_605 rfl zci_2 ?_
                                    refine zJ_iadd (n := 607) d_La_law_606 rfl ?_
                                    obtain ⟨g607, h⟩ := zgd h
                                    refine zJ_sld (n := 608) d_La_law_607 rfl g607 ?_
                                    refine zJ_aload_n (n := 609) (j := 0) (x := b) d_La_law_608 rfl rfl rfl ?_
                                    refine zJ_iload_n (n := 610) (j := 3) (x := x3) d_La_law_609 rfl rfl rfl ?_
                                    refine zJ_iconst (n := 611) (v := 3) d_La_law_610 rfl zci_3 ?_
                                    refine zJ_iadd (n := 612) d_La_law_611 rfl ?_
                                    obtain ⟨g612, h⟩ := zgd h
                                    refine zJ_sld (n := 613) d_La_law_612 rfl g612 ?_
                                    refine zJ_aload_n (n := 614) (j := 0) (x := b) d_La_law_613 rfl rfl rfl ?_
                                    refine zJ_iload_n (n := 615) (j := 3) (x := x3) d_La_law_614 rfl rfl rfl ?_
                                    refine zJ_iconst (n := 616) (v := 4) d_La_law_615 rfl zci_4 ?_
                                    refine zJ_iadd (n := 617) d_La_law_616 rfl ?_
                                    obtain ⟨g617, h⟩ := zgd h
                                    refine zJ_sld (n := 618) d_La_law_617 rfl g617 ?_
                                    refine zJ_aload_n (n := 619) (j := 0) (x := b) d_La_law_618 rfl rfl rfl ?_
                                    refine zJ_iload_n (n := 620) (j := 3) (x := x3) d_La_law_619 rfl rfl rfl ?_
                                    refine zJ_iconst (n := 621) (v := 5) d_La_law_620 rfl zci_5 ?_
                                    refine zJ_iadd (n := 622) d_La_law_621 rfl ?_
                                    obtain ⟨g622, h⟩ := zgd h
                                    refine zJ_sld (n := 623) d_La_law_622 rfl g622 ?_
                                    obtain ⟨q623, hq623, h⟩ := zbd h
                                    refine zJ_callVs (n := 626) (k0 := 45) (avs := [.int (xs (x3 + (1 : Int32)).toNatClampNeg), .int (xs (x3 + (2 : Int32)).toNatClampNeg), .int (xs (x3 + (3 : Int32)).toNatClampNeg), .int (xs (x3 + (4 : Int32)).toNatClampNeg), .int (xs (x3 + (5 : Int32)).toNatClampNeg)]) (rest := [.int q594.1]) (z := q623) (d' := 6) d_La_law_623 rfl (vk_La_89 D tt) rfl rfl rfl (Nat.le_of_ble_eq_true rfl) (by decide) (t_Mo_included (by decide) hq623) ?_
                                    refine zJ_icmp_eq (t := 836) (n := 629) d_La_law_626 (by decide) rfl (fun hc => ?_) (fun hc => ?_)
                                    · rw [if_pos hc] at h
                                      obtain ⟨v836, hv836, h⟩ := zli h
                                      refine zJ_iincC (n := 839) (j := 3) (x := x3) (v := 6) (x' := v836) d_La_law_836 rfl rfl zci_6 (Nat.le_of_ble_eq_true rfl) hv836 ?_
                                      refine zJ_goto (t := 28) d_La_law_839 (by decide) ?_
                                      exact ih _ _ h
                                    · rw [if_neg hc] at h
                                      refine zJ_iconst (n := 630) (v := 0) d_La_law_629 rfl zci_0 ?_
                                      cases h
                                      exact absurd (show (0 : Int32) = 1 from hz) (by decide)
                                  · rw [if_neg hc14] at h
                                    by_cases hc15 : ((xs x3.toNatClampNeg) &&& (31 : Int32)) = 15
                                    · rw [if_pos hc15] at h
                                      refine zJ_tableIn (t := 631) d_La_law_43 (by rw [hc15]; decide) (by rw [hc15]; decide) (by rw [hc15]; rfl) (by decide) ?_
                                      refine zJ_aload_n (n := 632) (j := 1) (x := a 0) d_La_law_631 rfl rfl rfl ?_
                                      refine zJ_aload_n (n := 633) (j := 0) (x := b) d_La_law_632 rfl rfl rfl ?_
                                      refine zJ_iload_n (n := 634) (j := 3) (x := x3) d_La_law_633 rfl rfl rfl ?_
                                      refine zJ_iconst (n := 635) (v := 1) d_La_law_634 rfl zci_1 ?_
                                      refine zJ_iadd (n := 636) d_La_law_635 rfl ?_
                                      obtain ⟨g636, h⟩ := zgd h
                                      refine zJ_sld (n := 637) d_La_law_636 rfl g636 ?_
                                      refine zJ_aload_n (n := 638) (j := 0) (x := b) d_La_law_637 rfl rfl rfl ?_
                                      refine zJ_iload_n (n := 639) (j := 3) (x := x3) d_La_law_638 rfl rfl rfl ?_
                                      refine zJ_iconst (n := 640) (v := 2) d_La_law_639 rfl zci_2 ?_
                                      refine zJ_iadd (n := 641) d_La_law_640 rfl ?_
                                      obtain ⟨g641, h⟩ := zgd h
                                      refine zJ_sld (n := 642) d_La_law_641 rfl g641 ?_
                                      refine zJ_aload_n (n := 643) (j := 0) (x := b) d_La_law_642 rfl rfl rfl ?_
                                      refine zJ_iload_n (n := 644) (j := 3) (x := x3) d_La_law_643 rfl rfl rfl ?_
                                      refine zJ_iconst (n := 645) (v := 3) d_La_law_644 rfl zci_3 ?_
                                      refine zJ_iadd (n := 646) d_La_law_645 rfl ?_
                                      obtain ⟨g646, h⟩ := zgd h
                                      refine zJ_sld (n := 647) d_La_law_646 rfl g646 ?_
                                      refine zJ_aload_n (n := 648) (j := 0) (x := b) d_La_law_647 rfl rfl rfl ?_
                                      refine zJ_iload_n (n := 649) (j := 3) (x := x3) d_La_law_648 rfl rfl rfl ?_
                                      refine zJ_iconst (n := 650) (v := 4) d_La_law_649 rfl zci_4 ?_
                                      refine zJ_iadd (n := 651) d_La_law_650 rfl ?_
                                      obtain ⟨g651, h⟩ := zgd h
                                      refine zJ_sld (n := 652) d_La_law_651 rfl g651 ?_
                                      refine zJ_aload_n (n := 653) (j := 0) (x := b) d_La_law_652 rfl rfl rfl ?_
                                      refine zJ_iload_n (n := 654) (j := 3) (x := x3) d_La_law_653 rfl rfl rfl ?_
                                      refine zJ_iconst (n := 655) (v := 5) d_La_law_654 rfl zci_5 ?_
                                      refine zJ_iadd (n := 656) d_La_law_655 rfl ?_
                                      obtain ⟨g656, h⟩ := zgd h
                                      refine zJ_sld (n := 657) d_La_law_656 rfl g656 ?_
                                      obtain ⟨q657, hq657, h⟩ := zbd h
                                      refine zJ_callVs (n := 660) (k0 := 0) (avs := [.int (xs (x3 + (1 : Int32)).toNatClampNeg), .int (xs (x3 + (2 : Int32)).toNatClampNeg), .int (xs (x3 + (3 : Int32)).toNatClampNeg), .int (xs (x3 + (4 : Int32)).toNatClampNeg), .int (xs (x3 + (5 : Int32)).toNatClampNeg)]) (rest := []) (z := q657) (d' := 6) d_La_law_657 rfl (vk_La_90 D tt) rfl rfl rfl (Nat.le_of_ble_eq_true rfl) (by decide) (t_ED_consistent (by decide) hq657) ?_
                                      refine zJ_aload_n (n := 661) (j := 2) (x := a 45) d_La_law_660 rfl rfl rfl ?_
                                      refine zJ_aload_n (n := 662) (j := 0) (x := b) d_La_law_661 rfl rfl rfl ?_
                                      refine zJ_iload_n (n := 663) (j := 3) (x := x3) d_La_law_662 rfl rfl rfl ?_
                                      refine zJ_iconst (n := 664) (v := 1) d_La_law_663 rfl zci_1 ?_
                                      refine zJ_iadd (n := 665) d_La_law_664 rfl ?_
                                      obtain ⟨g665, h⟩ := zgd h
                                      refine zJ_sld (n := 666) d_La_law_665 rfl g665 ?_
                                      refine zJ_aload_n (n := 667) (j := 0) (x := b) d_La_law_666 rfl rfl rfl ?_
                                      refine zJ_iload_n (n := 668) (j := 3) (x := x3) d_La_law_667 rfl rfl rfl ?_
                                      refine zJ_iconst (n := 669) (v := 2) d_La_law_668 rfl zci_2 ?_
                                      refine zJ_iadd (n := 670) d_La_law_669 rfl ?_
                                      obtain ⟨g670, h⟩ := zgd h
                                      refine zJ_sld (n := 671) d_La_law_670 rfl g670 ?_
                                      refine zJ_aload_n (n := 672) (j := 0) (x := b) d_La_law_671 rfl rfl rfl ?_
                                      refine zJ_iload_n (n := 673) (j := 3) (x := x3) d_La_law_672 rfl rfl rfl ?_
                                      refine zJ_iconst (n := 674) (v := 3) d_La_law_673 rfl zci_3 ?_
                                      refine zJ_iadd (n := 675) d_La_law_674 rfl ?_
                                      obtain ⟨g675, h⟩ := zgd h
                                      refine zJ_sld (n := 676) d_La_law_675 rfl g675 ?_
                                      refine zJ_aload_n (n := 677) (j := 0) (x := b) d_La_law_676 rfl rfl rfl ?_
                                      refine zJ_iload_n (n := 678) (j := 3) (x := x3) d_La_law_677 rfl rfl rfl ?_
                                      refine zJ_iconst (n := 679) (v := 4) d_La_law_678 rfl zci_4 ?_
                                      refine zJ_iadd (n := 680) d_La_law_679 rfl ?_
                                      obtain ⟨g680, h⟩ := zgd h
                                      refine zJ_sld (n := 681) d_La_law_680 rfl g680 ?_
                                      refine zJ_aload_n (n := 682) (j := 0) (x := b) d_La_law_681 rfl rfl rfl ?_
                                      refine zJ_iload_n (n := 683) (j := 3) (x := x3) d_La_law_682 rfl rfl rfl ?_
                                      refine zJ_iconst (n := 684) (v := 5) d_La_law_683 rfl zci_5 ?_
                                      refine zJ_iadd (n := 685) d_La_law_684 rfl ?_
                                      obtain ⟨g685, h⟩ := zgd h
                                      refine zJ_sld (n := 686) d_La_law_685 rfl g685 ?_
                                      obtain ⟨q686, hq686, h⟩ := zbd h
                                      refine zJ_callVs (n := 689) (k0 := 45) (avs := [.int (xs (x3 + (1 : Int32)).toNatClampNeg), .int (xs (x3 + (2 : Int32)).toNatClampNeg), .int (xs (x3 + (3 : Int32)).toNatClampNeg), .int (xs (x3 + (4 : Int32)).toNatClampNeg), .int (xs (x3 + (5 : Int32)).toNatClampNeg)]) (rest := [.int q657.1]) (z := q686) (d' := 6) d_La_law_686 rfl (vk_La_93 D tt) rfl rfl rfl (Nat.le_of_ble_eq_true rfl) (by decide) (t_Mo_consistent (by decide) hq686) ?_
                                      refine zJ_icmp_eq (t := 836) (n := 692) d_La_law_689 (by decide) rfl (fun hc => ?_) (fun hc => ?_)
                                      · rw [if_pos hc] at h
                                        obtain ⟨v836, hv836, h⟩ := zli h
                                        refine zJ_iincC (n := 839) (j := 3) (x := x3) (v := 6) (x' := v836) d_La_law_836 rfl rfl zci_6 (Nat.le_of_ble_eq_true rfl) hv836 ?_
                                        refine zJ_goto (t := 28) d_La_law_839 (by decide) ?_
                                        exact ih _ _ h
                                      · rw [if_neg hc] at h
                                        refine zJ_iconst (n := 693) (v := 0) d_La_law_692 rfl zci_0 ?_
                                        cases h
                                        exact absurd (show (0 : Int32) = 1 from hz) (by decide)
                                    · rw [if_neg hc15] at h
                                      by_cases hc16 : ((xs x3.toNatClampNeg) &&& (31 : Int32)) = 16
                                      · rw [if_pos hc16] at h
                                        refine zJ_tableIn (t := 694) d_La_law_43 (by rw [hc16]; decide) (by rw [hc16]; decide) (by rw [hc16]; rfl) (by decide) ?_
                                        refine zJ_aload_n (n := 695) (j := 1) (x := a 0) d_La_law_694 rfl rfl rfl ?_
                                        refine zJ_aload_n (n := 696) (j := 0) (x := b) d_La_law_695 rfl rfl rfl ?_
                                        refine zJ_iload_n (n := 697) (j := 3) (x := x3) d_La_law_696 rfl rfl rfl ?_
                                        refine zJ_iconst (n := 698) (v := 1) d_La_law_697 rfl zci_1 ?_
                                        refine zJ_iadd (n := 699) d_La_law_698 rfl ?_
                                        obtain ⟨g699, h⟩ := zgd h
                                        refine zJ_sld (n := 700) d_La_law_699 rfl g699 ?_
                                        refine zJ_aload_n (n := 701) (j := 0) (x := b) d_La_law_700 rfl rfl rfl ?_
                                        refine zJ_iload_n (n := 702) (j := 3) (x := x3) d_La_law_701 rfl rfl rfl ?_
                                        refine zJ_iconst (n := 703) (v := 2) d_La_law_702 rfl zci_2 ?_
                                        refine zJ_iadd (n := 704) d_La_law_703 rfl ?_
                                        obtain ⟨g704, h⟩ := zgd h
                                        refine zJ_sld (n := 705) d_La_law_704 rfl g704 ?_
                                        refine zJ_aload_n (n := 706) (j := 0) (x := b) d_La_law_705 rfl rfl rfl ?_
                                        refine zJ_iload_n (n := 707) (j := 3) (x := x3) d_La_law_706 rfl rfl rfl ?_
                                        refine zJ_iconst (n := 708) (v := 3) d_La_law_707 rfl zci_3 ?_
                                        refine zJ_iadd (n := 709) d_La_law_708 rfl ?_
                                        obtain ⟨g709, h⟩ := zgd h
                                        refine zJ_sld (n := 710) d_La_law_709 rfl g709 ?_
                                        obtain ⟨q710, hq710, h⟩ := zbd h
                                        refine zJ_callVs (n := 713) (k0 := 0) (avs := [.int (xs (x3 + (1 : Int32)).toNatClampNeg), .int (xs (x3 + (2 : Int32)).toNatClampNeg), .int (xs (x3 + (3 : Int32)).toNatClampNeg)]) (rest := []) (z := q710) (d' := 6) d_La_law_710 rfl (vk_La_94 D tt) rfl rfl rfl (Nat.le_of_ble_eq_true rfl) (by decide) (t_ED_follow (by decide) hq710) ?_
                                        refine zJ_aload_n (n := 714) (j := 2) (x := a 45) d_La_law_713 rfl rfl rfl ?_
                                        refine zJ_aload_n (n := 715) (j := 0) (x := b) d_La_law_714 rfl rfl rfl ?_
                                        refine zJ_iload_n (n := 716) (j := 3) (x := x3) d_La_law_715 rfl rfl rfl ?_
                                        refine zJ_iconst (n := 717) (v := 1) d_La_law_716 rfl zci_1 ?_
                                        refine zJ_iadd (n := 718) d_La_law_717 rfl ?_
                                        obtain ⟨g718, h⟩ := zgd h
                                        refine zJ_sld (n := 719) d_La_law_718 rfl g718 ?_
                                        refine zJ_aload_n (n := 720) (j := 0) (x := b) d_La_law_719 rfl rfl rfl ?_
                                        refine zJ_iload_n (n := 721) (j := 3) (x := x3) d_La_law_720 rfl rfl rfl ?_
                                        refine zJ_iconst (n := 722) (v := 2) d_La_law_721 rfl zci_2 ?_
                                        refine zJ_iadd (n := 723) d_La_law_722 rfl ?_
                                        obtain ⟨g723, h⟩ := zgd h
                                        refine zJ_sld (n := 724) d_La_law_723 rfl g723 ?_
                                        refine zJ_aload_n (n := 725) (j := 0) (x := b) d_La_law_724 rfl rfl rfl ?_
                                        refine zJ_iload_n (n := 726) (j := 3) (x := x3) d_La_law_725 rfl rfl rfl ?_
                                        refine zJ_iconst (n := 727) (v := 3) d_La_law_726 rfl zci_3 ?_
                                        refine zJ_iadd (n := 728) d_La_law_727 rfl ?_
                                        obtain ⟨g728, h⟩ := zgd h
                                        refine zJ_sld (n := 729) d_La_law_728 rfl g728 ?_
                                        obtain ⟨q729, hq729, h⟩ := zbd h
                                        refine zJ_callVs (n := 732) (k0 := 45) (avs := [.int (xs (x3 + (1 : Int32)).toNatClampNeg), .int (xs (x3 + (2 : Int32)).toNatClampNeg), .int (xs (x3 + (3 : Int32)).toNatClampNeg)]) (rest := [.int q710.1]) (z := q729) (d' := 6) d_La_law_729 rfl (vk_La_97 D tt) rfl rfl rfl (Nat.le_of_ble_eq_true rfl) (by decide) (t_Mo_follow (by decide) hq729) ?_
                                        refine zJ_icmp_eq (t := 836) (n := 735) d_La_law_732 (by decide) rfl (fun hc => ?_) (fun hc => ?_)
                                        · rw [if_pos hc] at h
                                          obtain ⟨v836, hv836, h⟩ := zli h
                                          refine zJ_iincC (n := 839) (j := 3) (x := x3) (v := 6) (x' := v836) d_La_law_836 rfl rfl zci_6 (Nat.le_of_ble_eq_true rfl) hv836 ?_
                                          refine zJ_goto (t := 28) d_La_law_839 (by decide) ?_
                                          exact ih _ _ h
                                        · rw [if_neg hc] at h
                                          refine zJ_iconst (n := 736) (v := 0) d_La_law_735 rfl zci_0 ?_
                                          cases h
                                          exact absurd (show (0 : Int32) = 1 from hz) (by decide)
                                      · rw [if_neg hc16] at h
                                        by_cases hc17 : ((xs x3.toNatClampNeg) &&& (31 : Int32)) = 17
                                        · rw [if_pos hc17] at h
                                          refine zJ_tableIn (t := 737) d_La_law_43 (by rw [hc17]; decide) (by rw [hc17]; decide) (by rw [hc17]; rfl) (by decide) ?_
                                          refine zJ_aload_n (n := 738) (j := 1) (x := a 0) d_La_law_737 rfl rfl rfl ?_
                                          refine zJ_aload_n (n := 739) (j := 0) (x := b) d_La_law_738 rfl rfl rfl ?_
                                          refine zJ_iload_n (n := 740) (j := 3) (x := x3) d_La_law_739 rfl rfl rfl ?_
                                          refine zJ_iconst (n := 741) (v := 1) d_La_law_740 rfl zci_1 ?_
                                          refine zJ_iadd (n := 742) d_La_law_741 rfl ?_
                                          obtain ⟨g742, h⟩ := zgd h
                                          refine zJ_sld (n := 743) d_La_law_742 rfl g742 ?_
                                          obtain ⟨q743, hq743, h⟩ := zbd h
                                          refine zJ_callVs (n := 746) (k0 := 0) (avs := [.int (xs (x3 + (1 : Int32)).toNatClampNeg)]) (rest := []) (z := q743) (d' := 6) d_La_law_743 rfl (vk_La_98 D tt) rfl rfl rfl (Nat.le_of_ble_eq_true rfl) (by decide) (t_ED_seen (by decide) hq743) ?_
                                          refine zJ_aload_n (n := 747) (j := 2) (x := a 45) d_La_law_746 rfl rfl rfl ?_
                                          refine zJ_aload_n (n := 748) (j := 0) (x := b) d_La_law_747 rfl rfl rfl ?_
                                          refine zJ_iload_n (n := 749) (j := 3) (x := x3) d_La_law_748 rfl rfl rfl ?_
                                          refine zJ_iconst (n := 750) (v := 1) d_La_law_749 rfl zci_1 ?_
                                          refine zJ_iadd (n := 751) d_La_law_750 rfl ?_
                                          obtain ⟨g751, h⟩ := zgd h
                                          refine zJ_sld (n := 752) d_La_law_751 rfl g751 ?_
                                          obtain ⟨q752, hq752, h⟩ := zbd h
                                          refine zJ_callVs (n := 755) (k0 := 45) (avs := [.int (xs (x3 + (1 : Int32)).toNatClampNeg)]) (rest := [.int q743.1]) (z := q752) (d' := 6) d_La_law_752 rfl (vk_La_101 D tt) rfl rfl rfl (Nat.le_of_ble_eq_true rfl) (by decide) (t_Mo_seen (by decide) hq752) ?_
                                          refine zJ_icmp_eq (t := 836) (n := 758) d_La_law_755 (by decide) rfl (fun hc => ?_) (fun hc => ?_)
                                          · rw [if_pos hc] at h
                                            obtain ⟨v836, hv836, h⟩ := zli h
                                            refine zJ_iincC (n := 839) (j := 3) (x := x3) (v := 6) (x' := v836) d_La_law_836 rfl rfl zci_6 (Nat.le_of_ble_eq_true rfl) hv836 ?_
                                            refine zJ_goto (t := 28) d_La_law_839 (by decide) ?_
                                            exact ih _ _ h
                                          · rw [if_neg hc] at h
                                            refine zJ_iconst (n := 759) (v := 0) d_La_law_758 rfl zci_0 ?_
                                            cases h
                                            exact absurd (show (0 : Int32) = 1 from hz) (by decide)
                                        · rw [if_neg hc17] at h
                                          by_cases hc18 : ((xs x3.toNatClampNeg) &&& (31 : Int32)) = 18
                                          · rw [if_pos hc18] at h
                                            refine zJ_tableIn (t := 760) d_La_law_43 (by rw [hc18]; decide) (by rw [hc18]; decide) (by rw [hc18]; rfl) (by decide) ?_
                                            refine zJ_aload_n (n := 761) (j := 1) (x := a 0) d_La_law_760 rfl rfl rfl ?_
                                            refine zJ_aload_n (n := 762) (j := 0) (x := b) d_La_law_761 rfl rfl rfl ?_
                                            refine zJ_iload_n (n := 763) (j := 3) (x := x3) d_La_law_762 rfl rfl rfl ?_
                                            refine zJ_iconst (n := 764) (v := 1) d_La_law_763 rfl zci_1 ?_
                                            refine zJ_iadd (n := 765) d_La_law_764 rfl ?_
                                            obtain ⟨g765, h⟩ := zgd h
                                            refine zJ_sld (n := 766) d_La_law_765 rfl g765 ?_
                                            refine zJ_aload_n (n := 767) (j := 0) (x := b) d_La_law_766 rfl rfl rfl ?_
                                            refine zJ_iload_n (n := 768) (j := 3) (x := x3) d_La_law_767 rfl rfl rfl ?_
                                            refine zJ_iconst (n := 769) (v := 2) d_La_law_768 rfl zci_2 ?_
                                            refine zJ_iadd (n := 770) d_La_law_769 rfl ?_
                                            obtain ⟨g770, h⟩ := zgd h
                                            refine zJ_sld (n := 771) d_La_law_770 rfl g770 ?_
                                            refine zJ_aload_n (n := 772) (j := 0) (x := b) d_La_law_771 rfl rfl rfl ?_
                                            refine zJ_iload_n (n := 773) (j := 3) (x := x3) d_La_law_772 rfl rfl rfl ?_
                                            refine zJ_iconst (n := 774) (v := 3) d_La_law_773 rfl zci_3 ?_
                                            refine zJ_iadd (n := 775) d_La_law_774 rfl ?_
                                            obtain ⟨g775, h⟩ := zgd h
                                            refine zJ_sld (n := 776) d_La_law_775 rfl g775 ?_
                                            refine zJ_aload_n (n := 777) (j := 0) (x := b) d_La_law_776 rfl rfl rfl ?_
                                            refine zJ_iload_n (n := 778) (j := 3) (x := x3) d_La_law_777 rfl rfl rfl ?_
                                            refine zJ_iconst (n := 779) (v := 4) d_La_law_778 rfl zci_4 ?_
                                            refine zJ_iadd (n := 780) d_La_law_779 rfl ?_
                                            obtain ⟨g780, h⟩ := zgd h
                                            refine zJ_sld (n := 781) d_La_law_780 rfl g780 ?_
                                            obtain ⟨q781, hq781, h⟩ := zbd h
                                            refine zJ_callVs (n := 784) (k0 := 0) (avs := [.int (xs (x3 + (1 : Int32)).toNatClampNeg), .int (xs (x3 + (2 : Int32)).toNatClampNeg), .int (xs (x3 + (3 : Int32)).toNatClampNeg), .int (xs (x3 + (4 : Int32)).toNatClampNeg)]) (rest := []) (z := q781) (d' := 6) d_La_law_781 rfl (vk_La_102 D tt) rfl rfl rfl (Nat.le_of_ble_eq_true rfl) (by decide) (t_ED_extract (by decide) hq781) ?_
                                            refine zJ_aload_n (n := 785) (j := 2) (x := a 45) d_La_law_784 rfl rfl rfl ?_
                                            refine zJ_aload_n (n := 786) (j := 0) (x := b) d_La_law_785 rfl rfl rfl ?_
                                            refine zJ_iload_n (n := 787) (j := 3) (x := x3) d_La_law_786 rfl rfl rfl ?_
                                            refine zJ_iconst (n := 788) (v := 1) d_La_law_787 rfl zci_1 ?_
                                            refine zJ_iadd (n := 789) d_La_law_788 rfl ?_
                                            obtain ⟨g789, h⟩ := zgd h
                                            refine zJ_sld (n := 790) d_La_law_789 rfl g789 ?_
                                            refine zJ_aload_n (n := 791) (j := 0) (x := b) d_La_law_790 rfl rfl rfl ?_
                                            refine zJ_iload_n (n := 792) (j := 3) (x := x3) d_La_law_791 rfl rfl rfl ?_
                                            refine zJ_iconst (n := 793) (v := 2) d_La_law_792 rfl zci_2 ?_
                                            refine zJ_iadd (n := 794) d_La_law_793 rfl ?_
                                            obtain ⟨g794, h⟩ := zgd h
                                            refine zJ_sld (n := 795) d_La_law_794 rfl g794 ?_
                                            refine zJ_aload_n (n := 796) (j := 0) (x := b) d_La_law_795 rfl rfl rfl ?_
                                            refine zJ_iload_n (n := 797) (j := 3) (x := x3) d_La_law_796 rfl rfl rfl ?_
                                            refine zJ_iconst (n := 798) (v := 3) d_La_law_797 rfl zci_3 ?_
                                            refine zJ_iadd (n := 799) d_La_law_798 rfl ?_
                                            obtain ⟨g799, h⟩ := zgd h
                                            refine zJ_sld (n := 800) d_La_law_799 rfl g799 ?_
                                            refine zJ_aload_n (n := 801) (j := 0) (x := b) d_La_law_800 rfl rfl rfl ?_
                                            refine zJ_iload_n (n := 802) (j := 3) (x := x3) d_La_law_801 rfl rfl rfl ?_
                                            refine zJ_iconst (n := 803) (v := 4) d_La_law_802 rfl zci_4 ?_
                                            refine zJ_iadd (n := 804) d_La_law_803 rfl ?_
                                            obtain ⟨g804, h⟩ := zgd h
                                            refine zJ_sld (n := 805) d_La_law_804 rfl g804 ?_
                                            obtain ⟨q805, hq805, h⟩ := zbd h
                                            refine zJ_callVs (n := 808) (k0 := 45) (avs := [.int (xs (x3 + (1 : Int32)).toNatClampNeg), .int (xs (x3 + (2 : Int32)).toNatClampNeg), .int (xs (x3 + (3 : Int32)).toNatClampNeg), .int (xs (x3 + (4 : Int32)).toNatClampNeg)]) (rest := [.int q781.1]) (z := q805) (d' := 6) d_La_law_805 rfl (vk_La_106 D tt) rfl rfl rfl (Nat.le_of_ble_eq_true rfl) (by decide) (t_Mo_extract (by decide) hq805) ?_
                                            refine zJ_icmp_eq (t := 836) (n := 811) d_La_law_808 (by decide) rfl (fun hc => ?_) (fun hc => ?_)
                                            · rw [if_pos hc] at h
                                              obtain ⟨v836, hv836, h⟩ := zli h
                                              refine zJ_iincC (n := 839) (j := 3) (x := x3) (v := 6) (x' := v836) d_La_law_836 rfl rfl zci_6 (Nat.le_of_ble_eq_true rfl) hv836 ?_
                                              refine zJ_goto (t := 28) d_La_law_839 (by decide) ?_
                                              exact ih _ _ h
                                            · rw [if_neg hc] at h
                                              refine zJ_iconst (n := 812) (v := 0) d_La_law_811 rfl zci_0 ?_
                                              cases h
                                              exact absurd (show (0 : Int32) = 1 from hz) (by decide)
                                          · rw [if_neg hc18] at h
                                            by_cases hc19 : ((xs x3.toNatClampNeg) &&& (31 : Int32)) = 19
                                            · rw [if_pos hc19] at h
                                              refine zJ_tableIn (t := 813) d_La_law_43 (by rw [hc19]; decide) (by rw [hc19]; decide) (by rw [hc19]; rfl) (by decide) ?_
                                              refine zJ_aload_n (n := 814) (j := 1) (x := a 0) d_La_law_813 rfl rfl rfl ?_
                                              refine zJ_aload_n (n := 815) (j := 0) (x := b) d_La_law_814 rfl rfl rfl ?_
                                              refine zJ_iload_n (n := 816) (j := 3) (x := x3) d_La_law_815 rfl rfl rfl ?_
                                              refine zJ_iconst (n := 817) (v := 1) d_La_law_816 rfl zci_1 ?_
                                              refine zJ_iadd (n := 818) d_La_law_817 rfl ?_
                                              obtain ⟨g818, h⟩ := zgd h
                                              refine zJ_sld (n := 819) d_La_law_818 rfl g818 ?_
                                              obtain ⟨q819, hq819, h⟩ := zbd h
                                              refine zJ_callVs (n := 822) (k0 := 0) (avs := [.int (xs (x3 + (1 : Int32)).toNatClampNeg)]) (rest := []) (z := q819) (d' := 6) d_La_law_819 rfl (vk_La_107 D tt) rfl rfl rfl (Nat.le_of_ble_eq_true rfl) (by decide) (t_ED_clash (by decide) hq819) ?_
                                              refine zJ_aload_n (n := 823) (j := 2) (x := a 45) d_La_law_822 rfl rfl rfl ?_
                                              refine zJ_aload_n (n := 824) (j := 0) (x := b) d_La_law_823 rfl rfl rfl ?_
                                              refine zJ_iload_n (n := 825) (j := 3) (x := x3) d_La_law_824 rfl rfl rfl ?_
                                              refine zJ_iconst (n := 826) (v := 1) d_La_law_825 rfl zci_1 ?_
                                              refine zJ_iadd (n := 827) d_La_law_826 rfl ?_
                                              obtain ⟨g827, h⟩ := zgd h
                                              refine zJ_sld (n := 828) d_La_law_827 rfl g827 ?_
                                              obtain ⟨q828, hq828, h⟩ := zbd h
                                              refine zJ_callVs (n := 831) (k0 := 45) (avs := [.int (xs (x3 + (1 : Int32)).toNatClampNeg)]) (rest := [.int q819.1]) (z := q828) (d' := 6) d_La_law_828 rfl (vk_La_110 D tt) rfl rfl rfl (Nat.le_of_ble_eq_true rfl) (by decide) (t_Mo_clash (by decide) hq828) ?_
                                              refine zJ_icmp_eq (t := 836) (n := 834) d_La_law_831 (by decide) rfl (fun hc => ?_) (fun hc => ?_)
                                              · rw [if_pos hc] at h
                                                obtain ⟨v836, hv836, h⟩ := zli h
                                                refine zJ_iincC (n := 839) (j := 3) (x := x3) (v := 6) (x' := v836) d_La_law_836 rfl rfl zci_6 (Nat.le_of_ble_eq_true rfl) hv836 ?_
                                                refine zJ_goto (t := 28) d_La_law_839 (by decide) ?_
                                                exact ih _ _ h
                                              · rw [if_neg hc] at h
                                                refine zJ_iconst (n := 835) (v := 0) d_La_law_834 rfl zci_0 ?_
                                                cases h
                                                exact absurd (show (0 : Int32) = 1 from hz) (by decide)
                                            · rw [if_neg hc19] at h
                                              have hout : ((xs x3.toNatClampNeg) &&& (31 : Int32)).toInt < 0 ∨ 19 < ((xs x3.toNatClampNeg) &&& (31 : Int32)).toInt := by
                                                have w0 := lv_neT hc0 (show (0 : Int32).toInt = 0 by decide)
                                                have w1 := lv_neT hc1 (show (1 : Int32).toInt = 1 by decide)
                                                have w2 := lv_neT hc2 (show (2 : Int32).toInt = 2 by decide)
                                                have w3 := lv_neT hc3 (show (3 : Int32).toInt = 3 by decide)
                                                have w4 := lv_neT hc4 (show (4 : Int32).toInt = 4 by decide)
                                                have w5 := lv_neT hc5 (show (5 : Int32).toInt = 5 by decide)
                                                have w6 := lv_neT hc6 (show (6 : Int32).toInt = 6 by decide)
                                                have w7 := lv_neT hc7 (show (7 : Int32).toInt = 7 by decide)
                                                have w8 := lv_neT hc8 (show (8 : Int32).toInt = 8 by decide)
                                                have w9 := lv_neT hc9 (show (9 : Int32).toInt = 9 by decide)
                                                have w10 := lv_neT hc10 (show (10 : Int32).toInt = 10 by decide)
                                                have w11 := lv_neT hc11 (show (11 : Int32).toInt = 11 by decide)
                                                have w12 := lv_neT hc12 (show (12 : Int32).toInt = 12 by decide)
                                                have w13 := lv_neT hc13 (show (13 : Int32).toInt = 13 by decide)
                                                have w14 := lv_neT hc14 (show (14 : Int32).toInt = 14 by decide)
                                                have w15 := lv_neT hc15 (show (15 : Int32).toInt = 15 by decide)
                                                have w16 := lv_neT hc16 (show (16 : Int32).toInt = 16 by decide)
                                                have w17 := lv_neT hc17 (show (17 : Int32).toInt = 17 by decide)
                                                have w18 := lv_neT hc18 (show (18 : Int32).toInt = 18 by decide)
                                                have w19 := lv_neT hc19 (show (19 : Int32).toInt = 19 by decide)
                                                omega
                                              refine zJ_tableOut (t := 836) d_La_law_43 hout (by decide) ?_
                                              obtain ⟨v836, hv836, h⟩ := zli h
                                              refine zJ_iincC (n := 839) (j := 3) (x := x3) (v := 6) (x' := v836) d_La_law_836 rfl rfl zci_6 (Nat.le_of_ble_eq_true rfl) hv836 ?_
                                              refine zJ_goto (t := 28) d_La_law_839 (by decide) ?_
                                              exact ih _ _ h
