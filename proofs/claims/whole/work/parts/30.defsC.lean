def f_Dg_digest (N : Nat) (x1 : Int32) (x2 : Int32) (x3 : Int32) (M : zMem) : Option (Int32 × zMem) :=
  zlt (((x1 * (73244475 : Int32)) + x2)) fun v6 => zlt ((((v6 ^^^ (zush v6 (16 : Int32))) * (73244475 : Int32)) + x3)) fun v21 => zlt (((v21 ^^^ (zush v21 (16 : Int32))) * (73244475 : Int32))) fun v34 => zlt ((v34 ^^^ (zush v34 (16 : Int32)))) fun v44 => zlt ((zush v44 (M 1 0))) fun v53 => (if v53 = 0 then some ((1 : Int32), M) else some (v53, M))
def f_ED_hash (N : Nat) (x1 : Int32) (x2 : Int32) (x3 : Int32) (M : zMem) : Option (Int32 × zMem) :=
  (f_Dg_digest N x1 x2 x3 M).bind fun q7 => some (q7.1, q7.2)
def f_ED_isName (N : Nat) (x0 : Int32) (M : zMem) : Option (Int32 × zMem) :=
  (if x0 < 0 then some ((0 : Int32), M) else (if (64 : Int32) ≤ x0 then some ((0 : Int32), M) else some ((1 : Int32), M)))
def f_ED_isKey (N : Nat) (x0 : Int32) (M : zMem) : Option (Int32 × zMem) :=
  (if x0 < (1 : Int32) then some ((0 : Int32), M) else (if (1000000 : Int32) < x0 then some ((0 : Int32), M) else some ((1 : Int32), M)))
def f_NM_give (N : Nat) (x1 : Int32) (x2 : Int32) (M : zMem) : Option (Int32 × zMem) :=
  (if zin x1 64 = true then (if (M 4 x1.toNatClampNeg) = 0 then zlt (zu M 2 3 ((M 2 3) + (1 : Int32))) fun M16 => (if zin x1 64 = true then zlt (zu M16 4 x1.toNatClampNeg x2) fun M25 => some (0, M25) else none) else (if zin x1 64 = true then zlt (zu M 4 x1.toNatClampNeg x2) fun M25 => some (0, M25) else none)) else none)
def f_ED_put (N : Nat) (x1 : Int32) (x2 : Int32) (M : zMem) : Option (Int32 × zMem) :=
  (if (M 0 11) = 0 then (f_ED_isName N x1 M).bind fun q11 => (if q11.1 = 0 then some ((-1 : Int32), q11.2) else (f_ED_isKey N x2 q11.2).bind fun q18 => (if q18.1 = 0 then some ((-1 : Int32), q18.2) else (f_NM_give N x1 x2 q18.2).bind fun q32 => some ((q32.2 2 3), q32.2))) else some ((-9 : Int32), M))
def f_ED_indexOf (N : Nat) (x0 : Int32) (M : zMem) : Option (Int32 × zMem) :=
  some ((zrem (((37 : Int32) * x0) + (11 : Int32)) (64 : Int32)), M)
def f_NM_keyOf (N : Nat) (x1 : Int32) (M : zMem) : Option (Int32 × zMem) :=
  (if zin x1 64 = true then (if (M 4 x1.toNatClampNeg) = 0 then (if zin x1 64 = true then some ((M 3 x1.toNatClampNeg), M) else none) else (if zin x1 64 = true then some ((M 4 x1.toNatClampNeg), M) else none)) else none)
def f_NM_wasPut (N : Nat) (x1 : Int32) (M : zMem) : Option (Int32 × zMem) :=
  (if zin x1 64 = true then (if (M 4 x1.toNatClampNeg) = 0 then some ((0 : Int32), M) else some ((1 : Int32), M)) else none)
def f_Pl_countNames_b156 (N : Nat) (k62 : Int32 → zMem → Option (Int32 × zMem)) (x2 : Int32) (s1 : Int32) (s2 : Int32) (M : zMem) : Option (Int32 × zMem) :=
  (if zin s1 128 = true then (if zbool s2 = true then zlt (zu M 15 s1.toNatClampNeg s2) fun M156 => zlt (x2 + (-1 : Int32)) fun v157 => k62 v157 M156 else none) else none)
def f_Pl_countNames_b151 (N : Nat) (k62 : Int32 → zMem → Option (Int32 × zMem)) (x2 : Int32) (s1 : Int32) (M : zMem) : Option (Int32 × zMem) :=
  f_Pl_countNames_b156 N k62 x2 s1 (1 : Int32) M
def f_Pl_countNames_b126 (N : Nat) (k62 : Int32 → zMem → Option (Int32 × zMem)) (x2 : Int32) (x3 : Int32) (x4 : Int32) (s1 : Int32) (s2 : Int32) (M : zMem) : Option (Int32 × zMem) :=
  (if zin s1 128 = true then zlt (zu M 14 s1.toNatClampNeg s2) fun M126 => (if zin x3 128 = true then (if (M126 15 x3.toNatClampNeg) = 0 then (if zin x4 128 = true then (if (M126 15 x4.toNatClampNeg) = 0 then f_Pl_countNames_b156 N k62 x2 x2 (0 : Int32) M126 else f_Pl_countNames_b151 N k62 x2 x2 M126) else none) else f_Pl_countNames_b151 N k62 x2 x2 M126) else none) else none)
def f_Pl_countNames_l62 (N : Nat) : Nat → Int32 → zMem → Option (Int32 × zMem)
  | 0, _, _ => none
  | n + 1, x2, M =>
    (if x2 < (1 : Int32) then some (0, M) else zlt (((2 : Int32) * x2)) fun v70 => zlt ((v70 + (1 : Int32))) fun v74 => (if zin v70 128 = true then (if zin v74 128 = true then (if zin x2 128 = true then zlt (zu M 13 x2.toNatClampNeg ((M 13 v70.toNatClampNeg) + (M 13 v74.toNatClampNeg))) fun M95 => (if zin v70 128 = true then (if (M95 13 v70.toNatClampNeg) ≤ 0 then (if zin v74 128 = true then f_Pl_countNames_b126 N (f_Pl_countNames_l62 N n) x2 v70 v74 x2 (M95 14 v74.toNatClampNeg) M95 else none) else (if zin v70 128 = true then f_Pl_countNames_b126 N (f_Pl_countNames_l62 N n) x2 v70 v74 x2 (M95 14 v70.toNatClampNeg) M95 else none)) else none) else none) else none) else none))
def f_Pl_countNames_b34 (N : Nat) (k2 : Int32 → zMem → Option (Int32 × zMem)) (x2 : Int32) (x3 : Int32) (s1 : Int32) (s2 : Int32) (M : zMem) : Option (Int32 × zMem) :=
  (if zin s1 128 = true then zlt (zu M 13 s1.toNatClampNeg s2) fun M34 => (if zin x3 128 = true then zlt (zu M34 14 x3.toNatClampNeg x2) fun M41 => (f_NM_wasPut N x2 M41).bind fun q49 => (if zin x3 128 = true then (if zbool q49.1 = true then zlt (zu q49.2 15 x3.toNatClampNeg q49.1) fun M52 => zlt (x2 + (1 : Int32)) fun v53 => k2 v53 M52 else none) else none) else none) else none)
def f_Pl_countNames_l2 (N : Nat) : Nat → Int32 → zMem → Option (Int32 × zMem)
  | 0, _, _ => none
  | n + 1, x2, M =>
    (if (64 : Int32) ≤ x2 then f_Pl_countNames_l62 N N (63 : Int32) M else (f_ED_indexOf N x2 M).bind fun q11 => zlt (((64 : Int32) + q11.1)) fun v15 => (f_NM_keyOf N x2 q11.2).bind fun q23 => (if q23.1 = 0 then f_Pl_countNames_b34 N (f_Pl_countNames_l2 N n) x2 v15 v15 (0 : Int32) q23.2 else f_Pl_countNames_b34 N (f_Pl_countNames_l2 N n) x2 v15 v15 (1 : Int32) q23.2))
def f_Pl_countNames (N : Nat) (M : zMem) : Option (Int32 × zMem) :=
  f_Pl_countNames_l2 N N (0 : Int32) M
def f_Pl_isInner (N : Nat) (x1 : Int32) (M : zMem) : Option (Int32 × zMem) :=
  (if (64 : Int32) ≤ x1 then some ((0 : Int32), M) else (if zin x1 128 = true then (if (M 13 x1.toNatClampNeg) ≤ (1 : Int32) then some ((0 : Int32), M) else some ((1 : Int32), M)) else none))
def f_Pl_isNode (N : Nat) (x1 : Int32) (M : zMem) : Option (Int32 × zMem) :=
  (if zin x1 128 = true then (if (M 13 x1.toNatClampNeg) ≤ 0 then some ((0 : Int32), M) else (if x1 = (1 : Int32) then some ((1 : Int32), M) else (f_Pl_isInner N (x1 / (2 : Int32)) M).bind fun q18 => (if q18.1 = 0 then some ((0 : Int32), q18.2) else some ((1 : Int32), q18.2)))) else none)
def f_St_placeOfLeaf (N : Nat) (x0 : Int32) (M : zMem) : Option (Int32 × zMem) :=
  (f_ED_indexOf N x0 M).bind fun q3 => some (((64 : Int32) + q3.1), q3.2)
def f_Pl_settle (N : Nat) (x1 : Int32) (M : zMem) : Option (Int32 × zMem) :=
  (f_Pl_isNode N x1 M).bind fun q2 => (if q2.1 = 0 then (if zin x1 128 = true then zlt (zu q2.2 16 x1.toNatClampNeg (-1 : Int32)) fun M14 => some (0, M14) else none) else (if zin x1 128 = true then (if (q2.2 15 x1.toNatClampNeg) = 0 then (f_Pl_isInner N x1 q2.2).bind fun q67 => (if q67.1 = 0 then (if zin x1 128 = true then (f_St_placeOfLeaf N (q67.2 14 x1.toNatClampNeg) q67.2).bind fun q103 => (if zin q103.1 128 = true then (if zin x1 128 = true then zlt (zu q103.2 16 x1.toNatClampNeg (q103.2 11 q103.1.toNatClampNeg)) fun M107 => some (0, M107) else none) else none) else none) else (if zin x1 128 = true then (if zin x1 128 = true then zlt (zu q67.2 16 x1.toNatClampNeg (q67.2 11 x1.toNatClampNeg)) fun M84 => some (0, M84) else none) else none)) else (if zin x1 128 = true then zlt (zu q2.2 16 x1.toNatClampNeg ((q2.2 5 7) + (q2.2 12 5))) fun M41 => (if zin (M41 12 5) 128 = true then zlt (zu M41 17 (M41 12 5).toNatClampNeg x1) fun M51 => zlt (zu M51 12 5 ((M51 12 5) + (1 : Int32))) fun M59 => some (0, M59) else none) else none)) else none))
def f_Pl_draw_b67 (N : Nat) (k12 : Int32 → zMem → Option (Int32 × zMem)) (x3 : Int32) (M : zMem) : Option (Int32 × zMem) :=
  zlt (x3 + (1 : Int32)) fun v67 => k12 v67 M
def f_Pl_draw_l35 (N : Nat) (k12 : Int32 → zMem → Option (Int32 × zMem)) : Nat → Int32 → Int32 → Int32 → zMem → Option (Int32 × zMem)
  | 0, _, _, _, _ => none
  | n + 1, x3, x4, x5, M =>
    (if x5 ≤ 0 then f_Pl_draw_b67 N k12 x3 M else (if (zrem x4 (2 : Int32)) = (1 : Int32) then zlt ((x4 / (2 : Int32))) fun v52 => (f_Pl_settle N v52 M).bind fun q58 => zlt (x5 + (-1 : Int32)) fun v61 => (f_Pl_draw_l35 N k12 n) x3 v52 v61 q58.2 else f_Pl_draw_b67 N k12 x3 M))
def f_Pl_draw_l12 (N : Nat) : Nat → Int32 → zMem → Option (Int32 × zMem)
  | 0, _, _ => none
  | n + 1, x3, M =>
    (if (64 : Int32) ≤ x3 then some (0, M) else zlt (((64 : Int32) + x3)) fun v22 => (f_Pl_settle N v22 M).bind fun q28 => f_Pl_draw_l35 N (f_Pl_draw_l12 N n) N x3 v22 (6 : Int32) q28.2)
def f_Pl_draw (N : Nat) (M : zMem) : Option (Int32 × zMem) :=
  (f_Pl_countNames N M).bind fun q2 => zlt (zu q2.2 12 5 (0 : Int32)) fun M7 => f_Pl_draw_l12 N N (0 : Int32) M7
def f_St_isBlock (N : Nat) (x1 : Int32) (M : zMem) : Option (Int32 × zMem) :=
  (if x1 < 0 then some ((0 : Int32), M) else (if (M 5 7) ≤ x1 then some ((0 : Int32), M) else some ((1 : Int32), M)))
def f_St_digestOf (N : Nat) (x1 : Int32) (M : zMem) : Option (Int32 × zMem) :=
  (f_St_isBlock N x1 M).bind fun q2 => (if q2.1 = 0 then some ((0 : Int32), q2.2) else (if zin x1 300 = true then some ((q2.2 9 x1.toNatClampNeg), q2.2) else none))
def f_St_append (N : Nat) (x1 : Int32) (x2 : Int32) (x3 : Int32) (x4 : Int32) (x5 : Int32) (M : zMem) : Option (Int32 × zMem) :=
  (if (M 5 7) < (300 : Int32) then (if zin (M 5 7) 300 = true then zlt (zu M 6 (M 5 7).toNatClampNeg x1) fun M20 => (if zin (M20 5 7) 300 = true then zlt (zu M20 7 (M20 5 7).toNatClampNeg x2) fun M30 => (if zin (M30 5 7) 300 = true then zlt (zu M30 8 (M30 5 7).toNatClampNeg x3) fun M40 => (if zin (M40 5 7) 300 = true then zlt (zu M40 9 (M40 5 7).toNatClampNeg x4) fun M51 => (if zin (M51 5 7) 300 = true then zlt (zu M51 10 (M51 5 7).toNatClampNeg x5) fun M62 => zlt (zu M62 5 7 ((M62 5 7) + (1 : Int32))) fun M70 => some (0, M70) else none) else none) else none) else none) else none) else some (0, M))
def f_St_writeInner (N : Nat) (x1 : Int32) (x2 : Int32) (x3 : Int32) (M : zMem) : Option (Int32 × zMem) :=
  (f_St_digestOf N x2 M).bind fun q7 => (f_St_digestOf N x3 q7.2).bind fun q12 => (f_Dg_digest N (2 : Int32) q7.1 q12.1 q12.2).bind fun q15 => (f_St_append N (2 : Int32) x2 x3 q15.1 x1 q15.2).bind fun q27 => some (0, q27.2)
def f_St_writeLeaf (N : Nat) (x1 : Int32) (x2 : Int32) (M : zMem) : Option (Int32 × zMem) :=
  (f_Dg_digest N (1 : Int32) x1 x2 M).bind fun q7 => (f_St_placeOfLeaf N x1 q7.2).bind fun q17 => (f_St_append N (1 : Int32) x1 x2 q7.1 q17.1 q17.2).bind fun q20 => some (0, q20.2)
def f_ED_writeNode (N : Nat) (x1 : Int32) (M : zMem) : Option (Int32 × zMem) :=
  (f_Pl_isInner N x1 M).bind fun q5 => (if q5.1 = 0 then (if zin x1 128 = true then zlt ((q5.2 14 x1.toNatClampNeg)) fun v55 => (f_NM_keyOf N v55 q5.2).bind fun q66 => (f_St_writeLeaf N v55 q66.1 q66.2).bind fun q69 => some (0, q69.2) else none) else (if zin ((2 : Int32) * x1) 128 = true then (if zin (((2 : Int32) * x1) + (1 : Int32)) 128 = true then (f_St_writeInner N x1 (q5.2 16 ((2 : Int32) * x1).toNatClampNeg) (q5.2 16 (((2 : Int32) * x1) + (1 : Int32)).toNatClampNeg) q5.2).bind fun q40 => some (0, q40.2) else none) else none))
def f_NM_dropOpen_l2 (N : Nat) : Nat → Int32 → zMem → Option (Int32 × zMem)
  | 0, _, _ => none
  | n + 1, x1, M =>
    (if (64 : Int32) ≤ x1 then zlt (zu M 2 3 (0 : Int32)) fun M23 => some (0, M23) else (if zin x1 64 = true then zlt (zu M 4 x1.toNatClampNeg (0 : Int32)) fun M14 => zlt (x1 + (1 : Int32)) fun v15 => (f_NM_dropOpen_l2 N n) v15 M14 else none))
def f_NM_dropOpen (N : Nat) (M : zMem) : Option (Int32 × zMem) :=
  f_NM_dropOpen_l2 N N (0 : Int32) M
def f_ED_burnFuse (N : Nat) (M : zMem) : Option (Int32 × zMem) :=
  (if (M 0 12) = 0 then some (0, M) else zlt (zu M 0 12 ((M 0 12) - (1 : Int32))) fun M15 => (if (M15 0 12) = 0 then zlt (zu M15 0 11 (1 : Int32)) fun M27 => (f_NM_dropOpen N M27).bind fun q34 => some (0, q34.2) else some (0, M15)))
def f_St_writeCheckpoint_l5 (N : Nat) : Nat → Int32 → Int32 → Int32 → zMem → Option (Int32 × zMem)
  | 0, _, _, _, _ => none
  | n + 1, x1, x2, x3, M =>
    (if (M 5 7) ≤ x3 then (f_St_append N (3 : Int32) x1 x2 (0 : Int32) (0 : Int32) M).bind fun q37 => zlt (zu q37.2 5 8 (q37.2 5 7)) fun M45 => some (0, M45) else (if zin x3 300 = true then (if zin (M 10 x3.toNatClampNeg) 128 = true then zlt (zu M 11 (M 10 x3.toNatClampNeg).toNatClampNeg x3) fun M24 => zlt (x3 + (1 : Int32)) fun v25 => (f_St_writeCheckpoint_l5 N n) x1 x2 v25 M24 else none) else none))
def f_St_writeCheckpoint (N : Nat) (x1 : Int32) (x2 : Int32) (M : zMem) : Option (Int32 × zMem) :=
  zlt ((M 5 8)) fun v4 => f_St_writeCheckpoint_l5 N N x1 x2 v4 M
def f_Hi_rowDigest_b118 (N : Nat) (k35 : Int32 → zMem → Option (Int32 × zMem)) (x3 : Int32) (x4 : Int32) (M : zMem) : Option (Int32 × zMem) :=
  zlt ((x3 - x4)) fun v122 => k35 v122 M
def f_Hi_rowDigest_l48 (N : Nat) (k35 : Int32 → zMem → Option (Int32 × zMem)) : Nat → Int32 → Int32 → Int32 → zMem → Option (Int32 × zMem)
  | 0, _, _, _, _ => none
  | n + 1, x3, x4, x5, M =>
    (if x4 ≤ x5 then (if (zrem x3 (2 : Int32)) = (1 : Int32) then (if zin (x3 - (1 : Int32)) 40 = true then (if zin x4 40 = true then zlt (zu M 23 x4.toNatClampNeg (M 23 (x3 - (1 : Int32)).toNatClampNeg)) fun M117 => f_Hi_rowDigest_b118 N k35 x3 x4 M117 else none) else none) else f_Hi_rowDigest_b118 N k35 x3 x4 M) else (if zin ((2 : Int32) * x5) 40 = true then (if zin (((2 : Int32) * x5) + (1 : Int32)) 40 = true then (f_Dg_digest N (4 : Int32) (M 23 ((2 : Int32) * x5).toNatClampNeg) (M 23 (((2 : Int32) * x5) + (1 : Int32)).toNatClampNeg) M).bind fun q86 => (if zin x5 40 = true then zlt (zu q86.2 23 x5.toNatClampNeg q86.1) fun M89 => zlt (x5 + (1 : Int32)) fun v90 => (f_Hi_rowDigest_l48 N k35 n) x3 x4 v90 M89 else none) else none) else none))
def f_Hi_rowDigest_l35 (N : Nat) : Nat → Int32 → zMem → Option (Int32 × zMem)
  | 0, _, _ => none
  | n + 1, x3, M =>
    (if x3 ≤ (1 : Int32) then some ((M 23 0), M) else zlt ((x3 / (2 : Int32))) fun v43 => f_Hi_rowDigest_l48 N (f_Hi_rowDigest_l35 N n) N x3 v43 (0 : Int32) M)
def f_Hi_rowDigest_l7 (N : Nat) : Nat → Int32 → Int32 → Int32 → zMem → Option (Int32 × zMem)
  | 0, _, _, _, _ => none
  | n + 1, x1, x3, x4, M =>
    (if x3 ≤ x4 then f_Hi_rowDigest_l35 N N x3 M else (if zin (x1 + x4) 40 = true then (if zin x4 40 = true then zlt (zu M 23 x4.toNatClampNeg (M 21 (x1 + x4).toNatClampNeg)) fun M28 => zlt (x4 + (1 : Int32)) fun v29 => (f_Hi_rowDigest_l7 N n) x1 x3 v29 M28 else none) else none))
def f_Hi_rowDigest (N : Nat) (x1 : Int32) (x2 : Int32) (M : zMem) : Option (Int32 × zMem) :=
  zlt ((x2 - x1)) fun v3 => f_Hi_rowDigest_l7 N N x1 v3 (0 : Int32) M
def f_Hi_add (N : Nat) (x1 : Int32) (x2 : Int32) (M : zMem) : Option (Int32 × zMem) :=
  (if (M 18 6) < (40 : Int32) then (if zin (M 18 6) 40 = true then zlt (zu M 19 (M 18 6).toNatClampNeg x1) fun M19 => (if zin (M19 18 6) 40 = true then zlt (zu M19 20 (M19 18 6).toNatClampNeg x2) fun M29 => (f_Dg_digest N (3 : Int32) x2 (M29 18 6) M29).bind fun q48 => (if zin (M29 18 6) 40 = true then zlt (zu q48.2 21 (M29 18 6).toNatClampNeg q48.1) fun M51 => (f_Hi_rowDigest N (0 : Int32) ((M51 18 6) + (1 : Int32)) M51).bind fun q68 => (if zin (M51 18 6) 40 = true then zlt (zu q68.2 22 (M51 18 6).toNatClampNeg q68.1) fun M71 => zlt (zu M71 18 6 ((M71 18 6) + (1 : Int32))) fun M79 => some (0, M79) else none) else none) else none) else none) else some (0, M))
def f_NM_keepOpen_b35 (N : Nat) (k2 : Int32 → zMem → Option (Int32 × zMem)) (x1 : Int32) (M : zMem) : Option (Int32 × zMem) :=
  (f_NM_keyOf N x1 M).bind fun q42 => (if zin x1 64 = true then zlt (zu q42.2 3 x1.toNatClampNeg q42.1) fun M45 => zlt (x1 + (1 : Int32)) fun v46 => k2 v46 M45 else none)
def f_NM_keepOpen_l2 (N : Nat) : Nat → Int32 → zMem → Option (Int32 × zMem)
  | 0, _, _ => none
  | n + 1, x1, M =>
    (if (64 : Int32) ≤ x1 then (f_NM_dropOpen N M).bind fun q53 => some (0, q53.2) else (f_NM_wasPut N x1 M).bind fun q10 => (if q10.1 = 0 then f_NM_keepOpen_b35 N (f_NM_keepOpen_l2 N n) x1 q10.2 else (if zin x1 64 = true then (if (q10.2 3 x1.toNatClampNeg) = 0 then zlt (zu q10.2 2 2 ((q10.2 2 2) + (1 : Int32))) fun M32 => f_NM_keepOpen_b35 N (f_NM_keepOpen_l2 N n) x1 M32 else f_NM_keepOpen_b35 N (f_NM_keepOpen_l2 N n) x1 q10.2) else none)))
def f_NM_keepOpen (N : Nat) (M : zMem) : Option (Int32 × zMem) :=
  f_NM_keepOpen_l2 N N (0 : Int32) M
def f_ED_closeEpoch (N : Nat) (M : zMem) : Option (Int32 × zMem) :=
  zlt ((M 16 1)) fun v9 => (f_St_writeCheckpoint N (M 18 6) v9 M).bind fun q22 => (f_St_digestOf N v9 q22.2).bind fun q35 => (f_Hi_add N v9 q35.1 q35.2).bind fun q38 => (f_NM_keepOpen N q38.2).bind fun q45 => some (0, q45.2)
def f_ED_close_b121 (N : Nat) (M : zMem) : Option (Int32 × zMem) :=
  (if (M 0 11) = 0 then some (((M 18 6) - (1 : Int32)), M) else some ((-9 : Int32), M))
def f_ED_close_b106 (N : Nat) (M : zMem) : Option (Int32 × zMem) :=
  (if (M 0 11) = 0 then (f_ED_closeEpoch N M).bind fun q114 => (f_ED_burnFuse N q114.2).bind fun q118 => f_ED_close_b121 N q118.2 else f_ED_close_b121 N M)
def f_ED_close_l65 (N : Nat) : Nat → Int32 → zMem → Option (Int32 × zMem)
  | 0, _, _ => none
  | n + 1, x1, M =>
    (if (M 12 5) ≤ x1 then f_ED_close_b106 N M else (if (M 0 11) = 0 then (if zin x1 128 = true then (f_ED_writeNode N (M 17 x1.toNatClampNeg) M).bind fun q93 => (f_ED_burnFuse N q93.2).bind fun q97 => zlt (x1 + (1 : Int32)) fun v100 => (f_ED_close_l65 N n) v100 q97.2 else none) else f_ED_close_b106 N M))
def f_ED_close (N : Nat) (M : zMem) : Option (Int32 × zMem) :=
  (if (M 0 11) = 0 then (f_Pl_draw N M).bind fun q22 => (if (40 : Int32) ≤ (q22.2 18 6) then some ((-2 : Int32), q22.2) else (if (((q22.2 5 7) + (q22.2 12 5)) + (1 : Int32)) ≤ (300 : Int32) then f_ED_close_l65 N N (0 : Int32) q22.2 else some ((-2 : Int32), q22.2))) else some ((-9 : Int32), M))
def f_ED_fuse (N : Nat) (x1 : Int32) (M : zMem) : Option (Int32 × zMem) :=
  (if (M 0 11) = 0 then (if x1 < (1 : Int32) then some ((0 : Int32), M) else (if x1 ≤ (100 : Int32) then zlt (zu M 0 12 x1) fun M22 => some ((1 : Int32), M22) else some ((0 : Int32), M))) else some ((0 : Int32), M))
def f_St_cutOff (N : Nat) (M : zMem) : Option (Int32 × zMem) :=
  zlt (((M 5 7) - (M 5 8))) fun v9 => zlt (zu M 5 7 (M 5 8)) fun M15 => some (v9, M15)
def f_ED_restart (N : Nat) (M : zMem) : Option (Int32 × zMem) :=
  (if (M 0 11) = 0 then some ((-1 : Int32), M) else zlt (zu M 0 11 (0 : Int32)) fun M11 => (f_St_cutOff N M11).bind fun q18 => some (q18.1, q18.2))
def f_Hi_isClosed (N : Nat) (x1 : Int32) (M : zMem) : Option (Int32 × zMem) :=
  (if x1 < 0 then some ((0 : Int32), M) else (if (M 18 6) ≤ x1 then some ((0 : Int32), M) else some ((1 : Int32), M)))
def f_ED_root (N : Nat) (x1 : Int32) (M : zMem) : Option (Int32 × zMem) :=
  (f_Hi_isClosed N x1 M).bind fun q5 => (if q5.1 = 0 then some ((-1 : Int32), q5.2) else (if zin x1 40 = true then some ((q5.2 20 x1.toNatClampNeg), q5.2) else none))
def f_ED_head (N : Nat) (x1 : Int32) (M : zMem) : Option (Int32 × zMem) :=
  (f_Hi_isClosed N x1 M).bind fun q5 => (if q5.1 = 0 then some ((-1 : Int32), q5.2) else (if zin x1 40 = true then some ((q5.2 22 x1.toNatClampNeg), q5.2) else none))
def f_ED_block (N : Nat) (x1 : Int32) (x2 : Int32) (M : zMem) : Option (Int32 × zMem) :=
  (f_St_isBlock N x1 M).bind fun q5 => (if q5.1 = 0 then some ((-2 : Int32), q5.2) else (if x2 = 0 then (if zin x1 300 = true then some ((q5.2 6 x1.toNatClampNeg), q5.2) else none) else (if x2 = 1 then (if zin x1 300 = true then some ((q5.2 7 x1.toNatClampNeg), q5.2) else none) else (if x2 = 2 then (if zin x1 300 = true then some ((q5.2 8 x1.toNatClampNeg), q5.2) else none) else some ((-2 : Int32), q5.2)))))
def f_ED_size (N : Nat) (x1 : Int32) (M : zMem) : Option (Int32 × zMem) :=
  (if x1 = 0 then some ((M 18 6), M) else (if x1 = 1 then some ((M 5 7), M) else (if x1 = 2 then some ((M 2 3), M) else (if x1 = 3 then some ((M 2 2), M) else (if x1 = 4 then some ((M 0 13), M) else (if x1 = 5 then some ((M 0 14), M) else (if x1 = 6 then (if (M 0 11) = 0 then some ((0 : Int32), M) else some ((1 : Int32), M)) else some ((-1 : Int32), M))))))))
def f_ED_bufferAt (N : Nat) (x1 : Int32) (M : zMem) : Option (Option Nat × zMem) :=
  (if x1 < 0 then some (none, M) else (if (4 : Int32) ≤ x1 then some (none, M) else (if zin x1 4 = true then some (some (28 + 2 * x1.toNatClampNeg), M) else none)))
def f_Bu_startWith (N : Nat) (t : Nat) (x1 : Int32) (M : zMem) : Option (Int32 × zMem) :=
  (if zis_Bu t = true then zlt (zu M t 1 x1) fun M2 => some (0, M2) else none)
def f_St_isOfKind (N : Nat) (x1 : Int32) (x2 : Int32) (M : zMem) : Option (Int32 × zMem) :=
  (f_St_isBlock N x1 M).bind fun q2 => (if q2.1 = 0 then some ((0 : Int32), q2.2) else (if zin x1 300 = true then (if (q2.2 6 x1.toNatClampNeg) = x2 then some ((1 : Int32), q2.2) else some ((0 : Int32), q2.2)) else none))
def f_ED_bitOf (N : Nat) (x0 : Int32) (x1 : Int32) (M : zMem) : Option (Int32 × zMem) :=
  some (((zshr x0 ((5 : Int32) - x1)) &&& (1 : Int32)), M)
def f_St_partOf (N : Nat) (x1 : Int32) (x2 : Int32) (M : zMem) : Option (Int32 × zMem) :=
  (if x2 = 0 then (if zin x1 300 = true then some ((M 7 x1.toNatClampNeg), M) else none) else (if zin x1 300 = true then some ((M 8 x1.toNatClampNeg), M) else none))
def f_Bu_replaceOrAppend (N : Nat) (t : Nat) (x1 : Int32) (x2 : Int32) (M : zMem) : Option (Int32 × zMem) :=
  (if zis_Bu t = true then (if x1 < 0 then some ((0 : Int32), M) else (if (M t 1) < x1 then some ((0 : Int32), M) else (if x1 < (30 : Int32) then (if zin x1 30 = true then zlt (zu M (t + 1) x1.toNatClampNeg x2) fun M26 => zlt (zu M26 t 1 (if (M26 t 1) < (x1 + (1 : Int32)) then (x1 + (1 : Int32)) else (M26 t 1))) fun M38 => some ((1 : Int32), M38) else none) else some ((0 : Int32), M)))) else none)
def f_Bu_append (N : Nat) (t : Nat) (x1 : Int32) (M : zMem) : Option (Int32 × zMem) :=
  (if zis_Bu t = true then (f_Bu_replaceOrAppend N t (M t 1) x1 M).bind fun q6 => some (0, q6.2) else none)
def f_ED_proveLookup_b198 (N : Nat) (x2 : Int32) (x8 : Int32) (x9 : Int32) (s1 : Int32) (M : zMem) : Option (Int32 × zMem) :=
  zlt (zu M 0 14 s1) fun M198 => (if x8 = x2 then some (x9, M198) else some ((0 : Int32), M198))
def f_ED_proveLookup_b149 (N : Nat) (p1 : Nat) (x2 : Int32) (x6 : Int32) (x7 : Int32) (x8 : Int32) (s0 : Int32) (M : zMem) : Option (Int32 × zMem) :=
  zlt (zu M (p1 + 1) 0 x6) fun M158 => zlt (zu M158 (p1 + 1) 1 x8) fun M166 => zlt (zu M166 (p1 + 1) 2 s0) fun M174 => zlt (zu M174 0 13 (M174 p1 1)) fun M180 => (if x7 = 0 then f_ED_proveLookup_b198 N x2 x8 s0 x6 M180 else f_ED_proveLookup_b198 N x2 x8 s0 (x6 + (1 : Int32)) M180)
def f_ED_proveLookup_b128 (N : Nat) (p1 : Nat) (x2 : Int32) (x5 : Int32) (x6 : Int32) (x7 : Int32) (s0 : Int32) (M : zMem) : Option (Int32 × zMem) :=
  (if x7 = 0 then f_ED_proveLookup_b149 N p1 x2 x6 x7 s0 (0 : Int32) M else (if zin x5 300 = true then f_ED_proveLookup_b149 N p1 x2 x6 x7 s0 (M 8 x5.toNatClampNeg) M else none))
def f_ED_proveLookup_b97 (N : Nat) (p1 : Nat) (x2 : Int32) (x5 : Int32) (x6 : Int32) (M : zMem) : Option (Int32 × zMem) :=
  (f_St_isOfKind N x5 (1 : Int32) M).bind fun q104 => (if q104.1 = 0 then f_ED_proveLookup_b128 N p1 x2 x5 x6 q104.1 (-1 : Int32) q104.2 else (if zin x5 300 = true then f_ED_proveLookup_b128 N p1 x2 x5 x6 q104.1 (q104.2 7 x5.toNatClampNeg) q104.2 else none))
def f_ED_proveLookup_l25 (N : Nat) (p1 : Nat) : Nat → Int32 → Int32 → Int32 → Int32 → zMem → Option (Int32 × zMem)
  | 0, _, _, _, _, _ => none
  | n + 1, x2, x4, x5, x6, M =>
    (if (6 : Int32) ≤ x6 then f_ED_proveLookup_b97 N p1 x2 x5 x6 M else (f_St_isOfKind N x5 (2 : Int32) M).bind fun q39 => (if q39.1 = 0 then f_ED_proveLookup_b97 N p1 x2 x5 x6 q39.2 else (f_ED_bitOf N x4 x6 q39.2).bind fun q49 => (f_St_partOf N x5 ((1 : Int32) - q49.1) q49.2).bind fun q69 => (f_St_digestOf N q69.1 q69.2).bind fun q72 => (f_Bu_append N p1 q72.1 q72.2).bind fun q75 => (f_St_partOf N x5 q49.1 q75.2).bind fun q86 => zlt (x6 + (1 : Int32)) fun v91 => (f_ED_proveLookup_l25 N p1 n) x2 x4 q86.1 v91 q86.2))
def f_ED_proveLookup (N : Nat) (p1 : Nat) (x2 : Int32) (x3 : Int32) (M : zMem) : Option (Int32 × zMem) :=
  (if zis_Bu p1 = true then (f_ED_indexOf N x2 M).bind fun q1 => (if zin x3 40 = true then zlt ((q1.2 19 x3.toNatClampNeg)) fun v15 => (f_Bu_startWith N p1 (3 : Int32) q1.2).bind fun q22 => f_ED_proveLookup_l25 N p1 N x2 q1.1 v15 (0 : Int32) q22.2 else none) else none)
def f_Wy_greatestPowerBelow_l3 (N : Nat) : Nat → Int32 → Int32 → zMem → Option (Int32 × zMem)
  | 0, _, _, _ => none
  | n + 1, x0, x1, M =>
    (if x1 ≤ (1 : Int32) then some ((1 : Int32), M) else (if x0 ≤ x1 then zlt ((x1 / (2 : Int32))) fun v18 => (f_Wy_greatestPowerBelow_l3 N n) x0 v18 M else some (x1, M)))
def f_Wy_greatestPowerBelow (N : Nat) (x0 : Int32) (M : zMem) : Option (Int32 × zMem) :=
  f_Wy_greatestPowerBelow_l3 N N x0 (32 : Int32) M
def f_Wy_go_b159 (N : Nat) (k17 : Int32 → Int32 → zMem → Option (Int32 × zMem)) (t : Nat) (x1 : Int32) (x3 : Int32) (s1 : Int32) (M : zMem) : Option (Int32 × zMem) :=
  zlt (zu M t 4 s1) fun M159 => zlt (zu M159 t 2 ((M159 t 2) + (1 : Int32))) fun M169 => k17 x1 x3 M169
def f_Wy_go_b141 (N : Nat) (k17 : Int32 → Int32 → zMem → Option (Int32 × zMem)) (t : Nat) (x1 : Int32) (x3 : Int32) (x4 : Int32) (x5 : Int32) (s1 : Int32) (M : zMem) : Option (Int32 × zMem) :=
  zlt (zu M t 3 s1) fun M141 => (if x5 = 0 then f_Wy_go_b159 N k17 t x1 x3 (M141 t 4) M141 else f_Wy_go_b159 N k17 t x1 x3 x4 M141)
def f_Wy_go_b125 (N : Nat) (k17 : Int32 → Int32 → zMem → Option (Int32 × zMem)) (t : Nat) (x1 : Int32) (x3 : Int32) (x4 : Int32) (x5 : Int32) (s1 : Int32) (s2 : Int32) (M : zMem) : Option (Int32 × zMem) :=
  (if zin s1 6 = true then zlt (zu M (t + 2) s1.toNatClampNeg s2) fun M125 => (if x5 = 0 then f_Wy_go_b141 N k17 t x1 x3 x4 x5 x4 M125 else f_Wy_go_b141 N k17 t x1 x3 x4 x5 (M125 t 3) M125) else none)
def f_Wy_go_b102 (N : Nat) (k17 : Int32 → Int32 → zMem → Option (Int32 × zMem)) (t : Nat) (x1 : Int32) (x3 : Int32) (x4 : Int32) (x5 : Int32) (s1 : Int32) (s2 : Int32) (M : zMem) : Option (Int32 × zMem) :=
  (if zin s1 6 = true then zlt (zu M (t + 1) s1.toNatClampNeg s2) fun M102 => (if x5 = 0 then f_Wy_go_b125 N k17 t x1 x3 x4 x5 (M102 t 2) x4 M102 else f_Wy_go_b125 N k17 t x1 x3 x4 x5 (M102 t 2) (M102 t 4) M102) else none)
def f_Wy_go_b78 (N : Nat) (k17 : Int32 → Int32 → zMem → Option (Int32 × zMem)) (t : Nat) (x1 : Int32) (x3 : Int32) (x4 : Int32) (s0 : Int32) (M : zMem) : Option (Int32 × zMem) :=
  (if s0 = 0 then f_Wy_go_b102 N k17 t x1 x3 x4 s0 (M t 2) (M t 3) M else f_Wy_go_b102 N k17 t x1 x3 x4 s0 (M t 2) x4 M)
def f_Wy_go_b48 (N : Nat) (k17 : Int32 → Int32 → zMem → Option (Int32 × zMem)) (t : Nat) (x1 : Int32) (x3 : Int32) (M : zMem) : Option (Int32 × zMem) :=
  (f_Wy_greatestPowerBelow N ((M t 4) - (M t 3)) M).bind fun q61 => zlt (((M t 3) + q61.1)) fun v65 => (if v65 ≤ x1 then f_Wy_go_b78 N k17 t x1 x3 v65 (0 : Int32) q61.2 else f_Wy_go_b78 N k17 t x1 x3 v65 (1 : Int32) q61.2)
def f_Wy_go_l17 (N : Nat) (t : Nat) : Nat → Int32 → Int32 → zMem → Option (Int32 × zMem)
  | 0, _, _, _ => none
  | n + 1, x1, x3, M =>
    (if (6 : Int32) ≤ (M t 2) then some (0, M) else (if x1 < ((M t 4) - (1 : Int32)) then f_Wy_go_b48 N (f_Wy_go_l17 N t n) t x1 x3 M else (if x3 = 0 then some (0, M) else (if x1 ≤ (M t 3) then some (0, M) else f_Wy_go_b48 N (f_Wy_go_l17 N t n) t x1 x3 M))))
def f_Wy_go (N : Nat) (t : Nat) (x1 : Int32) (x2 : Int32) (x3 : Int32) (M : zMem) : Option (Int32 × zMem) :=
  (if zis_Wy t = true then zlt (zu M t 3 (0 : Int32)) fun M2 => zlt (zu M2 t 4 (x2 + (1 : Int32))) fun M9 => zlt (zu M9 t 2 (0 : Int32)) fun M14 => f_Wy_go_l17 N t N x1 x3 M14 else none)
def f_ED_proveHistory_l76 (N : Nat) (p1 : Nat) : Nat → Int32 → zMem → Option (Int32 × zMem)
  | 0, _, _ => none
  | n + 1, x5, M =>
    (if x5 < 0 then zlt (zu M 0 13 (M p1 1)) fun M123 => some ((M123 p1 1), M123) else (if zin x5 6 = true then (if zin x5 6 = true then (f_Hi_rowDigest N (M 25 x5.toNatClampNeg) (M 26 x5.toNatClampNeg) M).bind fun q106 => (f_Bu_append N p1 q106.1 q106.2).bind fun q109 => zlt (x5 + (-1 : Int32)) fun v112 => (f_ED_proveHistory_l76 N p1 n) v112 q109.2 else none) else none))
def f_ED_proveHistory_b65 (N : Nat) (p1 : Nat) (M : zMem) : Option (Int32 × zMem) :=
  zlt (((M 24 2) - (1 : Int32))) fun v74 => f_ED_proveHistory_l76 N p1 N v74 M
def f_ED_proveHistory_b17 (N : Nat) (p1 : Nat) (x2 : Int32) (s1 : Int32) (s2 : Int32) (s3 : Int32) (M : zMem) : Option (Int32 × zMem) :=
  (f_Wy_go N 24 s1 s2 s3 M).bind fun q17 => (f_Bu_startWith N p1 (0 : Int32) q17.2).bind fun q22 => (if x2 = (2 : Int32) then (if (q22.2 24 3) ≤ 0 then f_ED_proveHistory_b65 N p1 q22.2 else (f_Hi_rowDigest N (q22.2 24 3) (q22.2 24 4) q22.2).bind fun q59 => (f_Bu_append N p1 q59.1 q59.2).bind fun q62 => f_ED_proveHistory_b65 N p1 q62.2) else f_ED_proveHistory_b65 N p1 q22.2)
def f_ED_proveHistory (N : Nat) (p1 : Nat) (x2 : Int32) (x3 : Int32) (x4 : Int32) (M : zMem) : Option (Int32 × zMem) :=
  (if zis_Bu p1 = true then (if x2 = (1 : Int32) then f_ED_proveHistory_b17 N p1 x2 x3 x4 (1 : Int32) M else f_ED_proveHistory_b17 N p1 x2 x3 x4 (0 : Int32) M) else none)
def f_ED_prove_b71 (N : Nat) (p12 : Nat) (x2 : Int32) (x3 : Int32) (x4 : Int32) (M : zMem) : Option (Int32 × zMem) :=
  (if x3 < 0 then some ((-1 : Int32), M) else (if x3 ≤ x4 then (f_ED_proveHistory N p12 x2 x3 x4 M).bind fun q90 => some (q90.1, q90.2) else some ((-1 : Int32), M)))
def f_ED_prove (N : Nat) (x1 : Int32) (x2 : Int32) (x3 : Int32) (x4 : Int32) (M : zMem) : Option (Int32 × zMem) :=
  (if (M 0 11) = 0 then (f_ED_bufferAt N x1 M).bind fun q12 => zcs q12.1 (some ((-1 : Int32), q12.2)) fun p12 => (if zis_Bu p12 = true then (f_Hi_isClosed N x4 q12.2).bind fun q28 => (if q28.1 = 0 then some ((-1 : Int32), q28.2) else (if x2 = 0 then (f_ED_isName N x3 q28.2).bind fun q41 => (if q41.1 = 0 then some ((-1 : Int32), q41.2) else (f_ED_proveLookup N p12 x3 x4 q41.2).bind fun q53 => some (q53.1, q53.2)) else (if x2 = (1 : Int32) then f_ED_prove_b71 N p12 x2 x3 x4 q28.2 else (if x2 = (2 : Int32) then f_ED_prove_b71 N p12 x2 x3 x4 q28.2 else some ((-1 : Int32), q28.2))))) else none) else some ((-9 : Int32), M))
def f_ED_word (N : Nat) (x1 : Int32) (x2 : Int32) (M : zMem) : Option (Int32 × zMem) :=
  (f_ED_bufferAt N x1 M).bind fun q2 => zcs q2.1 (some ((-2 : Int32), q2.2)) fun p2 => (if zis_Bu p2 = true then (if x2 = (-1 : Int32) then some ((q2.2 p2 1), q2.2) else (if x2 < 0 then some ((-2 : Int32), q2.2) else (if (q2.2 p2 1) ≤ x2 then some ((-2 : Int32), q2.2) else (if zin x2 30 = true then some ((q2.2 (p2 + 1) x2.toNatClampNeg), q2.2) else none)))) else none)
def f_ED_poke (N : Nat) (x1 : Int32) (x2 : Int32) (x3 : Int32) (M : zMem) : Option (Int32 × zMem) :=
  (f_ED_bufferAt N x1 M).bind fun q2 => zcs q2.1 (some ((0 : Int32), q2.2)) fun p2 => (if zis_Bu p2 = true then (f_Bu_replaceOrAppend N p2 x2 x3 q2.2).bind fun q16 => (if q16.1 = 0 then some ((0 : Int32), q16.2) else some ((1 : Int32), q16.2)) else none)
def f_ED_trim (N : Nat) (x1 : Int32) (x2 : Int32) (M : zMem) : Option (Int32 × zMem) :=
  (f_ED_bufferAt N x1 M).bind fun q2 => zcs q2.1 (some ((0 : Int32), q2.2)) fun p2 => (if zis_Bu p2 = true then (if x2 < 0 then some ((0 : Int32), q2.2) else (if x2 ≤ (q2.2 p2 1) then zlt (zu q2.2 p2 1 x2) fun M26 => some ((1 : Int32), M26) else some ((0 : Int32), q2.2))) else none)
def f_LC_sharePrefix (N : Nat) (x0 : Int32) (x1 : Int32) (x2 : Int32) (M : zMem) : Option (Int32 × zMem) :=
  (if (zshr x0 ((6 : Int32) - x2)) = (zshr x1 ((6 : Int32) - x2)) then some ((1 : Int32), M) else some ((0 : Int32), M))
def f_LC_hasForm (N : Nat) (p0 : Nat) (x1 : Int32) (M : zMem) : Option (Int32 × zMem) :=
  (if zis_Bu p0 = true then (if (M p0 1) < (3 : Int32) then some ((0 : Int32), M) else (if (9 : Int32) < (M p0 1) then some ((0 : Int32), M) else (if (M (p0 + 1) 0) = ((M p0 1) - (3 : Int32)) then zlt ((M (p0 + 1) 1)) fun v40 => zlt ((M (p0 + 1) 2)) fun v47 => (if v40 = (-1 : Int32) then (if v47 = 0 then some ((1 : Int32), M) else some ((0 : Int32), M)) else (f_ED_isName N v40 M).bind fun q64 => (if q64.1 = 0 then some ((0 : Int32), q64.2) else (f_ED_isKey N v47 q64.2).bind fun q71 => (if q71.1 = 0 then some ((0 : Int32), q71.2) else (f_ED_indexOf N v40 q71.2).bind fun q78 => (f_ED_indexOf N x1 q78.2).bind fun q82 => (f_LC_sharePrefix N q78.1 q82.1 (q82.2 (p0 + 1) 0) q82.2).bind fun q91 => (if q91.1 = 0 then some ((0 : Int32), q91.2) else some ((1 : Int32), q91.2))))) else some ((0 : Int32), M)))) else none)
def f_LC_keepInput (N : Nat) (t : Nat) (x1 : Int32) (x2 : Int32) (x3 : Int32) (x4 : Int32) (M : zMem) : Option (Int32 × zMem) :=
  (if zis_LC t = true then (if zin ((3 : Int32) * x1) 21 = true then zlt (zu M (t + 1) ((3 : Int32) * x1).toNatClampNeg x2) fun M8 => (if zin (((3 : Int32) * x1) + (1 : Int32)) 21 = true then zlt (zu M8 (t + 1) (((3 : Int32) * x1) + (1 : Int32)).toNatClampNeg x3) fun M19 => (if zin (((3 : Int32) * x1) + (2 : Int32)) 21 = true then zlt (zu M19 (t + 1) (((3 : Int32) * x1) + (2 : Int32)).toNatClampNeg x4) fun M31 => (f_Dg_digest N x2 x3 x4 M31).bind fun q40 => some (q40.1, q40.2) else none) else none) else none) else none)
def f_LC_rootOf_b92 (N : Nat) (k44 : Int32 → Int32 → Int32 → zMem → Option (Int32 × zMem)) (t : Nat) (p1 : Nat) (x2 : Int32) (x4 : Int32) (s0 : Int32) (M : zMem) : Option (Int32 × zMem) :=
  zlt (x4 + (-1 : Int32)) fun v93 => k44 x2 s0 v93 M
def f_LC_rootOf_l44 (N : Nat) (t : Nat) (p1 : Nat) : Nat → Int32 → Int32 → Int32 → zMem → Option (Int32 × zMem)
  | 0, _, _, _, _ => none
  | n + 1, x2, x3, x4, M =>
    (if x4 < 0 then some (x3, M) else (if zin ((3 : Int32) + x4) 30 = true then zlt ((M (p1 + 1) ((3 : Int32) + x4).toNatClampNeg)) fun v58 => (f_ED_bitOf N x2 x4 M).bind fun q63 => (if q63.1 = 0 then (f_LC_keepInput N t x4 (2 : Int32) x3 v58 q63.2).bind fun q76 => f_LC_rootOf_b92 N (f_LC_rootOf_l44 N t p1 n) t p1 x2 x4 q76.1 q76.2 else (f_LC_keepInput N t x4 (2 : Int32) v58 x3 q63.2).bind fun q89 => f_LC_rootOf_b92 N (f_LC_rootOf_l44 N t p1 n) t p1 x2 x4 q89.1 q89.2) else none))
def f_LC_rootOf_b35 (N : Nat) (t : Nat) (p1 : Nat) (x2 : Int32) (s0 : Int32) (M : zMem) : Option (Int32 × zMem) :=
  zlt (((M t 2) - (1 : Int32))) fun v42 => f_LC_rootOf_l44 N t p1 N x2 s0 v42 M
def f_LC_rootOf (N : Nat) (t : Nat) (p1 : Nat) (x2 : Int32) (M : zMem) : Option (Int32 × zMem) :=
  (if zis_LC t = true then (if zis_Bu p1 = true then (if (M (p1 + 1) 1) = (-1 : Int32) then f_LC_rootOf_b35 N t p1 x2 (0 : Int32) M else (f_LC_keepInput N t (M t 2) (1 : Int32) (M (p1 + 1) 1) (M (p1 + 1) 2) M).bind fun q32 => f_LC_rootOf_b35 N t p1 x2 q32.1 q32.2) else none) else none)
def f_LC_accepts_b41 (N : Nat) (t : Nat) (p1 : Nat) (x2 : Int32) (x3 : Int32) (s1 : Int32) (M : zMem) : Option (Int32 × zMem) :=
  zlt (zu M t 3 s1) fun M41 => (f_ED_indexOf N x2 M41).bind fun q47 => (f_LC_rootOf N t p1 q47.1 q47.2).bind fun q50 => (if q50.1 = x3 then some ((1 : Int32), q50.2) else some ((0 : Int32), q50.2))
def f_LC_accepts (N : Nat) (t : Nat) (p1 : Nat) (x2 : Int32) (x3 : Int32) (M : zMem) : Option (Int32 × zMem) :=
  (if zis_LC t = true then (if zis_Bu p1 = true then (f_LC_hasForm N p1 x2 M).bind fun q2 => (if q2.1 = 0 then some ((0 : Int32), q2.2) else zlt (zu q2.2 t 2 (q2.2 (p1 + 1) 0)) fun M17 => (if (M17 (p1 + 1) 1) = x2 then f_LC_accepts_b41 N t p1 x2 x3 (M17 (p1 + 1) 2) M17 else f_LC_accepts_b41 N t p1 x2 x3 (0 : Int32) M17)) else none) else none)
def f_ED_check (N : Nat) (x1 : Int32) (x2 : Int32) (x3 : Int32) (M : zMem) : Option (Int32 × zMem) :=
  (f_ED_bufferAt N x1 M).bind fun q2 => zcs q2.1 (some ((-1 : Int32), q2.2)) fun p2 => (if zis_Bu p2 = true then (f_ED_isName N x2 q2.2).bind fun q13 => (if q13.1 = 0 then some ((-1 : Int32), q13.2) else (f_LC_accepts N 36 p2 x2 x3 q13.2).bind fun q27 => (if q27.1 = 0 then some ((-1 : Int32), q27.2) else some ((q27.2 36 3), q27.2))) else none)
def f_HC_areInOrder (N : Nat) (x0 : Int32) (x1 : Int32) (M : zMem) : Option (Int32 × zMem) :=
  (if x0 < 0 then some ((0 : Int32), M) else (if x1 < x0 then some ((0 : Int32), M) else (if (40 : Int32) ≤ x1 then some ((0 : Int32), M) else some ((1 : Int32), M))))
def f_Wy_isOtherBefore (N : Nat) (t : Nat) (x1 : Int32) (M : zMem) : Option (Int32 × zMem) :=
  (if zis_Wy t = true then (if zin x1 6 = true then (if (M t 3) ≤ (M (t + 1) x1.toNatClampNeg) then some ((0 : Int32), M) else some ((1 : Int32), M)) else none) else none)
def f_HC_join (N : Nat) (x1 : Int32) (x2 : Int32) (x3 : Int32) (M : zMem) : Option (Int32 × zMem) :=
  (f_Wy_isOtherBefore N 41 x3 M).bind fun q5 => (if q5.1 = 0 then (f_Dg_digest N (4 : Int32) x1 x2 q5.2).bind fun q31 => some (q31.1, q31.2) else (f_Dg_digest N (4 : Int32) x2 x1 q5.2).bind fun q18 => some (q18.1, q18.2))
def f_HC_acceptsInclusion_l52 (N : Nat) (p1 : Nat) : Nat → Int32 → Int32 → Int32 → zMem → Option (Int32 × zMem)
  | 0, _, _, _, _ => none
  | n + 1, x5, x6, x7, M =>
    (if (M 41 2) ≤ x7 then (if x6 = x5 then some ((1 : Int32), M) else some ((0 : Int32), M)) else (if zin x7 30 = true then (f_HC_join N x6 (M (p1 + 1) x7.toNatClampNeg) (((M 41 2) - (1 : Int32)) - x7) M).bind fun q86 => zlt (x7 + (1 : Int32)) fun v91 => (f_HC_acceptsInclusion_l52 N p1 n) x5 q86.1 v91 q86.2 else none))
def f_HC_acceptsInclusion (N : Nat) (p1 : Nat) (x2 : Int32) (x3 : Int32) (x4 : Int32) (x5 : Int32) (M : zMem) : Option (Int32 × zMem) :=
  (if zis_Bu p1 = true then (f_HC_areInOrder N x2 x3 M).bind fun q2 => (if q2.1 = 0 then some ((0 : Int32), q2.2) else (f_Wy_go N 41 x2 x3 (1 : Int32) q2.2).bind fun q17 => (if (q17.2 p1 1) = (q17.2 41 2) then (f_Dg_digest N (3 : Int32) x4 x2 q17.2).bind fun q44 => f_HC_acceptsInclusion_l52 N p1 N x5 q44.1 (0 : Int32) q44.2 else some ((0 : Int32), q17.2))) else none)
def f_ED_included (N : Nat) (x1 : Int32) (x2 : Int32) (x3 : Int32) (x4 : Int32) (x5 : Int32) (M : zMem) : Option (Int32 × zMem) :=
  (f_ED_bufferAt N x1 M).bind fun q2 => zcs q2.1 (some ((0 : Int32), q2.2)) fun p2 => (if zis_Bu p2 = true then (f_HC_acceptsInclusion N p2 x2 x3 x4 x5 q2.2).bind fun q24 => (if q24.1 = 0 then some ((0 : Int32), q24.2) else some ((1 : Int32), q24.2)) else none)
def f_HC_acceptsConsistency_b159 (N : Nat) (k82 : Int32 → Int32 → Int32 → Int32 → Int32 → Int32 → zMem → Option (Int32 × zMem)) (p1 : Nat) (x4 : Int32) (x5 : Int32) (x6 : Int32) (x7 : Int32) (x9 : Int32) (s0 : Int32) (M : zMem) : Option (Int32 × zMem) :=
  zlt (x9 + (1 : Int32)) fun v161 => k82 x4 x5 x6 x7 s0 v161 M
def f_HC_acceptsConsistency_l82 (N : Nat) (p1 : Nat) : Nat → Int32 → Int32 → Int32 → Int32 → Int32 → Int32 → zMem → Option (Int32 × zMem)
  | 0, _, _, _, _, _, _, _ => none
  | n + 1, x4, x5, x6, x7, x8, x9, M =>
    (if (M 41 2) ≤ x9 then (if x8 = x4 then (if x7 = x5 then some ((1 : Int32), M) else some ((0 : Int32), M)) else some ((0 : Int32), M)) else zlt ((((M 41 2) - (1 : Int32)) - x9)) fun v106 => (if zin (x6 + x9) 30 = true then zlt ((M (p1 + 1) (x6 + x9).toNatClampNeg)) fun v118 => (f_HC_join N x7 v118 v106 M).bind fun q127 => (f_Wy_isOtherBefore N 41 v106 q127.2).bind fun q138 => (if q138.1 = 0 then f_HC_acceptsConsistency_b159 N (f_HC_acceptsConsistency_l82 N p1 n) p1 x4 x5 x6 q127.1 x9 x8 q138.2 else (f_HC_join N x8 v118 v106 q138.2).bind fun q151 => f_HC_acceptsConsistency_b159 N (f_HC_acceptsConsistency_l82 N p1 n) p1 x4 x5 x6 q127.1 x9 q151.1 q151.2) else none))
def f_HC_acceptsConsistency_b73 (N : Nat) (p1 : Nat) (x4 : Int32) (x5 : Int32) (x6 : Int32) (s0 : Int32) (M : zMem) : Option (Int32 × zMem) :=
  f_HC_acceptsConsistency_l82 N p1 N x4 x5 x6 s0 s0 (0 : Int32) M
def f_HC_acceptsConsistency_b35 (N : Nat) (p1 : Nat) (x4 : Int32) (x5 : Int32) (s0 : Int32) (M : zMem) : Option (Int32 × zMem) :=
  (if (M p1 1) = (s0 + (M 41 2)) then (if s0 = (1 : Int32) then f_HC_acceptsConsistency_b73 N p1 x4 x5 s0 (M (p1 + 1) 0) M else f_HC_acceptsConsistency_b73 N p1 x4 x5 s0 x4 M) else some ((0 : Int32), M))
def f_HC_acceptsConsistency (N : Nat) (p1 : Nat) (x2 : Int32) (x3 : Int32) (x4 : Int32) (x5 : Int32) (M : zMem) : Option (Int32 × zMem) :=
  (if zis_Bu p1 = true then (f_HC_areInOrder N x2 x3 M).bind fun q2 => (if q2.1 = 0 then some ((0 : Int32), q2.2) else (f_Wy_go N 41 x2 x3 (0 : Int32) q2.2).bind fun q17 => (if (q17.2 41 3) ≤ 0 then f_HC_acceptsConsistency_b35 N p1 x4 x5 (0 : Int32) q17.2 else f_HC_acceptsConsistency_b35 N p1 x4 x5 (1 : Int32) q17.2)) else none)
def f_ED_consistent (N : Nat) (x1 : Int32) (x2 : Int32) (x3 : Int32) (x4 : Int32) (x5 : Int32) (M : zMem) : Option (Int32 × zMem) :=
  (f_ED_bufferAt N x1 M).bind fun q2 => zcs q2.1 (some ((0 : Int32), q2.2)) fun p2 => (if zis_Bu p2 = true then (f_HC_acceptsConsistency N p2 x2 x3 x4 x5 q2.2).bind fun q24 => (if q24.1 = 0 then some ((0 : Int32), q24.2) else some ((1 : Int32), q24.2)) else none)
def f_ED_follow_b40 (N : Nat) (x2 : Int32) (x3 : Int32) (s0 : Int32) (M : zMem) : Option (Int32 × zMem) :=
  (if s0 = 0 then (if zbool s0 = true then some (s0, M) else none) else zlt (zu M 0 15 (1 : Int32)) fun M49 => zlt (zu M49 0 16 x2) fun M54 => zlt (zu M54 0 17 x3) fun M59 => (if zbool s0 = true then some (s0, M59) else none))
def f_ED_follow_b39 (N : Nat) (x2 : Int32) (x3 : Int32) (M : zMem) : Option (Int32 × zMem) :=
  f_ED_follow_b40 N x2 x3 (0 : Int32) M
def f_ED_follow (N : Nat) (x1 : Int32) (x2 : Int32) (x3 : Int32) (M : zMem) : Option (Int32 × zMem) :=
  (if (M 0 15) = 0 then (if x2 < 0 then f_ED_follow_b39 N x2 x3 M else (if (40 : Int32) ≤ x2 then f_ED_follow_b39 N x2 x3 M else f_ED_follow_b40 N x2 x3 (1 : Int32) M)) else (f_ED_consistent N x1 (M 0 16) x2 (M 0 17) x3 M).bind fun q19 => f_ED_follow_b40 N x2 x3 q19.1 q19.2)
def f_ED_seen (N : Nat) (x1 : Int32) (M : zMem) : Option (Int32 × zMem) :=
  (if (M 0 15) = 0 then some ((-1 : Int32), M) else (if x1 = 0 then some ((M 0 16), M) else (if x1 = 1 then some ((M 0 17), M) else some ((-1 : Int32), M))))
def f_LC_differsFrom (N : Nat) (t : Nat) (p1 : Nat) (x2 : Int32) (M : zMem) : Option (Int32 × zMem) :=
  (if zis_LC t = true then (if zis_LC p1 = true then zlt (((3 : Int32) * x2)) fun v3 => (if zin v3 21 = true then (if zin v3 21 = true then (if (M (t + 1) v3.toNatClampNeg) = (M (p1 + 1) v3.toNatClampNeg) then (if zin (v3 + (1 : Int32)) 21 = true then (if zin (v3 + (1 : Int32)) 21 = true then (if (M (t + 1) (v3 + (1 : Int32)).toNatClampNeg) = (M (p1 + 1) (v3 + (1 : Int32)).toNatClampNeg) then (if zin (v3 + (2 : Int32)) 21 = true then (if zin (v3 + (2 : Int32)) 21 = true then (if (M (t + 1) (v3 + (2 : Int32)).toNatClampNeg) = (M (p1 + 1) (v3 + (2 : Int32)).toNatClampNeg) then some ((0 : Int32), M) else some ((1 : Int32), M)) else none) else none) else some ((1 : Int32), M)) else none) else none) else some ((1 : Int32), M)) else none) else none) else none) else none)
def f_LC_copyInput_l3 (N : Nat) (t : Nat) : Nat → Int32 → Int32 → Int32 → zMem → Option (Int32 × zMem)
  | 0, _, _, _, _ => none
  | n + 1, x1, x3, x4, M =>
    (if (3 : Int32) ≤ x4 then some (0, M) else (if zin (((3 : Int32) * x1) + x4) 21 = true then (if zin (x3 + x4) 6 = true then zlt (zu M 44 (x3 + x4).toNatClampNeg (M (t + 1) (((3 : Int32) * x1) + x4).toNatClampNeg)) fun M25 => zlt (x4 + (1 : Int32)) fun v26 => (f_LC_copyInput_l3 N t n) x1 x3 v26 M25 else none) else none))
def f_LC_copyInput (N : Nat) (t : Nat) (x1 : Int32) (x3 : Int32) (M : zMem) : Option (Int32 × zMem) :=
  (if zis_LC t = true then f_LC_copyInput_l3 N t N x1 x3 (0 : Int32) M else none)
def f_ED_takeOutFirstDifference_l20 (N : Nat) : Nat → Int32 → Int32 → zMem → Option (Int32 × zMem)
  | 0, _, _, _ => none
  | n + 1, x1, x2, M =>
    (if x1 < x2 then some ((0 : Int32), M) else (f_LC_differsFrom N 36 38 x2 M).bind fun q34 => (if q34.1 = 0 then zlt (x2 + (1 : Int32)) fun v68 => (f_ED_takeOutFirstDifference_l20 N n) x1 v68 q34.2 else (f_LC_copyInput N 36 x2 (0 : Int32) q34.2).bind fun q50 => (f_LC_copyInput N 38 x2 (3 : Int32) q50.2).bind fun q63 => some ((1 : Int32), q63.2)))
def f_ED_takeOutFirstDifference (N : Nat) (M : zMem) : Option (Int32 × zMem) :=
  zlt ((if (M 38 2) < (M 36 2) then (M 38 2) else (M 36 2))) fun v17 => f_ED_takeOutFirstDifference_l20 N N v17 (0 : Int32) M
def f_ED_extract (N : Nat) (x1 : Int32) (x2 : Int32) (x3 : Int32) (x4 : Int32) (M : zMem) : Option (Int32 × zMem) :=
  (f_ED_bufferAt N x1 M).bind fun q2 => zcs q2.1 ((f_ED_bufferAt N x2 q2.2).bind fun q9 => zcs q9.1 (some ((0 : Int32), q9.2)) fun p9 => (if zis_Bu p9 = true then some ((0 : Int32), q9.2) else none)) fun p2 => (if zis_Bu p2 = true then (f_ED_bufferAt N x2 q2.2).bind fun q9 => zcs q9.1 (some ((0 : Int32), q9.2)) fun p9 => (if zis_Bu p9 = true then (f_ED_isName N x3 q9.2).bind fun q25 => (if q25.1 = 0 then some ((0 : Int32), q25.2) else (f_LC_accepts N 36 p2 x3 x4 q25.2).bind fun q42 => (if q42.1 = 0 then some ((0 : Int32), q42.2) else (f_LC_accepts N 38 p9 x3 x4 q42.2).bind fun q57 => (if q57.1 = 0 then some ((0 : Int32), q57.2) else (if (q57.2 36 3) = (q57.2 38 3) then some ((0 : Int32), q57.2) else (f_ED_takeOutFirstDifference N q57.2).bind fun q81 => (if q81.1 = 0 then some ((0 : Int32), q81.2) else some ((1 : Int32), q81.2)))))) else none) else none)
def f_ED_clash (N : Nat) (x1 : Int32) (M : zMem) : Option (Int32 × zMem) :=
  (if x1 < 0 then some ((0 : Int32), M) else (if (6 : Int32) ≤ x1 then some ((0 : Int32), M) else (if zin x1 6 = true then some ((M 44 x1.toNatClampNeg), M) else none)))
