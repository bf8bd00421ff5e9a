def f_Mo_hash (N : Nat) (x1 : Int32) (x2 : Int32) (x3 : Int32) (M : zMem) : Option (Int32 × zMem) :=
  zlt (((x1 * (73244475 : Int32)) + x2)) fun v10 => zlt ((((v10 ^^^ (zush v10 (16 : Int32))) * (73244475 : Int32)) + x3)) fun v25 => zlt (((v25 ^^^ (zush v25 (16 : Int32))) * (73244475 : Int32))) fun v38 => zlt ((v38 ^^^ (zush v38 (16 : Int32)))) fun v48 => zlt ((zush v48 ((32 : Int32) - (M 45 0)))) fun v60 => (if v60 = 0 then some ((1 : Int32), M) else some (v60, M))
def f_Mo_isName (N : Nat) (x0 : Int32) (M : zMem) : Option (Int32 × zMem) :=
  (if x0 < 0 then some ((0 : Int32), M) else (if (64 : Int32) ≤ x0 then some ((0 : Int32), M) else some ((1 : Int32), M)))
def f_Mo_isKey (N : Nat) (x0 : Int32) (M : zMem) : Option (Int32 × zMem) :=
  (if x0 < (1 : Int32) then some ((0 : Int32), M) else (if (1000000 : Int32) < x0 then some ((0 : Int32), M) else some ((1 : Int32), M)))
def f_Mo_indexOf (N : Nat) (x0 : Int32) (M : zMem) : Option (Int32 × zMem) :=
  some ((zrem (((37 : Int32) * x0) + (11 : Int32)) (64 : Int32)), M)
def f_Mo_bit (N : Nat) (x0 : Int32) (x1 : Int32) (M : zMem) : Option (Int32 × zMem) :=
  (f_Mo_indexOf N x0 M).bind fun q1 => some (((zshr q1.1 ((5 : Int32) - x1)) &&& (1 : Int32)), q1.2)
def f_Mo_grow_b239 (N : Nat) (k118 : Int32 → zMem → Option (Int32 × zMem)) (x2 : Int32) (s1 : Int32) (s2 : Int32) (M : zMem) : Option (Int32 × zMem) :=
  (if zin s1 128 = true then zlt (zu M 51 s1.toNatClampNeg s2) fun M239 => zlt (x2 + (-1 : Int32)) fun v240 => k118 v240 M239 else none)
def f_Mo_grow_b188 (N : Nat) (k118 : Int32 → zMem → Option (Int32 × zMem)) (x2 : Int32) (x3 : Int32) (x4 : Int32) (s1 : Int32) (s2 : Int32) (M : zMem) : Option (Int32 × zMem) :=
  (if zin s1 128 = true then zlt (zu M 52 s1.toNatClampNeg s2) fun M188 => (if zin x2 128 = true then (if (M188 50 x2.toNatClampNeg) ≤ (1 : Int32) then (if zin x3 128 = true then (if zin x4 128 = true then f_Mo_grow_b239 N k118 x2 x2 ((M188 51 x3.toNatClampNeg) + (M188 51 x4.toNatClampNeg)) M188 else none) else none) else (if zin x3 128 = true then (if zin x4 128 = true then (f_Mo_hash N (2 : Int32) (M188 51 x3.toNatClampNeg) (M188 51 x4.toNatClampNeg) M188).bind fun q219 => f_Mo_grow_b239 N k118 x2 x2 q219.1 q219.2 else none) else none)) else none) else none)
def f_Mo_grow_l118 (N : Nat) : Nat → Int32 → zMem → Option (Int32 × zMem)
  | 0, _, _ => none
  | n + 1, x2, M =>
    (if x2 ≤ 0 then some (0, M) else zlt (((2 : Int32) * x2)) fun v125 => zlt ((((2 : Int32) * x2) + (1 : Int32))) fun v131 => (if zin v125 128 = true then (if zin v131 128 = true then (if zin x2 128 = true then zlt (zu M 50 x2.toNatClampNeg ((M 50 v125.toNatClampNeg) + (M 50 v131.toNatClampNeg))) fun M152 => (if zin x2 128 = true then (if (M152 50 x2.toNatClampNeg) = (1 : Int32) then (if zin v125 128 = true then (if zin v131 128 = true then f_Mo_grow_b188 N (f_Mo_grow_l118 N n) x2 v125 v131 x2 (((M152 52 v125.toNatClampNeg) + (M152 52 v131.toNatClampNeg)) + (1 : Int32)) M152 else none) else none) else f_Mo_grow_b188 N (f_Mo_grow_l118 N n) x2 v125 v131 x2 (-1 : Int32) M152) else none) else none) else none) else none))
def f_Mo_grow_b109 (N : Nat) (k38 : Int32 → Int32 → zMem → Option (Int32 × zMem)) (x1 : Int32) (x2 : Int32) (M : zMem) : Option (Int32 × zMem) :=
  zlt (x2 + (1 : Int32)) fun v109 => k38 x1 v109 M
def f_Mo_grow_b65 (N : Nat) (k38 : Int32 → Int32 → zMem → Option (Int32 × zMem)) (x1 : Int32) (x2 : Int32) (s0 : Int32) (M : zMem) : Option (Int32 × zMem) :=
  (if s0 = 0 then f_Mo_grow_b109 N k38 x1 x2 M else (f_Mo_indexOf N x2 M).bind fun q73 => zlt (((64 : Int32) + q73.1)) fun v77 => (if zin v77 128 = true then zlt (zu q73.2 50 v77.toNatClampNeg (1 : Int32)) fun M86 => (f_Mo_hash N (1 : Int32) x2 s0 M86).bind fun q97 => (if zin v77 128 = true then zlt (zu q97.2 51 v77.toNatClampNeg q97.1) fun M100 => (if zin v77 128 = true then zlt (zu M100 52 v77.toNatClampNeg x2) fun M108 => f_Mo_grow_b109 N k38 x1 x2 M108 else none) else none) else none))
def f_Mo_grow_l38 (N : Nat) : Nat → Int32 → Int32 → zMem → Option (Int32 × zMem)
  | 0, _, _, _ => none
  | n + 1, x1, x2, M =>
    (if (64 : Int32) ≤ x2 then f_Mo_grow_l118 N N (63 : Int32) M else (if 0 ≤ x1 then (if zin (x1 + x2) 2560 = true then f_Mo_grow_b65 N (f_Mo_grow_l38 N n) x1 x2 (M 46 (x1 + x2).toNatClampNeg) M else none) else (if zin x2 64 = true then f_Mo_grow_b65 N (f_Mo_grow_l38 N n) x1 x2 (M 47 x2.toNatClampNeg) M else none)))
def f_Mo_grow_l2 (N : Nat) : Nat → Int32 → Int32 → zMem → Option (Int32 × zMem)
  | 0, _, _, _ => none
  | n + 1, x1, x2, M =>
    (if (128 : Int32) ≤ x2 then f_Mo_grow_l38 N N x1 (0 : Int32) M else (if zin x2 128 = true then zlt (zu M 50 x2.toNatClampNeg (0 : Int32)) fun M15 => (if zin x2 128 = true then zlt (zu M15 51 x2.toNatClampNeg (0 : Int32)) fun M22 => (if zin x2 128 = true then zlt (zu M22 52 x2.toNatClampNeg (-1 : Int32)) fun M29 => zlt (x2 + (1 : Int32)) fun v30 => (f_Mo_grow_l2 N n) x1 v30 M29 else none) else none) else none))
def f_Mo_grow (N : Nat) (x1 : Int32) (M : zMem) : Option (Int32 × zMem) :=
  f_Mo_grow_l2 N N x1 (0 : Int32) M
def f_Mo_isNode (N : Nat) (x1 : Int32) (M : zMem) : Option (Int32 × zMem) :=
  (if zin x1 128 = true then (if (1 : Int32) < (M 50 x1.toNatClampNeg) then some ((1 : Int32), M) else (if zin x1 128 = true then (if (M 50 x1.toNatClampNeg) = (1 : Int32) then (if x1 = (1 : Int32) then some ((1 : Int32), M) else (if zin (x1 / (2 : Int32)) 128 = true then (if (M 50 (x1 / (2 : Int32)).toNatClampNeg) ≤ (1 : Int32) then some ((0 : Int32), M) else some ((1 : Int32), M)) else none)) else some ((0 : Int32), M)) else none)) else none)
def f_Mo_names_b26 (N : Nat) (k4 : Int32 → Int32 → zMem → Option (Int32 × zMem)) (x2 : Int32) (s0 : Int32) (M : zMem) : Option (Int32 × zMem) :=
  zlt (x2 + (1 : Int32)) fun v27 => k4 s0 v27 M
def f_Mo_names_l4 (N : Nat) : Nat → Int32 → Int32 → zMem → Option (Int32 × zMem)
  | 0, _, _, _ => none
  | n + 1, x1, x2, M =>
    (if (64 : Int32) ≤ x2 then some (x1, M) else (if zin x2 64 = true then (if (M 48 x2.toNatClampNeg) = 0 then f_Mo_names_b26 N (f_Mo_names_l4 N n) x2 x1 M else f_Mo_names_b26 N (f_Mo_names_l4 N n) x2 (x1 + (1 : Int32)) M) else none))
def f_Mo_names (N : Nat) (M : zMem) : Option (Int32 × zMem) :=
  f_Mo_names_l4 N N (0 : Int32) (0 : Int32) M
def f_Mo_put (N : Nat) (x1 : Int32) (x2 : Int32) (M : zMem) : Option (Int32 × zMem) :=
  (if (M 45 18) = 0 then (f_Mo_isName N x1 M).bind fun q11 => (if q11.1 = 0 then some ((-1 : Int32), q11.2) else (f_Mo_isKey N x2 q11.2).bind fun q18 => (if q18.1 = 0 then some ((-1 : Int32), q18.2) else (if zin x1 64 = true then zlt (zu q18.2 47 x1.toNatClampNeg x2) fun M32 => (if zin x1 64 = true then zlt (zu M32 48 x1.toNatClampNeg (1 : Int32)) fun M39 => (f_Mo_names N M39).bind fun q41 => some (q41.1, q41.2) else none) else none))) else some ((-9 : Int32), M))
def f_Mo_write_b75 (N : Nat) (s1 : Int32) (M : zMem) : Option (Int32 × zMem) :=
  zlt (zu M 45 17 s1) fun M75 => (if (M75 45 18) = 0 then some ((1 : Int32), M75) else some ((0 : Int32), M75))
def f_Mo_write_b54 (N : Nat) (s1 : Int32) (M : zMem) : Option (Int32 × zMem) :=
  (if zbool s1 = true then zlt (zu M 45 18 s1) fun M54 => (if (M54 45 17) ≤ 0 then f_Mo_write_b75 N (0 : Int32) M54 else f_Mo_write_b75 N ((M54 45 17) - (1 : Int32)) M54) else none)
def f_Mo_write (N : Nat) (x1 : Int32) (x2 : Int32) (x3 : Int32) (M : zMem) : Option (Int32 × zMem) :=
  (if zin (M 45 9) 300 = true then zlt (zu M 53 (M 45 9).toNatClampNeg x1) fun M9 => (if zin (M9 45 9) 300 = true then zlt (zu M9 54 (M9 45 9).toNatClampNeg x2) fun M19 => (if zin (M19 45 9) 300 = true then zlt (zu M19 55 (M19 45 9).toNatClampNeg x3) fun M29 => zlt (zu M29 45 9 ((M29 45 9) + (1 : Int32))) fun M37 => (if (M37 45 17) = (1 : Int32) then f_Mo_write_b54 N (1 : Int32) M37 else f_Mo_write_b54 N (0 : Int32) M37) else none) else none) else none)
def f_Mo_touched_b48 (N : Nat) (k5 : Int32 → Int32 → Int32 → Int32 → zMem → Option (Int32 × zMem)) (x1 : Int32) (x2 : Int32) (x4 : Int32) (s0 : Int32) (M : zMem) : Option (Int32 × zMem) :=
  zlt (x4 + (1 : Int32)) fun v49 => k5 x1 x2 s0 v49 M
def f_Mo_touched_b43 (N : Nat) (k5 : Int32 → Int32 → Int32 → Int32 → zMem → Option (Int32 × zMem)) (x1 : Int32) (x2 : Int32) (x4 : Int32) (M : zMem) : Option (Int32 × zMem) :=
  f_Mo_touched_b48 N k5 x1 x2 x4 (1 : Int32) M
def f_Mo_touched_b47 (N : Nat) (k5 : Int32 → Int32 → Int32 → Int32 → zMem → Option (Int32 × zMem)) (x1 : Int32) (x2 : Int32) (x4 : Int32) (M : zMem) : Option (Int32 × zMem) :=
  f_Mo_touched_b48 N k5 x1 x2 x4 (0 : Int32) M
def f_Mo_touched_l5 (N : Nat) : Nat → Int32 → Int32 → Int32 → Int32 → zMem → Option (Int32 × zMem)
  | 0, _, _, _, _, _ => none
  | n + 1, x1, x2, x3, x4, M =>
    (if (64 : Int32) ≤ x4 then (if zbool x3 = true then some (x3, M) else none) else (if x3 = 0 then (if zin x4 64 = true then (if (M 48 x4.toNatClampNeg) = 0 then f_Mo_touched_b47 N (f_Mo_touched_l5 N n) x1 x2 x4 M else (f_Mo_indexOf N x4 M).bind fun q30 => (if (zshr ((64 : Int32) + q30.1) ((6 : Int32) - x2)) = x1 then f_Mo_touched_b43 N (f_Mo_touched_l5 N n) x1 x2 x4 q30.2 else f_Mo_touched_b47 N (f_Mo_touched_l5 N n) x1 x2 x4 q30.2)) else none) else f_Mo_touched_b43 N (f_Mo_touched_l5 N n) x1 x2 x4 M))
def f_Mo_touched (N : Nat) (x1 : Int32) (x2 : Int32) (M : zMem) : Option (Int32 × zMem) :=
  f_Mo_touched_l5 N N x1 x2 (0 : Int32) (0 : Int32) M
def f_Mo_blockOf (N : Nat) (x1 : Int32) (M : zMem) : Option (Int32 × zMem) :=
  (if zin x1 128 = true then (if (M 50 x1.toNatClampNeg) = 0 then some ((-1 : Int32), M) else (if zin x1 128 = true then (if (M 50 x1.toNatClampNeg) = (1 : Int32) then (if zin x1 128 = true then (if zin (M 52 x1.toNatClampNeg) 64 = true then some ((M 58 (M 52 x1.toNatClampNeg).toNatClampNeg), M) else none) else none) else (if zin x1 128 = true then some ((M 59 x1.toNatClampNeg), M) else none)) else none)) else none)
def f_Mo_writeNode (N : Nat) (x1 : Int32) (M : zMem) : Option (Int32 × zMem) :=
  (if zin x1 128 = true then (if (M 50 x1.toNatClampNeg) = (1 : Int32) then (if zin x1 128 = true then (if zin (M 52 x1.toNatClampNeg) 64 = true then zlt (zu M 58 (M 52 x1.toNatClampNeg).toNatClampNeg (M 45 9)) fun M24 => (if zin x1 128 = true then (if zin x1 128 = true then (if zin (M24 52 x1.toNatClampNeg) 64 = true then (f_Mo_write N (1 : Int32) (M24 52 x1.toNatClampNeg) (M24 47 (M24 52 x1.toNatClampNeg).toNatClampNeg) M24).bind fun q44 => some (0, q44.2) else none) else none) else none) else none) else none) else (f_Mo_blockOf N ((2 : Int32) * x1) M).bind fun q55 => (f_Mo_blockOf N (((2 : Int32) * x1) + (1 : Int32)) q55.2).bind fun q65 => (if zin x1 128 = true then zlt (zu q65.2 59 x1.toNatClampNeg (q65.2 45 9)) fun M78 => (f_Mo_write N (2 : Int32) q55.1 q65.1 M78).bind fun q83 => some (0, q83.2) else none)) else none)
def f_Mo_nodes_b97 (N : Nat) (k4 : Int32 → Int32 → Int32 → zMem → Option (Int32 × zMem)) (k14 : Int32 → Int32 → Int32 → Int32 → zMem → Option (Int32 × zMem)) (x1 : Int32) (x2 : Int32) (x3 : Int32) (x4 : Int32) (M : zMem) : Option (Int32 × zMem) :=
  zlt (x4 + (-1 : Int32)) fun v97 => k14 x1 x2 x3 v97 M
def f_Mo_nodes_b50 (N : Nat) (k4 : Int32 → Int32 → Int32 → zMem → Option (Int32 × zMem)) (k14 : Int32 → Int32 → Int32 → Int32 → zMem → Option (Int32 × zMem)) (x1 : Int32) (x2 : Int32) (x3 : Int32) (x4 : Int32) (x5 : Int32) (s0 : Int32) (M : zMem) : Option (Int32 × zMem) :=
  (if s0 = 0 then f_Mo_nodes_b97 N k4 k14 x1 x2 x3 x4 M else (f_Mo_isNode N x5 M).bind fun q60 => (if q60.1 = 0 then f_Mo_nodes_b97 N k4 k14 x1 x2 x3 x4 q60.2 else (f_Mo_touched N x5 x4 q60.2).bind fun q71 => (if q71.1 = 0 then f_Mo_nodes_b97 N k4 k14 x1 x2 x3 x4 q71.2 else (if (q71.2 45 18) = 0 then zlt (x2 + (1 : Int32)) fun v84 => (if x1 = 0 then f_Mo_nodes_b97 N k4 k14 x1 v84 x3 x4 q71.2 else (f_Mo_writeNode N x5 q71.2).bind fun q94 => f_Mo_nodes_b97 N k4 k14 x1 v84 x3 x4 q94.2) else f_Mo_nodes_b97 N k4 k14 x1 x2 x3 x4 q71.2))))
def f_Mo_nodes_l14 (N : Nat) (k4 : Int32 → Int32 → Int32 → zMem → Option (Int32 × zMem)) : Nat → Int32 → Int32 → Int32 → Int32 → zMem → Option (Int32 × zMem)
  | 0, _, _, _, _, _ => none
  | n + 1, x1, x2, x3, x4, M =>
    (if x4 < 0 then zlt (x3 + (1 : Int32)) fun v103 => k4 x1 x2 v103 M else zlt ((zshr ((64 : Int32) + x3) ((6 : Int32) - x4))) fun v29 => (if znz (zshl (1 : Int32) ((6 : Int32) - x4)) = true then (if (zrem (x3 + (1 : Int32)) (zshl (1 : Int32) ((6 : Int32) - x4))) = 0 then f_Mo_nodes_b50 N k4 (f_Mo_nodes_l14 N k4 n) x1 x2 x3 x4 v29 (1 : Int32) M else f_Mo_nodes_b50 N k4 (f_Mo_nodes_l14 N k4 n) x1 x2 x3 x4 v29 (0 : Int32) M) else none))
def f_Mo_nodes_l4 (N : Nat) : Nat → Int32 → Int32 → Int32 → zMem → Option (Int32 × zMem)
  | 0, _, _, _, _ => none
  | n + 1, x1, x2, x3, M =>
    (if (64 : Int32) ≤ x3 then some (x2, M) else f_Mo_nodes_l14 N (f_Mo_nodes_l4 N n) N x1 x2 x3 (6 : Int32) M)
def f_Mo_nodes (N : Nat) (x1 : Int32) (M : zMem) : Option (Int32 × zMem) :=
  f_Mo_nodes_l4 N N x1 (0 : Int32) (0 : Int32) M
def f_Mo_forget_b47 (N : Nat) (k2 : Int32 → zMem → Option (Int32 × zMem)) (x1 : Int32) (s1 : Int32) (s2 : Int32) (M : zMem) : Option (Int32 × zMem) :=
  (if zin s1 64 = true then zlt (zu M 47 s1.toNatClampNeg s2) fun M47 => zlt (x1 + (1 : Int32)) fun v48 => k2 v48 M47 else none)
def f_Mo_forget_l2 (N : Nat) : Nat → Int32 → zMem → Option (Int32 × zMem)
  | 0, _, _ => none
  | n + 1, x1, M =>
    (if (64 : Int32) ≤ x1 then some (0, M) else (if zin x1 64 = true then zlt (zu M 48 x1.toNatClampNeg (0 : Int32)) fun M14 => (if (M14 45 4) = 0 then f_Mo_forget_b47 N (f_Mo_forget_l2 N n) x1 x1 (0 : Int32) M14 else (if zin (((64 : Int32) * ((M14 45 4) - (1 : Int32))) + x1) 2560 = true then f_Mo_forget_b47 N (f_Mo_forget_l2 N n) x1 x1 (M14 46 (((64 : Int32) * ((M14 45 4) - (1 : Int32))) + x1).toNatClampNeg) M14 else none)) else none))
def f_Mo_forget (N : Nat) (M : zMem) : Option (Int32 × zMem) :=
  f_Mo_forget_l2 N N (0 : Int32) M
def f_Mo_close_b246 (N : Nat) (M : zMem) : Option (Int32 × zMem) :=
  (f_Mo_forget N M).bind fun q247 => (if (q247.2 45 18) = 0 then some (((q247.2 45 4) - (1 : Int32)), q247.2) else some ((-9 : Int32), q247.2))
def f_Mo_close_l186 (N : Nat) : Nat → Int32 → zMem → Option (Int32 × zMem)
  | 0, _, _ => none
  | n + 1, x5, M =>
    (if (64 : Int32) ≤ x5 then (if zin (M 45 4) 40 = true then zlt (zu M 49 (M 45 4).toNatClampNeg (M 51 1)) fun M235 => zlt (zu M235 45 4 ((M235 45 4) + (1 : Int32))) fun M243 => f_Mo_close_b246 N M243 else none) else (if zin x5 64 = true then (if zin (((64 : Int32) * (M 45 4)) + x5) 2560 = true then zlt (zu M 46 (((64 : Int32) * (M 45 4)) + x5).toNatClampNeg (M 47 x5.toNatClampNeg)) fun M214 => zlt (x5 + (1 : Int32)) fun v215 => (f_Mo_close_l186 N n) v215 M214 else none) else none))
def f_Mo_close_l137 (N : Nat) : Nat → Int32 → zMem → Option (Int32 × zMem)
  | 0, _, _ => none
  | n + 1, x5, M =>
    (if (128 : Int32) ≤ x5 then f_Mo_close_l186 N N (0 : Int32) M else (if zin x5 128 = true then (if zin x5 128 = true then zlt (zu M 57 x5.toNatClampNeg (M 59 x5.toNatClampNeg)) fun M158 => (if zin (x5 / (2 : Int32)) 64 = true then (if zin (x5 / (2 : Int32)) 64 = true then zlt (zu M158 56 (x5 / (2 : Int32)).toNatClampNeg (M158 58 (x5 / (2 : Int32)).toNatClampNeg)) fun M176 => zlt (x5 + (1 : Int32)) fun v177 => (f_Mo_close_l137 N n) v177 M176 else none) else none) else none) else none))
def f_Mo_close_b113 (N : Nat) (s0 : Int32) (M : zMem) : Option (Int32 × zMem) :=
  (if s0 = 0 then f_Mo_close_b246 N M else (f_Mo_blockOf N (1 : Int32) M).bind fun q126 => (f_Mo_write N (3 : Int32) (M 45 4) q126.1 q126.2).bind fun q129 => f_Mo_close_l137 N N (0 : Int32) q129.2)
def f_Mo_close_b112 (N : Nat) (M : zMem) : Option (Int32 × zMem) :=
  f_Mo_close_b113 N (0 : Int32) M
def f_Mo_close_l49 (N : Nat) : Nat → Int32 → Int32 → zMem → Option (Int32 × zMem)
  | 0, _, _, _ => none
  | n + 1, x1, x2, M =>
    (if (128 : Int32) ≤ x2 then (f_Mo_nodes N (1 : Int32) M).bind fun q92 => (if (q92.2 45 18) = 0 then (if q92.1 = x1 then f_Mo_close_b113 N (1 : Int32) q92.2 else f_Mo_close_b112 N q92.2) else f_Mo_close_b112 N q92.2) else (if zin x2 128 = true then (if zin x2 128 = true then zlt (zu M 59 x2.toNatClampNeg (M 57 x2.toNatClampNeg)) fun M67 => (if zin (x2 / (2 : Int32)) 64 = true then (if zin (x2 / (2 : Int32)) 64 = true then zlt (zu M67 58 (x2 / (2 : Int32)).toNatClampNeg (M67 56 (x2 / (2 : Int32)).toNatClampNeg)) fun M83 => zlt (x2 + (1 : Int32)) fun v84 => (f_Mo_close_l49 N n) x1 v84 M83 else none) else none) else none) else none))
def f_Mo_close (N : Nat) (M : zMem) : Option (Int32 × zMem) :=
  (if (M 45 18) = 0 then (f_Mo_grow N (-1 : Int32) M).bind fun q12 => (f_Mo_nodes N (0 : Int32) q12.2).bind fun q17 => (if (q17.2 45 4) = (40 : Int32) then some ((-2 : Int32), q17.2) else (if (((q17.2 45 9) + q17.1) + (1 : Int32)) ≤ (300 : Int32) then f_Mo_close_l49 N N q17.1 (0 : Int32) q17.2 else some ((-2 : Int32), q17.2))) else some ((-9 : Int32), M))
def f_Mo_fuse (N : Nat) (x1 : Int32) (M : zMem) : Option (Int32 × zMem) :=
  (if (M 45 18) = 0 then (if x1 < (1 : Int32) then some ((0 : Int32), M) else (if x1 ≤ (100 : Int32) then zlt (zu M 45 17 x1) fun M22 => some ((1 : Int32), M22) else some ((0 : Int32), M))) else some ((0 : Int32), M))
def f_Mo_restart_b41 (N : Nat) (x1 : Int32) (M : zMem) : Option (Int32 × zMem) :=
  zlt (((M 45 9) - x1)) fun v47 => zlt (zu M 45 9 x1) fun M50 => some (v47, M50)
def f_Mo_restart_l19 (N : Nat) : Nat → Int32 → zMem → Option (Int32 × zMem)
  | 0, _, _ => none
  | n + 1, x1, M =>
    (if x1 ≤ 0 then f_Mo_restart_b41 N x1 M else (if zin (x1 - (1 : Int32)) 300 = true then (if (M 53 (x1 - (1 : Int32)).toNatClampNeg) = (3 : Int32) then f_Mo_restart_b41 N x1 M else zlt (x1 + (-1 : Int32)) fun v35 => (f_Mo_restart_l19 N n) v35 M) else none))
def f_Mo_restart (N : Nat) (M : zMem) : Option (Int32 × zMem) :=
  (if (M 45 18) = 0 then some ((-1 : Int32), M) else zlt (zu M 45 18 (0 : Int32)) fun M11 => zlt ((M11 45 9)) fun v18 => f_Mo_restart_l19 N N v18 M11)
def f_Mo_leafOf (N : Nat) (x1 : Int32) (M : zMem) : Option (Int32 × zMem) :=
  (if zin x1 40 = true then (f_Mo_hash N (3 : Int32) (M 49 x1.toNatClampNeg) x1 M).bind fun q9 => some (q9.1, q9.2) else none)
def f_Mo_row_l110 (N : Nat) : Nat → Int32 → zMem → Option (Int32 × zMem)
  | 0, _, _ => none
  | n + 1, x3, M =>
    (if x3 ≤ (1 : Int32) then some ((M 62 0), M) else zlt (x3 + (-1 : Int32)) fun v115 => (if zin (v115 - (1 : Int32)) 8 = true then (if zin v115 8 = true then (f_Mo_hash N (4 : Int32) (M 62 (v115 - (1 : Int32)).toNatClampNeg) (M 62 v115.toNatClampNeg) M).bind fun q141 => (if zin (v115 - (1 : Int32)) 8 = true then zlt (zu q141.2 62 (v115 - (1 : Int32)).toNatClampNeg q141.1) fun M144 => (f_Mo_row_l110 N n) v115 M144 else none) else none) else none))
def f_Mo_row_b104 (N : Nat) (k5 : Int32 → Int32 → Int32 → Int32 → zMem → Option (Int32 × zMem)) (x1 : Int32) (x2 : Int32) (x3 : Int32) (x4 : Int32) (M : zMem) : Option (Int32 × zMem) :=
  zlt (x4 + (1 : Int32)) fun v104 => k5 x1 x2 x3 v104 M
def f_Mo_row_l35 (N : Nat) (k5 : Int32 → Int32 → Int32 → Int32 → zMem → Option (Int32 × zMem)) : Nat → Int32 → Int32 → Int32 → Int32 → zMem → Option (Int32 × zMem)
  | 0, _, _, _, _, _ => none
  | n + 1, x1, x2, x3, x4, M =>
    (if x3 ≤ (1 : Int32) then f_Mo_row_b104 N k5 x1 x2 x3 x4 M else (if zin (x3 - (1 : Int32)) 8 = true then (if zin (x3 - (2 : Int32)) 8 = true then (if (M 63 (x3 - (1 : Int32)).toNatClampNeg) = (M 63 (x3 - (2 : Int32)).toNatClampNeg) then zlt (x3 + (-1 : Int32)) fun v59 => (if zin (v59 - (1 : Int32)) 8 = true then (if zin v59 8 = true then (f_Mo_hash N (4 : Int32) (M 62 (v59 - (1 : Int32)).toNatClampNeg) (M 62 v59.toNatClampNeg) M).bind fun q85 => (if zin (v59 - (1 : Int32)) 8 = true then zlt (zu q85.2 62 (v59 - (1 : Int32)).toNatClampNeg q85.1) fun M88 => (if zin (v59 - (1 : Int32)) 8 = true then (if zin (v59 - (1 : Int32)) 8 = true then zlt (zu M88 63 (v59 - (1 : Int32)).toNatClampNeg ((M88 63 (v59 - (1 : Int32)).toNatClampNeg) * (2 : Int32))) fun M100 => (f_Mo_row_l35 N k5 n) x1 x2 v59 x4 M100 else none) else none) else none) else none) else none) else f_Mo_row_b104 N k5 x1 x2 x3 x4 M) else none) else none))
def f_Mo_row_l5 (N : Nat) : Nat → Int32 → Int32 → Int32 → Int32 → zMem → Option (Int32 × zMem)
  | 0, _, _, _, _, _ => none
  | n + 1, x1, x2, x3, x4, M =>
    (if (x1 + x2) ≤ x4 then f_Mo_row_l110 N N x3 M else (f_Mo_leafOf N x4 M).bind fun q21 => (if zin x3 8 = true then zlt (zu q21.2 62 x3.toNatClampNeg q21.1) fun M24 => (if zin x3 8 = true then zlt (zu M24 63 x3.toNatClampNeg (1 : Int32)) fun M31 => zlt (x3 + (1 : Int32)) fun v32 => f_Mo_row_l35 N (f_Mo_row_l5 N n) N x1 x2 v32 x4 M31 else none) else none))
def f_Mo_row (N : Nat) (x1 : Int32) (x2 : Int32) (M : zMem) : Option (Int32 × zMem) :=
  f_Mo_row_l5 N N x1 x2 (0 : Int32) x1 M
def f_Mo_root (N : Nat) (x1 : Int32) (M : zMem) : Option (Int32 × zMem) :=
  (if x1 < 0 then some ((-1 : Int32), M) else (if x1 < (M 45 4) then (if zin x1 40 = true then some ((M 49 x1.toNatClampNeg), M) else none) else some ((-1 : Int32), M)))
def f_Mo_head (N : Nat) (x1 : Int32) (M : zMem) : Option (Int32 × zMem) :=
  (if x1 < 0 then some ((-1 : Int32), M) else (if x1 < (M 45 4) then (f_Mo_row N (0 : Int32) (x1 + (1 : Int32)) M).bind fun q21 => some (q21.1, q21.2) else some ((-1 : Int32), M)))
def f_Mo_way_b172 (N : Nat) (k13 : Int32 → Int32 → Int32 → Int32 → zMem → Option (Int32 × zMem)) (x1 : Int32) (x3 : Int32) (x4 : Int32) (s0 : Int32) (M : zMem) : Option (Int32 × zMem) :=
  k13 x1 x3 x4 s0 M
def f_Mo_way_b155 (N : Nat) (k13 : Int32 → Int32 → Int32 → Int32 → zMem → Option (Int32 × zMem)) (x1 : Int32) (x3 : Int32) (x5 : Int32) (x6 : Int32) (x7 : Int32) (s0 : Int32) (M : zMem) : Option (Int32 × zMem) :=
  (if x7 = 0 then f_Mo_way_b172 N k13 x1 x3 s0 x6 M else f_Mo_way_b172 N k13 x1 x3 s0 (x5 - x6) M)
def f_Mo_way_b129 (N : Nat) (k13 : Int32 → Int32 → Int32 → Int32 → zMem → Option (Int32 × zMem)) (x1 : Int32) (x3 : Int32) (x4 : Int32) (x5 : Int32) (x6 : Int32) (x7 : Int32) (s1 : Int32) (s2 : Int32) (M : zMem) : Option (Int32 × zMem) :=
  (if zin s1 8 = true then zlt (zu M 66 s1.toNatClampNeg s2) fun M129 => zlt (zu M129 45 25 ((M129 45 25) + (1 : Int32))) fun M137 => (if x7 = 0 then f_Mo_way_b155 N k13 x1 x3 x5 x6 x7 x4 M137 else f_Mo_way_b155 N k13 x1 x3 x5 x6 x7 (x4 + x6) M137) else none)
def f_Mo_way_b105 (N : Nat) (k13 : Int32 → Int32 → Int32 → Int32 → zMem → Option (Int32 × zMem)) (x1 : Int32) (x3 : Int32) (x4 : Int32) (x5 : Int32) (x6 : Int32) (x7 : Int32) (s1 : Int32) (s2 : Int32) (M : zMem) : Option (Int32 × zMem) :=
  (if zin s1 8 = true then zlt (zu M 65 s1.toNatClampNeg s2) fun M105 => (if x7 = 0 then f_Mo_way_b129 N k13 x1 x3 x4 x5 x6 x7 (M105 45 25) (x5 - x6) M105 else f_Mo_way_b129 N k13 x1 x3 x4 x5 x6 x7 (M105 45 25) x6 M105) else none)
def f_Mo_way_b69 (N : Nat) (k13 : Int32 → Int32 → Int32 → Int32 → zMem → Option (Int32 × zMem)) (x1 : Int32) (x3 : Int32) (x4 : Int32) (x5 : Int32) (x6 : Int32) (s0 : Int32) (M : zMem) : Option (Int32 × zMem) :=
  (if zin (M 45 25) 8 = true then (if zbool s0 = true then zlt (zu M 64 (M 45 25).toNatClampNeg s0) fun M81 => (if s0 = 0 then f_Mo_way_b105 N k13 x1 x3 x4 x5 x6 s0 (M81 45 25) (x4 + x6) M81 else f_Mo_way_b105 N k13 x1 x3 x4 x5 x6 s0 (M81 45 25) x4 M81) else none) else none)
def f_Mo_way_l37 (N : Nat) (k13 : Int32 → Int32 → Int32 → Int32 → zMem → Option (Int32 × zMem)) : Nat → Int32 → Int32 → Int32 → Int32 → Int32 → zMem → Option (Int32 × zMem)
  | 0, _, _, _, _, _, _ => none
  | n + 1, x1, x3, x4, x5, x6, M =>
    (if x5 ≤ ((2 : Int32) * x6) then (if x1 < (x4 + x6) then f_Mo_way_b69 N k13 x1 x3 x4 x5 x6 (0 : Int32) M else f_Mo_way_b69 N k13 x1 x3 x4 x5 x6 (1 : Int32) M) else zlt (((2 : Int32) * x6)) fun v50 => (f_Mo_way_l37 N k13 n) x1 x3 x4 x5 v50 M)
def f_Mo_way_b34 (N : Nat) (k13 : Int32 → Int32 → Int32 → Int32 → zMem → Option (Int32 × zMem)) (x1 : Int32) (x3 : Int32) (x4 : Int32) (x5 : Int32) (M : zMem) : Option (Int32 × zMem) :=
  f_Mo_way_l37 N k13 N x1 x3 x4 x5 (1 : Int32) M
def f_Mo_way_l13 (N : Nat) : Nat → Int32 → Int32 → Int32 → Int32 → zMem → Option (Int32 × zMem)
  | 0, _, _, _, _, _ => none
  | n + 1, x1, x3, x4, x5, M =>
    (if x5 ≤ (1 : Int32) then zlt (zu M 45 29 x4) fun M180 => zlt (zu M180 45 30 x5) fun M186 => some (0, M186) else (if x3 = 0 then f_Mo_way_b34 N (f_Mo_way_l13 N n) x1 x3 x4 x5 M else (if ((x4 + x5) - (1 : Int32)) ≤ x1 then zlt (zu M 45 29 x4) fun M180 => zlt (zu M180 45 30 x5) fun M186 => some (0, M186) else f_Mo_way_b34 N (f_Mo_way_l13 N n) x1 x3 x4 x5 M)))
def f_Mo_way (N : Nat) (x1 : Int32) (x2 : Int32) (x3 : Int32) (M : zMem) : Option (Int32 × zMem) :=
  zlt ((x2 + (1 : Int32))) fun v6 => zlt (zu M 45 25 (0 : Int32)) fun M10 => f_Mo_way_l13 N N x1 x3 (0 : Int32) v6 M10
def f_Mo_add (N : Nat) (x1 : Int32) (x2 : Int32) (M : zMem) : Option (Int32 × zMem) :=
  (if zin x1 4 = true then (if zin (((30 : Int32) * x1) + (M 61 x1.toNatClampNeg)) 120 = true then zlt (zu M 60 (((30 : Int32) * x1) + (M 61 x1.toNatClampNeg)).toNatClampNeg x2) fun M16 => (if zin x1 4 = true then (if zin x1 4 = true then zlt (zu M16 61 x1.toNatClampNeg ((M16 61 x1.toNatClampNeg) + (1 : Int32))) fun M26 => some (0, M26) else none) else none) else none) else none)
def f_Mo_lookup_l106 (N : Nat) : Nat → Int32 → Int32 → Int32 → Int32 → Int32 → Int32 → Int32 → zMem → Option (Int32 × zMem)
  | 0, _, _, _, _, _, _, _, _ => none
  | n + 1, x1, x2, x3, x4, x5, x6, x7, M =>
    (if x5 ≤ x7 then (if zin x4 128 = true then zlt (zu M 45 22 (x5 + (M 50 x4.toNatClampNeg))) fun M170 => (if zin x4 128 = true then (if (M170 52 x4.toNatClampNeg) = x2 then (if zin (((64 : Int32) * x3) + x2) 2560 = true then some ((M170 46 (((64 : Int32) * x3) + x2).toNatClampNeg), M170) else none) else some ((0 : Int32), M170)) else none) else none) else (f_Mo_bit N x2 x7 M).bind fun q122 => zlt (((((2 : Int32) * x6) + (1 : Int32)) - q122.1)) fun v126 => (if zin v126 128 = true then (f_Mo_add N x1 (q122.2 51 v126.toNatClampNeg) q122.2).bind fun q137 => (f_Mo_bit N x2 x7 q137.2).bind fun q147 => zlt ((((2 : Int32) * x6) + q147.1)) fun v151 => zlt (x7 + (1 : Int32)) fun v153 => (f_Mo_lookup_l106 N n) x1 x2 x3 x4 x5 v151 v153 q147.2 else none))
def f_Mo_lookup_b97 (N : Nat) (x1 : Int32) (x2 : Int32) (x3 : Int32) (x4 : Int32) (x5 : Int32) (s1 : Int32) (s2 : Int32) (M : zMem) : Option (Int32 × zMem) :=
  (f_Mo_add N s1 s2 M).bind fun q97 => f_Mo_lookup_l106 N N x1 x2 x3 x4 x5 (1 : Int32) (0 : Int32) q97.2
def f_Mo_lookup_l14 (N : Nat) : Nat → Int32 → Int32 → Int32 → Int32 → Int32 → zMem → Option (Int32 × zMem)
  | 0, _, _, _, _, _, _ => none
  | n + 1, x1, x2, x3, x4, x5, M =>
    (if zin x4 128 = true then (if (M 50 x4.toNatClampNeg) ≤ (1 : Int32) then (f_Mo_add N x1 x5 M).bind fun q48 => (if zin x4 128 = true then (f_Mo_add N x1 (q48.2 52 x4.toNatClampNeg) q48.2).bind fun q60 => (if zin x4 128 = true then (if (q60.2 50 x4.toNatClampNeg) = (1 : Int32) then (if zin x4 128 = true then (if zin (((64 : Int32) * x3) + (q60.2 52 x4.toNatClampNeg)) 2560 = true then f_Mo_lookup_b97 N x1 x2 x3 x4 x5 x1 (q60.2 46 (((64 : Int32) * x3) + (q60.2 52 x4.toNatClampNeg)).toNatClampNeg) q60.2 else none) else none) else f_Mo_lookup_b97 N x1 x2 x3 x4 x5 x1 (0 : Int32) q60.2) else none) else none) else (f_Mo_bit N x2 x5 M).bind fun q32 => zlt ((((2 : Int32) * x4) + q32.1)) fun v36 => zlt (x5 + (1 : Int32)) fun v38 => (f_Mo_lookup_l14 N n) x1 x2 x3 v36 v38 q32.2) else none)
def f_Mo_lookup (N : Nat) (x1 : Int32) (x2 : Int32) (x3 : Int32) (M : zMem) : Option (Int32 × zMem) :=
  (f_Mo_grow N ((64 : Int32) * x3) M).bind fun q5 => f_Mo_lookup_l14 N N x1 x2 x3 (1 : Int32) (0 : Int32) q5.2
def f_Mo_prove_b204 (N : Nat) (x1 : Int32) (x2 : Int32) (x6 : Int32) (M : zMem) : Option (Int32 × zMem) :=
  (if zin x1 4 = true then zlt (zu M 45 21 (M 61 x1.toNatClampNeg)) fun M211 => (if x2 = 0 then some (x6, M211) else some ((M211 45 21), M211)) else none)
def f_Mo_prove_l166 (N : Nat) : Nat → Int32 → Int32 → Int32 → Int32 → zMem → Option (Int32 × zMem)
  | 0, _, _, _, _, _ => none
  | n + 1, x1, x2, x6, x7, M =>
    (if x7 < 0 then f_Mo_prove_b204 N x1 x2 x6 M else (if zin x7 8 = true then (if zin x7 8 = true then (f_Mo_row N (M 65 x7.toNatClampNeg) (M 66 x7.toNatClampNeg) M).bind fun q186 => (f_Mo_add N x1 q186.1 q186.2).bind fun q195 => zlt (x7 + (-1 : Int32)) fun v198 => (f_Mo_prove_l166 N n) x1 x2 x6 v198 q195.2 else none) else none))
def f_Mo_prove_b158 (N : Nat) (x1 : Int32) (x2 : Int32) (x6 : Int32) (M : zMem) : Option (Int32 × zMem) :=
  zlt (((M 45 25) - (1 : Int32))) fun v164 => f_Mo_prove_l166 N N x1 x2 x6 v164 M
def f_Mo_prove_b122 (N : Nat) (x1 : Int32) (x2 : Int32) (x6 : Int32) (s1 : Int32) (s2 : Int32) (s3 : Int32) (M : zMem) : Option (Int32 × zMem) :=
  (f_Mo_way N s1 s2 s3 M).bind fun q122 => (if x2 = (2 : Int32) then (if (q122.2 45 29) ≤ 0 then f_Mo_prove_b158 N x1 x2 x6 q122.2 else (f_Mo_row N (q122.2 45 29) (q122.2 45 30) q122.2).bind fun q146 => (f_Mo_add N x1 q146.1 q146.2).bind fun q155 => f_Mo_prove_b158 N x1 x2 x6 q155.2) else f_Mo_prove_b158 N x1 x2 x6 q122.2)
def f_Mo_prove_b81 (N : Nat) (x1 : Int32) (x2 : Int32) (x3 : Int32) (x4 : Int32) (M : zMem) : Option (Int32 × zMem) :=
  (if zin x1 4 = true then zlt (zu M 61 x1.toNatClampNeg (0 : Int32)) fun M87 => (if x2 = 0 then (f_Mo_lookup N x1 x3 x4 M87).bind fun q100 => f_Mo_prove_b204 N x1 x2 q100.1 q100.2 else (if x2 = (2 : Int32) then f_Mo_prove_b122 N x1 x2 (0 : Int32) x3 x4 (1 : Int32) M87 else f_Mo_prove_b122 N x1 x2 (0 : Int32) x3 x4 (0 : Int32) M87)) else none)
def f_Mo_prove_b65 (N : Nat) (x1 : Int32) (x2 : Int32) (x3 : Int32) (x4 : Int32) (M : zMem) : Option (Int32 × zMem) :=
  (if x2 ≤ 0 then f_Mo_prove_b81 N x1 x2 x3 x4 M else (if x3 < 0 then some ((-1 : Int32), M) else (if x3 ≤ x4 then f_Mo_prove_b81 N x1 x2 x3 x4 M else some ((-1 : Int32), M))))
def f_Mo_prove_b29 (N : Nat) (x1 : Int32) (x2 : Int32) (x3 : Int32) (x4 : Int32) (s0 : Int32) (M : zMem) : Option (Int32 × zMem) :=
  (if x1 < 0 then some ((-1 : Int32), M) else (if (3 : Int32) < x1 then some ((-1 : Int32), M) else (if x2 < 0 then some ((-1 : Int32), M) else (if (2 : Int32) < x2 then some ((-1 : Int32), M) else (if s0 = 0 then some ((-1 : Int32), M) else (if x2 = 0 then (f_Mo_isName N x3 M).bind fun q59 => (if q59.1 = 0 then some ((-1 : Int32), q59.2) else f_Mo_prove_b65 N x1 x2 x3 x4 q59.2) else f_Mo_prove_b65 N x1 x2 x3 x4 M))))))
def f_Mo_prove_b28 (N : Nat) (x1 : Int32) (x2 : Int32) (x3 : Int32) (x4 : Int32) (M : zMem) : Option (Int32 × zMem) :=
  f_Mo_prove_b29 N x1 x2 x3 x4 (0 : Int32) M
def f_Mo_prove (N : Nat) (x1 : Int32) (x2 : Int32) (x3 : Int32) (x4 : Int32) (M : zMem) : Option (Int32 × zMem) :=
  (if (M 45 18) = 0 then (if x4 < 0 then f_Mo_prove_b28 N x1 x2 x3 x4 M else (if (M 45 4) ≤ x4 then f_Mo_prove_b28 N x1 x2 x3 x4 M else f_Mo_prove_b29 N x1 x2 x3 x4 (1 : Int32) M)) else some ((-9 : Int32), M))
def f_Mo_word (N : Nat) (x1 : Int32) (x2 : Int32) (M : zMem) : Option (Int32 × zMem) :=
  (if x1 < 0 then some ((-2 : Int32), M) else (if (3 : Int32) < x1 then some ((-2 : Int32), M) else (if x2 < (-1 : Int32) then some ((-2 : Int32), M) else (if zin x1 4 = true then (if x2 < (M 61 x1.toNatClampNeg) then (if 0 ≤ x2 then (if zin (((30 : Int32) * x1) + x2) 120 = true then some ((M 60 (((30 : Int32) * x1) + x2).toNatClampNeg), M) else none) else (if zin x1 4 = true then some ((M 61 x1.toNatClampNeg), M) else none)) else some ((-2 : Int32), M)) else none))))
def f_Mo_poke (N : Nat) (x1 : Int32) (x2 : Int32) (x3 : Int32) (M : zMem) : Option (Int32 × zMem) :=
  (if x1 < 0 then some ((0 : Int32), M) else (if (3 : Int32) < x1 then some ((0 : Int32), M) else (if x2 < 0 then some ((0 : Int32), M) else (if zin x1 4 = true then (if (M 61 x1.toNatClampNeg) < x2 then some ((0 : Int32), M) else (if x2 ≤ (29 : Int32) then (if zin (((30 : Int32) * x1) + x2) 120 = true then zlt (zu M 60 (((30 : Int32) * x1) + x2).toNatClampNeg x3) fun M42 => (if zin x1 4 = true then (if x2 = (M42 61 x1.toNatClampNeg) then (if zin x1 4 = true then zlt (zu M42 61 x1.toNatClampNeg (x2 + (1 : Int32))) fun M70 => some ((1 : Int32), M70) else none) else (if zin x1 4 = true then (if zin x1 4 = true then zlt (zu M42 61 x1.toNatClampNeg (M42 61 x1.toNatClampNeg)) fun M70 => some ((1 : Int32), M70) else none) else none)) else none) else none) else some ((0 : Int32), M))) else none))))
def f_Mo_trim (N : Nat) (x1 : Int32) (x2 : Int32) (M : zMem) : Option (Int32 × zMem) :=
  (if x1 < 0 then some ((0 : Int32), M) else (if (3 : Int32) < x1 then some ((0 : Int32), M) else (if x2 < 0 then some ((0 : Int32), M) else (if zin x1 4 = true then (if x2 ≤ (M 61 x1.toNatClampNeg) then (if zin x1 4 = true then zlt (zu M 61 x1.toNatClampNeg x2) fun M31 => some ((1 : Int32), M31) else none) else some ((0 : Int32), M)) else none))))
def f_Mo_formed_b163 (N : Nat) (k131 : Int32 → Int32 → Int32 → Int32 → Int32 → zMem → Option (Int32 × zMem)) (x2 : Int32) (x3 : Int32) (x4 : Int32) (x7 : Int32) (s0 : Int32) (M : zMem) : Option (Int32 × zMem) :=
  zlt (x7 + (1 : Int32)) fun v165 => k131 x2 x3 x4 s0 v165 M
def f_Mo_formed_l131 (N : Nat) : Nat → Int32 → Int32 → Int32 → Int32 → Int32 → zMem → Option (Int32 × zMem)
  | 0, _, _, _, _, _, _ => none
  | n + 1, x2, x3, x4, x6, x7, M =>
    (if x3 ≤ x7 then (if zbool x6 = true then some (x6, M) else none) else (if x6 = 0 then (if zbool x6 = true then some (x6, M) else none) else (f_Mo_bit N x4 x7 M).bind fun q146 => (f_Mo_bit N x2 x7 q146.2).bind fun q152 => (if q146.1 = q152.1 then f_Mo_formed_b163 N (f_Mo_formed_l131 N n) x2 x3 x4 x7 (1 : Int32) q152.2 else f_Mo_formed_b163 N (f_Mo_formed_l131 N n) x2 x3 x4 x7 (0 : Int32) q152.2)))
def f_Mo_formed_b126 (N : Nat) (x2 : Int32) (x3 : Int32) (x4 : Int32) (s0 : Int32) (M : zMem) : Option (Int32 × zMem) :=
  f_Mo_formed_l131 N N x2 x3 x4 s0 (0 : Int32) M
def f_Mo_formed_b125 (N : Nat) (x2 : Int32) (x3 : Int32) (x4 : Int32) (M : zMem) : Option (Int32 × zMem) :=
  f_Mo_formed_b126 N x2 x3 x4 (0 : Int32) M
def f_Mo_formed (N : Nat) (x1 : Int32) (x2 : Int32) (M : zMem) : Option (Int32 × zMem) :=
  (if x1 < 0 then some ((0 : Int32), M) else (if (3 : Int32) < x1 then some ((0 : Int32), M) else (f_Mo_isName N x2 M).bind fun q10 => (if q10.1 = 0 then some ((0 : Int32), q10.2) else (if zin x1 4 = true then (if (3 : Int32) ≤ (q10.2 61 x1.toNatClampNeg) then (if zin ((30 : Int32) * x1) 120 = true then zlt ((q10.2 60 ((30 : Int32) * x1).toNatClampNeg)) fun v37 => (if zin (((30 : Int32) * x1) + (1 : Int32)) 120 = true then zlt ((q10.2 60 (((30 : Int32) * x1) + (1 : Int32)).toNatClampNeg)) fun v49 => (if zin (((30 : Int32) * x1) + (2 : Int32)) 120 = true then zlt ((q10.2 60 (((30 : Int32) * x1) + (2 : Int32)).toNatClampNeg)) fun v62 => (if v37 < 0 then some ((0 : Int32), q10.2) else (if (6 : Int32) < v37 then some ((0 : Int32), q10.2) else (if zin x1 4 = true then (if (q10.2 61 x1.toNatClampNeg) = ((3 : Int32) + v37) then (if v49 = (-1 : Int32) then (if v62 = 0 then some ((1 : Int32), q10.2) else some ((0 : Int32), q10.2)) else (f_Mo_isName N v49 q10.2).bind fun q107 => (if q107.1 = 0 then f_Mo_formed_b125 N x2 v37 v49 q107.2 else (f_Mo_isKey N v62 q107.2).bind fun q115 => (if q115.1 = 0 then f_Mo_formed_b125 N x2 v37 v49 q115.2 else f_Mo_formed_b126 N x2 v37 v49 (1 : Int32) q115.2))) else some ((0 : Int32), q10.2)) else none))) else none) else none) else none) else some ((0 : Int32), q10.2)) else none))))
def f_Mo_accepted_b206 (N : Nat) (k123 : Int32 → Int32 → Int32 → Int32 → Int32 → Int32 → zMem → Option (Int32 × zMem)) (x1 : Int32) (x2 : Int32) (x3 : Int32) (x4 : Int32) (x8 : Int32) (s1 : Int32) (s2 : Int32) (M : zMem) : Option (Int32 × zMem) :=
  (if zin s1 14 = true then zlt (zu M 69 s1.toNatClampNeg s2) fun M206 => (if zin (x4 + x8) 14 = true then (if zin (x4 + x8) 14 = true then (f_Mo_hash N (2 : Int32) (M206 68 (x4 + x8).toNatClampNeg) (M206 69 (x4 + x8).toNatClampNeg) M206).bind fun q229 => zlt (x8 + (-1 : Int32)) fun v234 => k123 x1 x2 x3 x4 q229.1 v234 q229.2 else none) else none) else none)
def f_Mo_accepted_b180 (N : Nat) (k123 : Int32 → Int32 → Int32 → Int32 → Int32 → Int32 → zMem → Option (Int32 × zMem)) (x1 : Int32) (x2 : Int32) (x3 : Int32) (x4 : Int32) (x7 : Int32) (x8 : Int32) (x9 : Int32) (s1 : Int32) (s2 : Int32) (M : zMem) : Option (Int32 × zMem) :=
  (if zin s1 14 = true then zlt (zu M 68 s1.toNatClampNeg s2) fun M180 => (f_Mo_bit N x2 x8 M180).bind fun q193 => (if q193.1 = 0 then f_Mo_accepted_b206 N k123 x1 x2 x3 x4 x8 (x4 + x8) x9 q193.2 else f_Mo_accepted_b206 N k123 x1 x2 x3 x4 x8 (x4 + x8) x7 q193.2) else none)
def f_Mo_accepted_l123 (N : Nat) : Nat → Int32 → Int32 → Int32 → Int32 → Int32 → Int32 → zMem → Option (Int32 × zMem)
  | 0, _, _, _, _, _, _, _ => none
  | n + 1, x1, x2, x3, x4, x7, x8, M =>
    (if x8 < 0 then (if x7 = x3 then some ((1 : Int32), M) else some ((0 : Int32), M)) else (if zin ((((30 : Int32) * x1) + (3 : Int32)) + x8) 120 = true then zlt ((M 60 ((((30 : Int32) * x1) + (3 : Int32)) + x8).toNatClampNeg)) fun v142 => (if zin (x4 + x8) 14 = true then zlt (zu M 67 (x4 + x8).toNatClampNeg (2 : Int32)) fun M154 => (f_Mo_bit N x2 x8 M154).bind fun q167 => (if q167.1 = 0 then f_Mo_accepted_b180 N (f_Mo_accepted_l123 N n) x1 x2 x3 x4 x7 x8 v142 (x4 + x8) x7 q167.2 else f_Mo_accepted_b180 N (f_Mo_accepted_l123 N n) x1 x2 x3 x4 x7 x8 v142 (x4 + x8) v142 q167.2) else none) else none))
def f_Mo_accepted_b115 (N : Nat) (x1 : Int32) (x2 : Int32) (x3 : Int32) (x4 : Int32) (x5 : Int32) (s0 : Int32) (M : zMem) : Option (Int32 × zMem) :=
  zlt ((x5 - (1 : Int32))) fun v121 => f_Mo_accepted_l123 N N x1 x2 x3 x4 s0 v121 M
def f_Mo_accepted_b54 (N : Nat) (x1 : Int32) (x2 : Int32) (x3 : Int32) (x4 : Int32) (x5 : Int32) (x6 : Int32) (s1 : Int32) (s2 : Int32) (M : zMem) : Option (Int32 × zMem) :=
  (if zin s1 14 = true then zlt (zu M 67 s1.toNatClampNeg s2) fun M54 => (if zin (x4 + x5) 14 = true then zlt (zu M54 68 (x4 + x5).toNatClampNeg x6) fun M66 => (if zin (((30 : Int32) * x1) + (2 : Int32)) 120 = true then (if zin (x4 + x5) 14 = true then zlt (zu M66 69 (x4 + x5).toNatClampNeg (M66 60 (((30 : Int32) * x1) + (2 : Int32)).toNatClampNeg)) fun M87 => (if 0 ≤ x6 then (if zin (((30 : Int32) * x1) + (2 : Int32)) 120 = true then (f_Mo_hash N (1 : Int32) x6 (M87 60 (((30 : Int32) * x1) + (2 : Int32)).toNatClampNeg) M87).bind fun q112 => f_Mo_accepted_b115 N x1 x2 x3 x4 x5 q112.1 q112.2 else none) else f_Mo_accepted_b115 N x1 x2 x3 x4 x5 (0 : Int32) M87) else none) else none) else none) else none)
def f_Mo_accepted (N : Nat) (x1 : Int32) (x2 : Int32) (x3 : Int32) (x4 : Int32) (M : zMem) : Option (Int32 × zMem) :=
  (f_Mo_formed N x1 x2 M).bind fun q3 => (if q3.1 = 0 then some ((0 : Int32), q3.2) else (if zin ((30 : Int32) * x1) 120 = true then zlt ((q3.2 60 ((30 : Int32) * x1).toNatClampNeg)) fun v20 => (if zin (((30 : Int32) * x1) + (1 : Int32)) 120 = true then zlt ((q3.2 60 (((30 : Int32) * x1) + (1 : Int32)).toNatClampNeg)) fun v33 => (if 0 ≤ v33 then f_Mo_accepted_b54 N x1 x2 x3 x4 v20 v33 (x4 + v20) (1 : Int32) q3.2 else f_Mo_accepted_b54 N x1 x2 x3 x4 v20 v33 (x4 + v20) (0 : Int32) q3.2) else none) else none))
def f_Mo_says (N : Nat) (x1 : Int32) (x2 : Int32) (M : zMem) : Option (Int32 × zMem) :=
  (if zin (((30 : Int32) * x1) + (1 : Int32)) 120 = true then (if (M 60 (((30 : Int32) * x1) + (1 : Int32)).toNatClampNeg) = x2 then (if zin (((30 : Int32) * x1) + (2 : Int32)) 120 = true then some ((M 60 (((30 : Int32) * x1) + (2 : Int32)).toNatClampNeg), M) else none) else some ((0 : Int32), M)) else none)
def f_Mo_check (N : Nat) (x1 : Int32) (x2 : Int32) (x3 : Int32) (M : zMem) : Option (Int32 × zMem) :=
  (f_Mo_accepted N x1 x2 x3 (0 : Int32) M).bind fun q5 => (if q5.1 = 0 then some ((-1 : Int32), q5.2) else (f_Mo_says N x1 x2 q5.2).bind fun q14 => some (q14.1, q14.2))
def f_Mo_inOrder (N : Nat) (x1 : Int32) (x2 : Int32) (x3 : Int32) (M : zMem) : Option (Int32 × zMem) :=
  (if x1 < 0 then some ((0 : Int32), M) else (if (3 : Int32) < x1 then some ((0 : Int32), M) else (if x2 < 0 then some ((0 : Int32), M) else (if x3 < x2 then some ((0 : Int32), M) else (if (40 : Int32) ≤ x3 then some ((0 : Int32), M) else some ((1 : Int32), M))))))
def f_Mo_included_b108 (N : Nat) (k47 : Int32 → Int32 → Int32 → Int32 → zMem → Option (Int32 × zMem)) (x1 : Int32) (x5 : Int32) (x7 : Int32) (s0 : Int32) (M : zMem) : Option (Int32 × zMem) :=
  zlt (x7 + (1 : Int32)) fun v110 => k47 x1 x5 s0 v110 M
def f_Mo_included_l47 (N : Nat) : Nat → Int32 → Int32 → Int32 → Int32 → zMem → Option (Int32 × zMem)
  | 0, _, _, _, _, _ => none
  | n + 1, x1, x5, x6, x7, M =>
    (if (M 45 25) ≤ x7 then (if x6 = x5 then some ((1 : Int32), M) else some ((0 : Int32), M)) else (if zin (((30 : Int32) * x1) + x7) 120 = true then zlt ((M 60 (((30 : Int32) * x1) + x7).toNatClampNeg)) fun v68 => (if zin (((M 45 25) - (1 : Int32)) - x7) 8 = true then (if (M 64 (((M 45 25) - (1 : Int32)) - x7).toNatClampNeg) = 0 then (f_Mo_hash N (4 : Int32) x6 v68 M).bind fun q105 => f_Mo_included_b108 N (f_Mo_included_l47 N n) x1 x5 x7 q105.1 q105.2 else (f_Mo_hash N (4 : Int32) v68 x6 M).bind fun q93 => f_Mo_included_b108 N (f_Mo_included_l47 N n) x1 x5 x7 q93.1 q93.2) else none) else none))
def f_Mo_included (N : Nat) (x1 : Int32) (x2 : Int32) (x3 : Int32) (x4 : Int32) (x5 : Int32) (M : zMem) : Option (Int32 × zMem) :=
  (f_Mo_inOrder N x1 x2 x3 M).bind fun q4 => (if q4.1 = 0 then some ((0 : Int32), q4.2) else (f_Mo_way N x2 x3 (0 : Int32) q4.2).bind fun q16 => (if zin x1 4 = true then (if (q16.2 61 x1.toNatClampNeg) = (q16.2 45 25) then (f_Mo_hash N (3 : Int32) x4 x2 q16.2).bind fun q39 => f_Mo_included_l47 N N x1 x5 q39.1 (0 : Int32) q39.2 else some ((0 : Int32), q16.2)) else none))
def f_Mo_consistent_b169 (N : Nat) (k80 : Int32 → Int32 → Int32 → Int32 → Int32 → Int32 → Int32 → zMem → Option (Int32 × zMem)) (x1 : Int32) (x4 : Int32) (x5 : Int32) (x6 : Int32) (x7 : Int32) (x9 : Int32) (s0 : Int32) (M : zMem) : Option (Int32 × zMem) :=
  zlt (x9 + (1 : Int32)) fun v171 => k80 x1 x4 x5 x6 x7 s0 v171 M
def f_Mo_consistent_b148 (N : Nat) (k80 : Int32 → Int32 → Int32 → Int32 → Int32 → Int32 → Int32 → zMem → Option (Int32 × zMem)) (x1 : Int32) (x4 : Int32) (x5 : Int32) (x6 : Int32) (x8 : Int32) (x9 : Int32) (x10 : Int32) (x11 : Int32) (s0 : Int32) (M : zMem) : Option (Int32 × zMem) :=
  (if x11 = 0 then f_Mo_consistent_b169 N k80 x1 x4 x5 x6 s0 x9 x8 M else (f_Mo_hash N (4 : Int32) x10 x8 M).bind fun q161 => f_Mo_consistent_b169 N k80 x1 x4 x5 x6 s0 x9 q161.1 q161.2)
def f_Mo_consistent_l80 (N : Nat) : Nat → Int32 → Int32 → Int32 → Int32 → Int32 → Int32 → Int32 → zMem → Option (Int32 × zMem)
  | 0, _, _, _, _, _, _, _, _ => none
  | n + 1, x1, x4, x5, x6, x7, x8, x9, M =>
    (if (M 45 25) ≤ x9 then (if x7 = x5 then (if x8 = x4 then some ((1 : Int32), M) else some ((0 : Int32), M)) else some ((0 : Int32), M)) else (if zin ((((30 : Int32) * x1) + x6) + x9) 120 = true then zlt ((M 60 ((((30 : Int32) * x1) + x6) + x9).toNatClampNeg)) fun v104 => (if zin (((M 45 25) - (1 : Int32)) - x9) 8 = true then zlt ((M 64 (((M 45 25) - (1 : Int32)) - x9).toNatClampNeg)) fun v120 => (if v120 = 0 then (f_Mo_hash N (4 : Int32) x7 v104 M).bind fun q145 => f_Mo_consistent_b148 N (f_Mo_consistent_l80 N n) x1 x4 x5 x6 x8 x9 v104 v120 q145.1 q145.2 else (f_Mo_hash N (4 : Int32) v104 x7 M).bind fun q133 => f_Mo_consistent_b148 N (f_Mo_consistent_l80 N n) x1 x4 x5 x6 x8 x9 v104 v120 q133.1 q133.2) else none) else none))
def f_Mo_consistent_b71 (N : Nat) (x1 : Int32) (x4 : Int32) (x5 : Int32) (x6 : Int32) (s0 : Int32) (M : zMem) : Option (Int32 × zMem) :=
  f_Mo_consistent_l80 N N x1 x4 x5 x6 s0 s0 (0 : Int32) M
def f_Mo_consistent_b31 (N : Nat) (x1 : Int32) (x4 : Int32) (x5 : Int32) (s0 : Int32) (M : zMem) : Option (Int32 × zMem) :=
  (if zin x1 4 = true then (if (M 61 x1.toNatClampNeg) = ((M 45 25) + s0) then (if s0 = (1 : Int32) then (if zin ((30 : Int32) * x1) 120 = true then f_Mo_consistent_b71 N x1 x4 x5 s0 (M 60 ((30 : Int32) * x1).toNatClampNeg) M else none) else f_Mo_consistent_b71 N x1 x4 x5 s0 x4 M) else some ((0 : Int32), M)) else none)
def f_Mo_consistent (N : Nat) (x1 : Int32) (x2 : Int32) (x3 : Int32) (x4 : Int32) (x5 : Int32) (M : zMem) : Option (Int32 × zMem) :=
  (f_Mo_inOrder N x1 x2 x3 M).bind fun q4 => (if q4.1 = 0 then some ((0 : Int32), q4.2) else (f_Mo_way N x2 x3 (1 : Int32) q4.2).bind fun q16 => (if (q16.2 45 29) ≤ 0 then f_Mo_consistent_b31 N x1 x4 x5 (0 : Int32) q16.2 else f_Mo_consistent_b31 N x1 x4 x5 (1 : Int32) q16.2))
def f_Mo_follow_b56 (N : Nat) (x3 : Int32) (x4 : Int32) (s1 : Int32) (M : zMem) : Option (Int32 × zMem) :=
  zlt (zu M 45 31 s1) fun M56 => (if x4 = 0 then zlt (zu M56 45 32 (M56 45 32)) fun M73 => (if zbool x4 = true then some (x4, M73) else none) else zlt (zu M56 45 32 x3) fun M73 => (if zbool x4 = true then some (x4, M73) else none))
def f_Mo_follow_b40 (N : Nat) (x2 : Int32) (x3 : Int32) (s0 : Int32) (M : zMem) : Option (Int32 × zMem) :=
  (if s0 = 0 then f_Mo_follow_b56 N x3 s0 (M 45 31) M else f_Mo_follow_b56 N x3 s0 x2 M)
def f_Mo_follow_b21 (N : Nat) (x2 : Int32) (x3 : Int32) (M : zMem) : Option (Int32 × zMem) :=
  f_Mo_follow_b40 N x2 x3 (0 : Int32) M
def f_Mo_follow (N : Nat) (x1 : Int32) (x2 : Int32) (x3 : Int32) (M : zMem) : Option (Int32 × zMem) :=
  (if 0 ≤ (M 45 31) then (f_Mo_consistent N x1 (M 45 31) x2 (M 45 32) x3 M).bind fun q37 => f_Mo_follow_b40 N x2 x3 q37.1 q37.2 else (if x2 < 0 then f_Mo_follow_b21 N x2 x3 M else (if (40 : Int32) ≤ x2 then f_Mo_follow_b21 N x2 x3 M else f_Mo_follow_b40 N x2 x3 (1 : Int32) M)))
def f_Mo_seen (N : Nat) (x1 : Int32) (M : zMem) : Option (Int32 × zMem) :=
  (if 0 ≤ (M 45 31) then (if x1 = 0 then some ((M 45 31), M) else (if x1 = (1 : Int32) then some ((M 45 32), M) else some ((-1 : Int32), M))) else some ((-1 : Int32), M))
def f_Mo_extract_b118 (N : Nat) (x5 : Int32) (M : zMem) : Option (Int32 × zMem) :=
  (if zin x5 14 = true then zlt (zu M 70 0 (M 67 x5.toNatClampNeg)) fun M130 => (if zin x5 14 = true then zlt (zu M130 70 1 (M130 68 x5.toNatClampNeg)) fun M143 => (if zin x5 14 = true then zlt (zu M143 70 2 (M143 69 x5.toNatClampNeg)) fun M156 => (if zin ((7 : Int32) + x5) 14 = true then zlt (zu M156 70 3 (M156 67 ((7 : Int32) + x5).toNatClampNeg)) fun M172 => (if zin ((7 : Int32) + x5) 14 = true then zlt (zu M172 70 4 (M172 68 ((7 : Int32) + x5).toNatClampNeg)) fun M188 => (if zin ((7 : Int32) + x5) 14 = true then zlt (zu M188 70 5 (M188 69 ((7 : Int32) + x5).toNatClampNeg)) fun M204 => some ((1 : Int32), M204) else none) else none) else none) else none) else none) else none)
def f_Mo_extract_l45 (N : Nat) : Nat → Int32 → zMem → Option (Int32 × zMem)
  | 0, _, _ => none
  | n + 1, x5, M =>
    (if (6 : Int32) ≤ x5 then f_Mo_extract_b118 N x5 M else (if zin x5 14 = true then (if zin ((7 : Int32) + x5) 14 = true then (if (M 67 x5.toNatClampNeg) = (M 67 ((7 : Int32) + x5).toNatClampNeg) then (if zin x5 14 = true then (if zin ((7 : Int32) + x5) 14 = true then (if (M 68 x5.toNatClampNeg) = (M 68 ((7 : Int32) + x5).toNatClampNeg) then (if zin x5 14 = true then (if zin ((7 : Int32) + x5) 14 = true then (if (M 69 x5.toNatClampNeg) = (M 69 ((7 : Int32) + x5).toNatClampNeg) then zlt (x5 + (1 : Int32)) fun v112 => (f_Mo_extract_l45 N n) v112 M else f_Mo_extract_b118 N x5 M) else none) else none) else f_Mo_extract_b118 N x5 M) else none) else none) else f_Mo_extract_b118 N x5 M) else none) else none))
def f_Mo_extract (N : Nat) (x1 : Int32) (x2 : Int32) (x3 : Int32) (x4 : Int32) (M : zMem) : Option (Int32 × zMem) :=
  (f_Mo_accepted N x1 x3 x4 (0 : Int32) M).bind fun q6 => (if q6.1 = 0 then some ((0 : Int32), q6.2) else (f_Mo_accepted N x2 x3 x4 (7 : Int32) q6.2).bind fun q19 => (if q19.1 = 0 then some ((0 : Int32), q19.2) else (f_Mo_says N x1 x3 q19.2).bind fun q28 => (f_Mo_says N x2 x3 q28.2).bind fun q34 => (if q28.1 = q34.1 then some ((0 : Int32), q34.2) else f_Mo_extract_l45 N N (0 : Int32) q34.2)))
def f_Mo_clash (N : Nat) (x1 : Int32) (M : zMem) : Option (Int32 × zMem) :=
  (if x1 < 0 then some ((0 : Int32), M) else (if x1 ≤ (5 : Int32) then (if zin x1 6 = true then some ((M 70 x1.toNatClampNeg), M) else none) else some ((0 : Int32), M)))
def f_Mo_block (N : Nat) (x1 : Int32) (x2 : Int32) (M : zMem) : Option (Int32 × zMem) :=
  (if x1 < 0 then some ((-2 : Int32), M) else (if x1 < (M 45 9) then (if x2 = 0 then (if zin x1 300 = true then some ((M 53 x1.toNatClampNeg), M) else none) else (if x2 = (1 : Int32) then (if zin x1 300 = true then some ((M 54 x1.toNatClampNeg), M) else none) else (if x2 = (2 : Int32) then (if zin x1 300 = true then some ((M 55 x1.toNatClampNeg), M) else none) else some ((-2 : Int32), M)))) else some ((-2 : Int32), M)))
def f_Mo_size_b43 (N : Nat) (k4 : Int32 → Int32 → Int32 → zMem → Option (Int32 × zMem)) (x1 : Int32) (x3 : Int32) (s0 : Int32) (M : zMem) : Option (Int32 × zMem) :=
  zlt (x3 + (1 : Int32)) fun v44 => k4 x1 s0 v44 M
def f_Mo_size_b42 (N : Nat) (k4 : Int32 → Int32 → Int32 → zMem → Option (Int32 × zMem)) (x1 : Int32) (x2 : Int32) (x3 : Int32) (M : zMem) : Option (Int32 × zMem) :=
  f_Mo_size_b43 N k4 x1 x3 x2 M
def f_Mo_size_l4 (N : Nat) : Nat → Int32 → Int32 → Int32 → zMem → Option (Int32 × zMem)
  | 0, _, _, _, _ => none
  | n + 1, x1, x2, x3, M =>
    (if (64 : Int32) ≤ x3 then (if x1 = 0 then some ((M 45 4), M) else (if x1 = 1 then some ((M 45 9), M) else (if x1 = 2 then (f_Mo_names N M).bind fun q103 => some (q103.1, q103.2) else (if x1 = 3 then some (x2, M) else (if x1 = 4 then some ((M 45 21), M) else (if x1 = 5 then some ((M 45 22), M) else (if x1 = 6 then (if (M 45 18) = 0 then some ((0 : Int32), M) else some ((1 : Int32), M)) else some ((-1 : Int32), M)))))))) else (if (M 45 4) ≤ 0 then f_Mo_size_b42 N (f_Mo_size_l4 N n) x1 x2 x3 M else (if zin (((64 : Int32) * ((M 45 4) - (1 : Int32))) + x3) 2560 = true then (if (M 46 (((64 : Int32) * ((M 45 4) - (1 : Int32))) + x3).toNatClampNeg) = 0 then f_Mo_size_b42 N (f_Mo_size_l4 N n) x1 x2 x3 M else f_Mo_size_b43 N (f_Mo_size_l4 N n) x1 x3 (x2 + (1 : Int32)) M) else none)))
def f_Mo_size (N : Nat) (x1 : Int32) (M : zMem) : Option (Int32 × zMem) :=
  f_Mo_size_l4 N N x1 (0 : Int32) (0 : Int32) M
