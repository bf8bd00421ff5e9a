def zshl (x z : Int32) : Int32 := x <<< (z &&& 31)
def zshr (x z : Int32) : Int32 := x >>> (z &&& 31)
def zush (x z : Int32) : Int32 := (x.toUInt32 >>> (z.toUInt32 &&& Int32.toUInt32 31)).toInt32
def zrem (x z : Int32) : Int32 := x - x / z * z
section zRules2
variable {E : zE} {y : zM} {d mc ms : Nat} {X : zXt} {F : zFin} {pc n : Nat} {L : List (Option Value)} {st : List Value} {ws : va_W} {cells slots : Nat}
theorem zJ_iadd {x z : Int32} (hd : decode y.2.1 pc = .ok (.iadd, 1)) (hn : pc + 1 = n) (k : zJ E y d mc ms X F n L (.int (x + z) :: st) ws cells slots) : zJ E y d mc ms X F pc L (.int z :: .int x :: st) ws cells slots := by
  subst hn
  intro p l e R s m args below meth c A H locs ls C hP hD hS hL
  exact lv_iadd C.1 C.2.1 hd (k p l e R s m args below meth c A H locs ls C hP hD hS hL)
theorem zJ_isub {x z : Int32} (hd : decode y.2.1 pc = .ok (.isub, 1)) (hn : pc + 1 = n) (k : zJ E y d mc ms X F n L (.int (x - z) :: st) ws cells slots) : zJ E y d mc ms X F pc L (.int z :: .int x :: st) ws cells slots := by
  subst hn
  intro p l e R s m args below meth c A H locs ls C hP hD hS hL
  exact lv_isub C.1 C.2.1 hd (k p l e R s m args below meth c A H locs ls C hP hD hS hL)
theorem zJ_imul {x z : Int32} (hd : decode y.2.1 pc = .ok (.imul, 1)) (hn : pc + 1 = n) (k : zJ E y d mc ms X F n L (.int (x * z) :: st) ws cells slots) : zJ E y d mc ms X F pc L (.int z :: .int x :: st) ws cells slots := by
  subst hn
  intro p l e R s m args below meth c A H locs ls C hP hD hS hL
  exact lv_imul C.1 C.2.1 hd (k p l e R s m args below meth c A H locs ls C hP hD hS hL)
theorem zJ_iand {x z : Int32} (hd : decode y.2.1 pc = .ok (.iand, 1)) (hn : pc + 1 = n) (k : zJ E y d mc ms X F n L (.int (x &&& z) :: st) ws cells slots) : zJ E y d mc ms X F pc L (.int z :: .int x :: st) ws cells slots := by
  subst hn
  intro p l e R s m args below meth c A H locs ls C hP hD hS hL
  exact lv_iand C.1 C.2.1 hd (k p l e R s m args below meth c A H locs ls C hP hD hS hL)
theorem zJ_ior {x z : Int32} (hd : decode y.2.1 pc = .ok (.ior, 1)) (hn : pc + 1 = n) (k : zJ E y d mc ms X F n L (.int (x ||| z) :: st) ws cells slots) : zJ E y d mc ms X F pc L (.int z :: .int x :: st) ws cells slots := by
  subst hn
  intro p l e R s m args below meth c A H locs ls C hP hD hS hL
  exact lv_ior C.1 C.2.1 hd (k p l e R s m args below meth c A H locs ls C hP hD hS hL)
theorem zJ_ixor {x z : Int32} (hd : decode y.2.1 pc = .ok (.ixor, 1)) (hn : pc + 1 = n) (k : zJ E y d mc ms X F n L (.int (x ^^^ z) :: st) ws cells slots) : zJ E y d mc ms X F pc L (.int z :: .int x :: st) ws cells slots := by
  subst hn
  intro p l e R s m args below meth c A H locs ls C hP hD hS hL
  exact lv_ixor C.1 C.2.1 hd (k p l e R s m args below meth c A H locs ls C hP hD hS hL)
theorem zJ_ishl {x z : Int32} (hd : decode y.2.1 pc = .ok (.ishl, 1)) (hn : pc + 1 = n) (k : zJ E y d mc ms X F n L (.int (zshl x z) :: st) ws cells slots) : zJ E y d mc ms X F pc L (.int z :: .int x :: st) ws cells slots := by
  subst hn
  intro p l e R s m args below meth c A H locs ls C hP hD hS hL
  exact lv_ishl C.1 C.2.1 hd (k p l e R s m args below meth c A H locs ls C hP hD hS hL)
theorem zJ_ishr {x z : Int32} (hd : decode y.2.1 pc = .ok (.ishr, 1)) (hn : pc + 1 = n) (k : zJ E y d mc ms X F n L (.int (zshr x z) :: st) ws cells slots) : zJ E y d mc ms X F pc L (.int z :: .int x :: st) ws cells slots := by
  subst hn
  intro p l e R s m args below meth c A H locs ls C hP hD hS hL
  exact lv_ishr C.1 C.2.1 hd (k p l e R s m args below meth c A H locs ls C hP hD hS hL)
theorem zJ_iushr {x z : Int32} (hd : decode y.2.1 pc = .ok (.iushr, 1)) (hn : pc + 1 = n) (k : zJ E y d mc ms X F n L (.int (zush x z) :: st) ws cells slots) : zJ E y d mc ms X F pc L (.int z :: .int x :: st) ws cells slots := by
  subst hn
  intro p l e R s m args below meth c A H locs ls C hP hD hS hL
  exact lv_iushr C.1 C.2.1 hd rfl (k p l e R s m args below meth c A H locs ls C hP hD hS hL)
theorem zJ_idiv {x z : Int32} (hd : decode y.2.1 pc = .ok (.idiv, 1)) (hn : pc + 1 = n) (hz : ¬ z = 0) (k : zJ E y d mc ms X F n L (.int (x / z) :: st) ws cells slots) : zJ E y d mc ms X F pc L (.int z :: .int x :: st) ws cells slots := by
  subst hn
  intro p l e R s m args below meth c A H locs ls C hP hD hS hL
  exact lv_idiv C.1 C.2.1 hd hz (k p l e R s m args below meth c A H locs ls C hP hD hS hL)
theorem zJ_irem {x z : Int32} (hd : decode y.2.1 pc = .ok (.irem, 1)) (hn : pc + 1 = n) (hz : ¬ z = 0) (k : zJ E y d mc ms X F n L (.int (zrem x z) :: st) ws cells slots) : zJ E y d mc ms X F pc L (.int z :: .int x :: st) ws cells slots := by
  subst hn
  intro p l e R s m args below meth c A H locs ls C hP hD hS hL
  exact lv_irem C.1 C.2.1 hd hz (k p l e R s m args below meth c A H locs ls C hP hD hS hL)
theorem zJ_dup {v : Value} (hd : decode y.2.1 pc = .ok (.dup, 1)) (hn : pc + 1 = n) (hv : v.category = 1) (k : zJ E y d mc ms X F n L (v :: v :: st) ws cells slots) : zJ E y d mc ms X F pc L (v :: st) ws cells slots := by
  subst hn
  intro p l e R s m args below meth c A H locs ls C hP hD hS hL
  exact lv_dup C.1 C.2.1 hd hv (k p l e R s m args below meth c A H locs ls C hP hD hS hL)
theorem zJ_pop {v : Value} (hd : decode y.2.1 pc = .ok (.pop, 1)) (hn : pc + 1 = n) (hv : v.category = 1) (k : zJ E y d mc ms X F n L st ws cells slots) : zJ E y d mc ms X F pc L (v :: st) ws cells slots := by
  subst hn
  intro p l e R s m args below meth c A H locs ls C hP hD hS hL
  exact lv_pop C.1 C.2.1 hd hv (k p l e R s m args below meth c A H locs ls C hP hD hS hL)
theorem zJ_dup_x1 {v w : Value} (hd : decode y.2.1 pc = .ok (.dup_x1, 1)) (hn : pc + 1 = n) (hv : v.category = 1) (hw : w.category = 1) (k : zJ E y d mc ms X F n L (v :: w :: v :: st) ws cells slots) : zJ E y d mc ms X F pc L (v :: w :: st) ws cells slots := by
  subst hn
  intro p l e R s m args below meth c A H locs ls C hP hD hS hL
  exact lv_dup_x1 C.1 C.2.1 hd hv hw (k p l e R s m args below meth c A H locs ls C hP hD hS hL)
theorem zJ_dup_x2 {v w u : Value} (hd : decode y.2.1 pc = .ok (.dup_x2, 1)) (hn : pc + 1 = n) (hv : v.category = 1) (hw : w.category = 1) (hu : u.category = 1) (k : zJ E y d mc ms X F n L (v :: w :: u :: v :: st) ws cells slots) : zJ E y d mc ms X F pc L (v :: w :: u :: st) ws cells slots := by
  subst hn
  intro p l e R s m args below meth c A H locs ls C hP hD hS hL
  exact lv_dup_x2 C.1 C.2.1 hd hv hw hu (k p l e R s m args below meth c A H locs ls C hP hD hS hL)
theorem zJ_dup2 {v w : Value} (hd : decode y.2.1 pc = .ok (.dup2, 1)) (hn : pc + 1 = n) (hv : v.category = 1) (hw : w.category = 1) (k : zJ E y d mc ms X F n L (v :: w :: v :: w :: st) ws cells slots) : zJ E y d mc ms X F pc L (v :: w :: st) ws cells slots := by
  subst hn
  intro p l e R s m args below meth c A H locs ls C hP hD hS hL
  exact lv_dup2_11 C.1 C.2.1 hd hv hw (k p l e R s m args below meth c A H locs ls C hP hD hS hL)
theorem zJ_if_eq {x : Int32} {off : Int} {t : Nat} (hd : decode y.2.1 pc = .ok (.ifCond .eq off, 3)) (ht : (pc : Int) + off = (t : Int)) (hn : pc + 3 = n) (kt : x = 0 → zJ E y d mc ms X F t L st ws cells slots) (kf : ¬ (x = 0) → zJ E y d mc ms X F n L st ws cells slots) : zJ E y d mc ms X F pc L (.int x :: st) ws cells slots := by
  subst hn
  intro p l e R s m args below meth c A H locs ls C hP hD hS hL
  exact lv_if_eq C.1 C.2.1 hd ht (fun h => kt h p l e R s m args below meth c A H locs ls C hP hD hS hL) (fun h => kf h p l e R s m args below meth c A H locs ls C hP hD hS hL)
theorem zJ_icmp_eq {x z : Int32} {off : Int} {t : Nat} (hd : decode y.2.1 pc = .ok (.if_icmp .eq off, 3)) (ht : (pc : Int) + off = (t : Int)) (hn : pc + 3 = n) (kt : x = z → zJ E y d mc ms X F t L st ws cells slots) (kf : ¬ (x = z) → zJ E y d mc ms X F n L st ws cells slots) : zJ E y d mc ms X F pc L (.int z :: .int x :: st) ws cells slots := by
  subst hn
  intro p l e R s m args below meth c A H locs ls C hP hD hS hL
  exact lv_icmp_eq C.1 C.2.1 hd ht (fun h => kt h p l e R s m args below meth c A H locs ls C hP hD hS hL) (fun h => kf h p l e R s m args below meth c A H locs ls C hP hD hS hL)
theorem zJ_if_ne {x : Int32} {off : Int} {t : Nat} (hd : decode y.2.1 pc = .ok (.ifCond .ne off, 3)) (ht : (pc : Int) + off = (t : Int)) (hn : pc + 3 = n) (kt : ¬ x = 0 → zJ E y d mc ms X F t L st ws cells slots) (kf : x = 0 → zJ E y d mc ms X F n L st ws cells slots) : zJ E y d mc ms X F pc L (.int x :: st) ws cells slots := by
  subst hn
  intro p l e R s m args below meth c A H locs ls C hP hD hS hL
  exact lv_if_ne C.1 C.2.1 hd ht (fun h => kt h p l e R s m args below meth c A H locs ls C hP hD hS hL) (fun h => kf h p l e R s m args below meth c A H locs ls C hP hD hS hL)
theorem zJ_icmp_ne {x z : Int32} {off : Int} {t : Nat} (hd : decode y.2.1 pc = .ok (.if_icmp .ne off, 3)) (ht : (pc : Int) + off = (t : Int)) (hn : pc + 3 = n) (kt : ¬ x = z → zJ E y d mc ms X F t L st ws cells slots) (kf : x = z → zJ E y d mc ms X F n L st ws cells slots) : zJ E y d mc ms X F pc L (.int z :: .int x :: st) ws cells slots := by
  subst hn
  intro p l e R s m args below meth c A H locs ls C hP hD hS hL
  exact lv_icmp_ne C.1 C.2.1 hd ht (fun h => kt h p l e R s m args below meth c A H locs ls C hP hD hS hL) (fun h => kf h p l e R s m args below meth c A H locs ls C hP hD hS hL)
theorem zJ_if_lt {x : Int32} {off : Int} {t : Nat} (hd : decode y.2.1 pc = .ok (.ifCond .lt off, 3)) (ht : (pc : Int) + off = (t : Int)) (hn : pc + 3 = n) (kt : x < 0 → zJ E y d mc ms X F t L st ws cells slots) (kf : ¬ (x < 0) → zJ E y d mc ms X F n L st ws cells slots) : zJ E y d mc ms X F pc L (.int x :: st) ws cells slots := by
  subst hn
  intro p l e R s m args below meth c A H locs ls C hP hD hS hL
  exact lv_if_lt C.1 C.2.1 hd ht (fun h => kt h p l e R s m args below meth c A H locs ls C hP hD hS hL) (fun h => kf h p l e R s m args below meth c A H locs ls C hP hD hS hL)
theorem zJ_icmp_lt {x z : Int32} {off : Int} {t : Nat} (hd : decode y.2.1 pc = .ok (.if_icmp .lt off, 3)) (ht : (pc : Int) + off = (t : Int)) (hn : pc + 3 = n) (kt : x < z → zJ E y d mc ms X F t L st ws cells slots) (kf : ¬ (x < z) → zJ E y d mc ms X F n L st ws cells slots) : zJ E y d mc ms X F pc L (.int z :: .int x :: st) ws cells slots := by
  subst hn
  intro p l e R s m args below meth c A H locs ls C hP hD hS hL
  exact lv_icmp_lt C.1 C.2.1 hd ht (fun h => kt h p l e R s m args below meth c A H locs ls C hP hD hS hL) (fun h => kf h p l e R s m args below meth c A H locs ls C hP hD hS hL)
theorem zJ_if_ge {x : Int32} {off : Int} {t : Nat} (hd : decode y.2.1 pc = .ok (.ifCond .ge off, 3)) (ht : (pc : Int) + off = (t : Int)) (hn : pc + 3 = n) (kt : 0 ≤ x → zJ E y d mc ms X F t L st ws cells slots) (kf : ¬ (0 ≤ x) → zJ E y d mc ms X F n L st ws cells slots) : zJ E y d mc ms X F pc L (.int x :: st) ws cells slots := by
  subst hn
  intro p l e R s m args below meth c A H locs ls C hP hD hS hL
  exact lv_if_ge C.1 C.2.1 hd ht (fun h => kt h p l e R s m args below meth c A H locs ls C hP hD hS hL) (fun h => kf h p l e R s m args below meth c A H locs ls C hP hD hS hL)
theorem zJ_icmp_ge {x z : Int32} {off : Int} {t : Nat} (hd : decode y.2.1 pc = .ok (.if_icmp .ge off, 3)) (ht : (pc : Int) + off = (t : Int)) (hn : pc + 3 = n) (kt : z ≤ x → zJ E y d mc ms X F t L st ws cells slots) (kf : ¬ (z ≤ x) → zJ E y d mc ms X F n L st ws cells slots) : zJ E y d mc ms X F pc L (.int z :: .int x :: st) ws cells slots := by
  subst hn
  intro p l e R s m args below meth c A H locs ls C hP hD hS hL
  exact lv_icmp_ge C.1 C.2.1 hd ht (fun h => kt h p l e R s m args below meth c A H locs ls C hP hD hS hL) (fun h => kf h p l e R s m args below meth c A H locs ls C hP hD hS hL)
theorem zJ_if_gt {x : Int32} {off : Int} {t : Nat} (hd : decode y.2.1 pc = .ok (.ifCond .gt off, 3)) (ht : (pc : Int) + off = (t : Int)) (hn : pc + 3 = n) (kt : 0 < x → zJ E y d mc ms X F t L st ws cells slots) (kf : ¬ (0 < x) → zJ E y d mc ms X F n L st ws cells slots) : zJ E y d mc ms X F pc L (.int x :: st) ws cells slots := by
  subst hn
  intro p l e R s m args below meth c A H locs ls C hP hD hS hL
  exact lv_if_gt C.1 C.2.1 hd ht (fun h => kt h p l e R s m args below meth c A H locs ls C hP hD hS hL) (fun h => kf h p l e R s m args below meth c A H locs ls C hP hD hS hL)
theorem zJ_icmp_gt {x z : Int32} {off : Int} {t : Nat} (hd : decode y.2.1 pc = .ok (.if_icmp .gt off, 3)) (ht : (pc : Int) + off = (t : Int)) (hn : pc + 3 = n) (kt : z < x → zJ E y d mc ms X F t L st ws cells slots) (kf : ¬ (z < x) → zJ E y d mc ms X F n L st ws cells slots) : zJ E y d mc ms X F pc L (.int z :: .int x :: st) ws cells slots := by
  subst hn
  intro p l e R s m args below meth c A H locs ls C hP hD hS hL
  exact lv_icmp_gt C.1 C.2.1 hd ht (fun h => kt h p l e R s m args below meth c A H locs ls C hP hD hS hL) (fun h => kf h p l e R s m args below meth c A H locs ls C hP hD hS hL)
theorem zJ_if_le {x : Int32} {off : Int} {t : Nat} (hd : decode y.2.1 pc = .ok (.ifCond .le off, 3)) (ht : (pc : Int) + off = (t : Int)) (hn : pc + 3 = n) (kt : x ≤ 0 → zJ E y d mc ms X F t L st ws cells slots) (kf : ¬ (x ≤ 0) → zJ E y d mc ms X F n L st ws cells slots) : zJ E y d mc ms X F pc L (.int x :: st) ws cells slots := by
  subst hn
  intro p l e R s m args below meth c A H locs ls C hP hD hS hL
  exact lv_if_le C.1 C.2.1 hd ht (fun h => kt h p l e R s m args below meth c A H locs ls C hP hD hS hL) (fun h => kf h p l e R s m args below meth c A H locs ls C hP hD hS hL)
theorem zJ_icmp_le {x z : Int32} {off : Int} {t : Nat} (hd : decode y.2.1 pc = .ok (.if_icmp .le off, 3)) (ht : (pc : Int) + off = (t : Int)) (hn : pc + 3 = n) (kt : x ≤ z → zJ E y d mc ms X F t L st ws cells slots) (kf : ¬ (x ≤ z) → zJ E y d mc ms X F n L st ws cells slots) : zJ E y d mc ms X F pc L (.int z :: .int x :: st) ws cells slots := by
  subst hn
  intro p l e R s m args below meth c A H locs ls C hP hD hS hL
  exact lv_icmp_le C.1 C.2.1 hd ht (fun h => kt h p l e R s m args below meth c A H locs ls C hP hD hS hL) (fun h => kf h p l e R s m args below meth c A H locs ls C hP hD hS hL)
theorem zJ_goto {off : Int} {t : Nat} (hd : decode y.2.1 pc = .ok (.goto off, 3)) (ht : (pc : Int) + off = (t : Int)) (k : zJ E y d mc ms X F t L st ws cells slots) : zJ E y d mc ms X F pc L st ws cells slots := by
  intro p l e R s m args below meth c A H locs ls C hP hD hS hL
  exact lv_goto C.1 C.2.1 hd ht (k p l e R s m args below meth c A H locs ls C hP hD hS hL)
theorem zJ_ifnull {x : Nat} {off : Int} (hd : decode y.2.1 pc = .ok (.ifnull off, 3)) (hn : pc + 3 = n) (k : zJ E y d mc ms X F n L st ws cells slots) : zJ E y d mc ms X F pc L (.ref x :: st) ws cells slots := by
  subst hn
  intro p l e R s m args below meth c A H locs ls C hP hD hS hL
  exact lv_ifnull C.1 C.2.1 hd (k p l e R s m args below meth c A H locs ls C hP hD hS hL)
theorem zJ_ifnullN {off : Int} {t : Nat} (hd : decode y.2.1 pc = .ok (.ifnull off, 3)) (ht : (pc : Int) + off = (t : Int)) (k : zJ E y d mc ms X F t L st ws cells slots) : zJ E y d mc ms X F pc L (.null :: st) ws cells slots := by
  intro p l e R s m args below meth c A H locs ls C hP hD hS hL
  exact lv_ifnullN C.1 C.2.1 hd ht (k p l e R s m args below meth c A H locs ls C hP hD hS hL)
theorem zJ_ifnonnull {x : Nat} {off : Int} {t : Nat} (hd : decode y.2.1 pc = .ok (.ifnonnull off, 3)) (ht : (pc : Int) + off = (t : Int)) (k : zJ E y d mc ms X F t L st ws cells slots) : zJ E y d mc ms X F pc L (.ref x :: st) ws cells slots := by
  intro p l e R s m args below meth c A H locs ls C hP hD hS hL
  exact lv_ifnonnull C.1 C.2.1 hd ht (k p l e R s m args below meth c A H locs ls C hP hD hS hL)
theorem zJ_ifnonnullN {off : Int} (hd : decode y.2.1 pc = .ok (.ifnonnull off, 3)) (hn : pc + 3 = n) (k : zJ E y d mc ms X F n L st ws cells slots) : zJ E y d mc ms X F pc L (.null :: st) ws cells slots := by
  subst hn
  intro p l e R s m args below meth c A H locs ls C hP hD hS hL
  exact lv_ifnonnullN C.1 C.2.1 hd (k p l e R s m args below meth c A H locs ls C hP hD hS hL)
theorem zJ_null (hd : decode y.2.1 pc = .ok (.aconst_null, 1)) (hn : pc + 1 = n) (k : zJ E y d mc ms X F n L (.null :: st) ws cells slots) : zJ E y d mc ms X F pc L st ws cells slots := by
  subst hn
  intro p l e R s m args below meth c A H locs ls C hP hD hS hL
  exact lv_null C.1 C.2.1 hd (k p l e R s m args below meth c A H locs ls C hP hD hS hL)
theorem zJ_tableOut {dflt lo hi : Int} {offs : Array Int} {len : Nat} {x : Int32} {t : Nat} (hd : decode y.2.1 pc = .ok (.tableswitch dflt lo hi offs, len)) (h : x.toInt < lo ∨ hi < x.toInt) (ht : (pc : Int) + dflt = (t : Int)) (k : zJ E y d mc ms X F t L st ws cells slots) : zJ E y d mc ms X F pc L (.int x :: st) ws cells slots := by
  intro p l e R s m args below meth c A H locs ls C hP hD hS hL
  exact lv_tableOut C.1 C.2.1 hd h ht (k p l e R s m args below meth c A H locs ls C hP hD hS hL)
theorem zJ_tableIn {dflt lo hi : Int} {offs : Array Int} {len : Nat} {x : Int32} {off : Int} {t : Nat} (hd : decode y.2.1 pc = .ok (.tableswitch dflt lo hi offs, len)) (h1 : ¬ x.toInt < lo) (h2 : ¬ hi < x.toInt) (ho : offs[(x.toInt - lo).toNat]? = some off) (ht : (pc : Int) + off = (t : Int)) (k : zJ E y d mc ms X F t L st ws cells slots) : zJ E y d mc ms X F pc L (.int x :: st) ws cells slots := by
  intro p l e R s m args below meth c A H locs ls C hP hD hS hL
  exact lv_tableIn C.1 C.2.1 hd h1 h2 ho ht (k p l e R s m args below meth c A H locs ls C hP hD hS hL)
theorem zJ_lookup {dflt : Int} {ps : Array (Int × Int)} {len : Nat} {x : Int32} {off : Int} {t : Nat} (hd : decode y.2.1 pc = .ok (.lookupswitch dflt ps, len)) (hp : (ps.toList.zip (ps.toList.drop 1)).all (fun (a, next) => a.1 < next.1) = true) (ho : Op.lookupswitch.offset ps.toList dflt x.toInt = off) (ht : (pc : Int) + off = (t : Int)) (k : zJ E y d mc ms X F t L st ws cells slots) : zJ E y d mc ms X F pc L (.int x :: st) ws cells slots := by
  intro p l e R s m args below meth c A H locs ls C hP hD hS hL
  exact lv_lookup C.1 C.2.1 hd hp ho ht (k p l e R s m args below meth c A H locs ls C hP hD hS hL)
end zRules2
