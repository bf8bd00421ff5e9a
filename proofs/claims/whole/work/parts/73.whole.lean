/-! whole_start out of the mathematics of the law's loop -/
def zShift (w : Int32) : Int32 := ((32 : Int32) - (if (4 : Int32) < (if w < (31 : Int32) then w else (31 : Int32)) then (if w < (31 : Int32) then w else (31 : Int32)) else (4 : Int32)))
def zLawOk : Prop := ∀ (Ls : Nat) (xs : Nat → Int32), Ls ≤ 3073 → ∃ (N : Nat) (z : Int32 × zMem), f_La_law_l28 Ls xs N N 1 (zM0 (zShift (zc0 Ls xs)) (zclampM (zc0 Ls xs))) = some z ∧ z.1 = 1
theorem zXr_of {args : Array Value} {s : State} (hts : ∀ w ∈ lw_tbl, w.before args s = true) : zXr s := by
  refine ⟨va_AO.of (hts _ (zmN 191 (by decide +kernel))), fun w hw hn => ?_⟩
  have h1 := hts w hw
  unfold zisN at hn
  split at hn
  · exact va_Nw.of rfl h1
  · exact va_Nw.of rfl h1
  · cases hn
theorem zKn {args : Array Value} {s : State} (hts : ∀ w ∈ lw_tbl, w.before args s = true) : ∃ (D : va_G) (tt : ClassId × ClassId × ClassId), va_K D zCl (zEn D tt).2.2.2 s := by
  have hws : ∀ w ∈ zWS, w.before args s = true := fun w h => hts w (List.mem_filter.mp h).1
  let D0 : va_G := (fun _ => 0, fun _ _ => 0)
  let t0 : ClassId × ClassId × ClassId := (0, 0, 0)
  obtain ⟨c0, i0, k0⟩ := u_known hws (uw_ED D0 t0) (hws _ (nwi_ED D0 t0))
  obtain ⟨c1, i1, k1⟩ := u_known hws (uw_Dg D0 t0) (hws _ (nwi_Dg D0 t0))
  obtain ⟨c2, i2, k2⟩ := u_known hws (uw_NM D0 t0) (hws _ (nwi_NM D0 t0))
  obtain ⟨c3, i3, k3⟩ := u_known hws (uw_St D0 t0) (hws _ (nwi_St D0 t0))
  obtain ⟨c4, i4, k4⟩ := u_known hws (uw_Pl D0 t0) (hws _ (nwi_Pl D0 t0))
  obtain ⟨c5, i5, k5⟩ := u_known hws (uw_Hi D0 t0) (hws _ (nwi_Hi D0 t0))
  obtain ⟨c6, i6, k6⟩ := u_known hws (uw_Wy D0 t0) (hws _ (nwi_Wy D0 t0))
  obtain ⟨c7, i7, k7⟩ := u_known hws (uw_Bu D0 t0) (hws _ (nwi_Bu D0 t0))
  obtain ⟨c8, i8, k8⟩ := u_known hws (uw_LC D0 t0) (hws _ (nwi_LC D0 t0))
  obtain ⟨c9, i9, k9⟩ := u_known hws (uw_HC D0 t0) (hws _ (nwi_HC D0 t0))
  obtain ⟨c10, i10, k10⟩ := u_known hws (uw_Mo D0 t0) (hws _ (nwi_Mo D0 t0))
  obtain ⟨cI, kI, compI, a1, a2, a3⟩ := Cond.arrayClass_spec (hws _ (acl_0 D0 t0))
  obtain ⟨cZ, kZ, compZ, b1, b2, b3⟩ := Cond.arrayClass_spec (hws _ (acl_1 D0 t0))
  obtain ⟨comp, cB, kB, e1, e2, e3, e4, e5⟩ := Cond.arrayOver_spec (zXr_of hts).1
  refine ⟨(fun c => ([c0, c1, c2, c3, c4, c5, c6, c7, c8, c9, c10] : List Nat).getD c 0, fun c => ([i0, i1, i2, i3, i4, i5, i6, i7, i8, i9, i10] : List (Nat → Nat)).getD c (fun _ => 0)), (cI, cZ, cB), ⟨fun c q hq => ?_, fun k q hk => ?_⟩⟩
  · match c, hq with
    | 0, hq =>
      cases hq
      exact k0
    | 1, hq =>
      cases hq
      exact k1
    | 2, hq =>
      cases hq
      exact k2
    | 3, hq =>
      cases hq
      exact k3
    | 4, hq =>
      cases hq
      exact k4
    | 5, hq =>
      cases hq
      exact k5
    | 6, hq =>
      cases hq
      exact k6
    | 7, hq =>
      cases hq
      exact k7
    | 8, hq =>
      cases hq
      exact k8
    | 9, hq =>
      cases hq
      exact k9
    | 10, hq =>
      cases hq
      exact k10
    | c + 11, hq => simp [zCl] at hq
  · match k, hk with
    | 0, hk =>
      cases hk
      exact ⟨fun n z => ⟨fun k h => (by cases h), kI, a2, compI, a3⟩, a1⟩
    | 1, hk =>
      cases hk
      exact ⟨fun n z => ⟨fun k h => (by cases h), kZ, b2, compZ, b3⟩, b1⟩
    | 2, hk =>
      cases hk
      exact ⟨fun n z => ⟨fun k h => (by cases h), kB, e3, comp, e4⟩, kB, comp, e3, e4, e1, e5⟩
    | k + 3, hk => simp at hk
theorem whole_start_open (hlaw : zLawOk) {p : Program} {e : Env} {s : State} {m : MethodId} {below : List Frame} {meth : Method} {c : Code} (l : Launch) {b L : Nat} {xs : Nat → Int32} (hL : L ≤ 3073) (C0 : lw_At p s m meth c b L xs) : W p l e room_1 s m #[Value.ref b] below meth c s.heap [] 0 0 (lw_Z below #[Value.ref b] s) (entryFrame m ([Value.ref b] : List Value).toArray 4) := by
  obtain ⟨hx, hb, hr, hml, hown, hts, hX, hbl, hlocks, hgv⟩ := C0
  obtain ⟨D, tt, hK⟩ := zKn hts
  obtain ⟨N, z, hz, hz1⟩ := hlaw L xs hL
  have hm : ∀ a : Nat → Nat, zJ (zEn D tt) mz_La_law 7 600000 7302250 (zX b L xs) zLw 28 [some (.ref b), some (.ref (a 0)), some (.ref (a 45)), some (.int 1)] [] (zw (zEn D tt).2.2.2 a (zM0 (zShift (zc0 L xs)) (zclampM (zc0 L xs))) 0 zshp) 600000 7302250 := fun a => t_La_law_l28 hz1 N 1 _ hz
  have J := law_pre (D := D) (tt := tt) (b := b) hL hm
  rw [lg_entry_eq]
  have hl := zLoc.entry [.ref b] (n := 4) (by intro v hv; simp at hv; rcases hv with rfl; rfl) (Nat.le_of_ble_eq_true rfl)
  exact J p l e room_1 s m #[Value.ref b] below meth c (fun q => s.heap.size ≤ q) s.heap [] _ ⟨hx, hb, hml, hr, hlocks, fun w h => hts w (List.mem_filter.mp h).1, hown, fun q h => h, hK, by decide, by decide, by decide, by decide, fun h => absurd h (by decide), zXr_of hts, rfl, rfl, hX, hbl, by show ¬ s.heap.size ≤ b; omega, fun q h => h⟩ (fun k q hk => by simp at hk) ⟨fun i j x y hi => by simp at hi, fun k q hk => by simp at hk⟩ va_S.rf hl
