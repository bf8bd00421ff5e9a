/-! both ways make the list wy -/
def w3 (M : zMem) (t : Nat) (o rS rE : Nat → Int32) : zMem := fun k => if k = t then o else if k = t + 1 then rS else if k = t + 2 then rE else M k
theorem w3_0 (M : zMem) (t : Nat) (o rS rE : Nat → Int32) : w3 M t o rS rE t = o := if_pos rfl
theorem w3_1 (M : zMem) (t : Nat) (o rS rE : Nat → Int32) : w3 M t o rS rE (t + 1) = rS := by unfold w3; rw [if_neg (by omega), if_pos rfl]
theorem w3_2 (M : zMem) (t : Nat) (o rS rE : Nat → Int32) : w3 M t o rS rE (t + 2) = rE := by unfold w3; rw [if_neg (by omega), if_neg (by omega), if_pos rfl]
theorem w3_ne (M : zMem) (t : Nat) (o rS rE : Nat → Int32) {k : Nat} (h0 : k ≠ t) (h1 : k ≠ t + 1) (h2 : k ≠ t + 2) : w3 M t o rS rE k = M k := by unfold w3; rw [if_neg h0, if_neg h1, if_neg h2]
theorem w3_self (M : zMem) (t : Nat) : w3 M t (M t) (M (t + 1)) (M (t + 2)) = M := by
  funext k
  unfold w3
  by_cases h0 : k = t
  · rw [if_pos h0, h0]
  · rw [if_neg h0]
    by_cases h1 : k = t + 1
    · rw [if_pos h1, h1]
    · rw [if_neg h1]
      by_cases h2 : k = t + 2
      · rw [if_pos h2, h2]
      · rw [if_neg h2]
theorem zu_w3_0 (M : zMem) (t : Nat) (o rS rE : Nat → Int32) (j : Nat) (v : Int32) : zu (w3 M t o rS rE) t j v = w3 M t (upd o j v) rS rE := by
  funext k
  unfold zu
  by_cases h0 : k = t
  · rw [if_pos h0, w3_0, h0, w3_0]
  · rw [if_neg h0]; unfold w3; rw [if_neg h0, if_neg h0]
theorem zu_w3_1 (M : zMem) (t : Nat) (o rS rE : Nat → Int32) (j : Nat) (v : Int32) : zu (w3 M t o rS rE) (t + 1) j v = w3 M t o (upd rS j v) rE := by
  funext k
  unfold zu
  by_cases h0 : k = t + 1
  · rw [if_pos h0, w3_1, h0, w3_1]
  · rw [if_neg h0]; unfold w3; rw [if_neg h0, if_neg h0]
theorem zu_w3_2 (M : zMem) (t : Nat) (o rS rE : Nat → Int32) (j : Nat) (v : Int32) : zu (w3 M t o rS rE) (t + 2) j v = w3 M t o rS (upd rE j v) := by
  funext k
  unfold zu
  by_cases h0 : k = t + 2
  · rw [if_pos h0, w3_2, h0, w3_2]
  · rw [if_neg h0]; unfold w3; rw [if_neg h0, if_neg h0]
/-- one step of the class's way -/
theorem go_step {N : Nat} (hN : 6 ≤ N) (k17 : Int32 → Int32 → zMem → Option (Int32 × zMem)) (M : zMem) (t e s n st : Nat) (x3 : Int32) (o rS rE : Nat → Int32) (h2 : 2 ≤ n) (h64 : s + n ≤ 64) (he : e < 64) (hst : st < 6) (h0 : o 2 = nI st) (h3 : o 3 = nI s) (h4 : o 4 = nI (s + n)) :
    f_Wy_go_b48 N k17 t (nI e) x3 (w3 M t o rS rE) = if e < s + gpb n then k17 (nI e) x3 (w3 M t (upd (upd (upd o 3 (nI s)) 4 (nI (s + gpb n))) 2 (nI (st + 1))) (upd rS st (nI (s + gpb n))) (upd rE st (nI (s + n)))) else k17 (nI e) x3 (w3 M t (upd (upd (upd o 3 (nI (s + gpb n))) 4 (nI (s + n))) 2 (nI (st + 1))) (upd rS st (nI s)) (upd rE st (nI (s + gpb n)))) := by
  have hk := gpb_lt n h2
  have hk1 := gpb_pos n
  have z6 : zin (nI st) 6 = true := zin_t hst (by decide)
  have cl : (nI st).toNatClampNeg = st := nI_clamp (by omega)
  rw [f_Wy_go_b48, w3_0, h3, h4, nI_subN (by omega), show s + n - s = n by omega, f_gpbB hN _ n h2 (by omega)]
  simp only [Option.bind_some, zlt, nI_add]
  by_cases c : e < s + gpb n
  · rw [if_neg (by rw [nI_leI (by omega) (by omega)]; omega), if_pos c]
    simp only [f_Wy_go_b78, f_Wy_go_b102, f_Wy_go_b125, f_Wy_go_b141, f_Wy_go_b159, zlt, if_neg (show ¬ (1 : Int32) = 0 by decide), w3_0, h0, if_pos z6, cl, zu_w3_0, zu_w3_1, zu_w3_2, h3, h4]
    rw [show upd (upd o 3 (nI s)) 4 (nI (s + gpb n)) 2 = nI st by rw [upd_ne _ _ (by decide), upd_ne _ _ (by decide)]; exact h0, nI_1]
  · rw [if_pos (by rw [nI_leI (by omega) (by omega)]; omega), if_neg c]
    simp only [f_Wy_go_b78, f_Wy_go_b102, f_Wy_go_b125, f_Wy_go_b141, f_Wy_go_b159, zlt, if_true, w3_0, h0, if_pos z6, cl, zu_w3_0, zu_w3_1, zu_w3_2, h3, h4]
    rw [show upd o 3 (nI (s + gpb n)) 4 = nI (s + n) by rw [upd_ne _ _ (by decide)]; exact h4]
    rw [show upd (upd o 3 (nI (s + gpb n))) 4 (nI (s + n)) 2 = nI st by rw [upd_ne _ _ (by decide), upd_ne _ _ (by decide)]; exact h0, nI_1]
theorem go_loop {N : Nat} (hN : 7 ≤ N) (M : zMem) (t e : Nat) (al : Bool) (he : e < 64) : ∀ f s n st fuel o rS rE, n ≤ 2 ^ f → st + f = 6 → f < fuel → s ≤ e → e < s + n → s + n ≤ 64 → o 2 = nI st → o 3 = nI s → o 4 = nI (s + n) →
    ∃ o' rS' rE', f_Wy_go_l17 N t fuel (nI e) (if al = true then 1 else 0) (w3 M t o rS rE) = some (0, w3 M t o' rS' rE') ∧ o' 2 = nI (st + (wy e (!al) f s n).1.length) ∧ o' 3 = nI (wy e (!al) f s n).2.1 ∧ o' 4 = nI ((wy e (!al) f s n).2.1 + (wy e (!al) f s n).2.2) ∧
      (∀ i, i < st → rS' i = rS i ∧ rE' i = rE i) ∧ ∀ i q, (wy e (!al) f s n).1[i]? = some q → rS' (st + i) = nI q.2.1 ∧ rE' (st + i) = nI (q.2.1 + q.2.2) := by
  intro f
  induction f with
  | zero =>
    intro s n st fuel o rS rE hn hst hf h1 h2 h64 h0 h3 h4
    obtain ⟨fuel, rfl⟩ : ∃ m, fuel = m + 1 := ⟨fuel - 1, by omega⟩
    refine ⟨o, rS, rE, ?_, h0, h3, h4, fun i hi => ⟨rfl, rfl⟩, fun i q hq => by rw [wy] at hq; cases hq⟩
    rw [f_Wy_go_l17, w3_0, h0, if_pos (show (6 : Int32) ≤ nI st by rw [show st = 6 by omega]; decide)]
  | succ f ih =>
    intro s n st fuel o rS rE hn hst hf h1 h2 h64 h0 h3 h4
    obtain ⟨fuel, rfl⟩ : ∃ m, fuel = m + 1 := ⟨fuel - 1, by omega⟩
    have hm1 : nI (s + n) - (1 : Int32) = nI (s + n - 1) := by rw [lN1, nI_subN (by omega)]
    rw [f_Wy_go_l17, w3_0, h0, if_neg (show ¬ (6 : Int32) ≤ nI st by rw [lN6, nI_leI (by decide) (by omega)]; omega), h3, h4, hm1]
    have stop : (n ≤ 1 ∨ ((!al) = true ∧ s + n ≤ e + 1)) → ∃ o' rS' rE', some ((0 : Int32), w3 M t o rS rE) = some (0, w3 M t o' rS' rE') ∧ o' 2 = nI (st + (wy e (!al) (f + 1) s n).1.length) ∧ o' 3 = nI (wy e (!al) (f + 1) s n).2.1 ∧ o' 4 = nI ((wy e (!al) (f + 1) s n).2.1 + (wy e (!al) (f + 1) s n).2.2) ∧
      (∀ i, i < st → rS' i = rS i ∧ rE' i = rE i) ∧ ∀ i q, (wy e (!al) (f + 1) s n).1[i]? = some q → rS' (st + i) = nI q.2.1 ∧ rE' (st + i) = nI (q.2.1 + q.2.2) := by
      intro hc
      rw [wy, if_pos hc]
      exact ⟨o, rS, rE, rfl, h0, h3, h4, fun i hi => ⟨rfl, rfl⟩, fun i q hq => by cases hq⟩
    have move : ¬ (n ≤ 1 ∨ ((!al) = true ∧ s + n ≤ e + 1)) → ∃ o' rS' rE', f_Wy_go_b48 N (f_Wy_go_l17 N t fuel) t (nI e) (if al = true then 1 else 0) (w3 M t o rS rE) = some (0, w3 M t o' rS' rE') ∧ o' 2 = nI (st + (wy e (!al) (f + 1) s n).1.length) ∧ o' 3 = nI (wy e (!al) (f + 1) s n).2.1 ∧ o' 4 = nI ((wy e (!al) (f + 1) s n).2.1 + (wy e (!al) (f + 1) s n).2.2) ∧
      (∀ i, i < st → rS' i = rS i ∧ rE' i = rE i) ∧ ∀ i q, (wy e (!al) (f + 1) s n).1[i]? = some q → rS' (st + i) = nI q.2.1 ∧ rE' (st + i) = nI (q.2.1 + q.2.2) := by
      intro hc
      have hn2 : 2 ≤ n := by
        rcases Nat.lt_or_ge n 2 with g | g
        · exact absurd (Or.inl (by omega)) hc
        · exact g
      have hk := gpb_lt n hn2
      have hk1 := gpb_pos n
      have hh := gpb_half hn2 hn
      have hp : (2 : Nat) ^ (f + 1) = 2 ^ f * 2 := Nat.pow_succ ..
      rw [go_step (by omega) _ M t e s n st _ o rS rE hn2 h64 he (by omega) h0 h3 h4, wy, if_neg hc]
      by_cases c : e < s + gpb n
      · rw [if_pos c, if_pos c]
        obtain ⟨o', rS', rE', q1, q2, q3, q4, q5, q6⟩ := ih s (gpb n) (st + 1) fuel (upd (upd (upd o 3 (nI s)) 4 (nI (s + gpb n))) 2 (nI (st + 1))) (upd rS st (nI (s + gpb n))) (upd rE st (nI (s + n))) hh (by omega) (by omega) h1 c (by omega) (upd_eq _ _ _) (by rw [upd_ne _ _ (by decide), upd_ne _ _ (by decide), upd_eq]) (by rw [upd_ne _ _ (by decide), upd_eq])
        refine ⟨o', rS', rE', q1, ?_, q3, q4, fun i hi => ?_, fun i q hq => ?_⟩
        · rw [q2, List.length_cons]; congr 1; omega
        · rw [(q5 i (by omega)).1, (q5 i (by omega)).2, upd_ne _ _ (by omega), upd_ne _ _ (by omega)]; exact ⟨rfl, rfl⟩
        · cases i with
          | zero =>
            simp only [List.getElem?_cons_zero, Option.some.injEq] at hq
            subst hq
            rw [Nat.add_zero, (q5 st (by omega)).1, (q5 st (by omega)).2, upd_eq, upd_eq]
            exact ⟨rfl, by show nI (s + n) = nI (s + gpb n + (n - gpb n)); congr 1; omega⟩
          | succ i =>
            rw [List.getElem?_cons_succ] at hq
            have := q6 i q hq
            rw [show st + (i + 1) = st + 1 + i by omega]
            exact this
      · rw [if_neg c, if_neg c]
        obtain ⟨o', rS', rE', q1, q2, q3, q4, q5, q6⟩ := ih (s + gpb n) (n - gpb n) (st + 1) fuel (upd (upd (upd o 3 (nI (s + gpb n))) 4 (nI (s + n))) 2 (nI (st + 1))) (upd rS st (nI s)) (upd rE st (nI (s + gpb n))) (by omega) (by omega) (by omega) (by omega) (by omega) (by omega) (upd_eq _ _ _) (by rw [upd_ne _ _ (by decide), upd_ne _ _ (by decide), upd_eq]) (by rw [upd_ne _ _ (by decide), upd_eq]; congr 1; omega)
        refine ⟨o', rS', rE', q1, ?_, q3, q4, fun i hi => ?_, fun i q hq => ?_⟩
        · rw [q2, List.length_cons]; congr 1; omega
        · rw [(q5 i (by omega)).1, (q5 i (by omega)).2, upd_ne _ _ (by omega), upd_ne _ _ (by omega)]; exact ⟨rfl, rfl⟩
        · cases i with
          | zero =>
            simp only [List.getElem?_cons_zero, Option.some.injEq] at hq
            subst hq
            rw [Nat.add_zero, (q5 st (by omega)).1, (q5 st (by omega)).2, upd_eq, upd_eq]
            exact ⟨rfl, rfl⟩
          | succ i =>
            rw [List.getElem?_cons_succ] at hq
            have := q6 i q hq
            rw [show st + (i + 1) = st + 1 + i by omega]
            exact this
    by_cases c1 : e < s + n - 1
    · rw [if_pos (by rw [nI_ltI (by omega) (by omega)]; exact c1)]
      exact move (by rintro (h | ⟨-, h⟩) <;> omega)
    · rw [if_neg (by rw [nI_ltI (by omega) (by omega)]; exact c1)]
      cases al with
      | false =>
        rw [if_pos (by decide)]
        exact stop (Or.inr ⟨rfl, by omega⟩)
      | true =>
        rw [if_neg (by decide)]
        by_cases c2 : e ≤ s
        · rw [if_pos (by rw [nI_leI (by omega) (by omega)]; exact c2)]
          exact stop (Or.inl (by omega))
        · rw [if_neg (by rw [nI_leI (by omega) (by omega)]; exact c2)]
          exact move (by rintro (h | ⟨h, -⟩) <;> first | omega | cases h)
theorem f_go {N : Nat} (hN : 7 ≤ N) (M : zMem) (t e n : Nat) (al : Bool) (ht : zis_Wy t = true) (he : e ≤ n) (hn : n < 40) : ∃ o rS rE, f_Wy_go N t (nI e) (nI n) (if al = true then 1 else 0) M = some (0, w3 M t o rS rE) ∧ o 2 = nI (wy e (!al) 6 0 (n + 1)).1.length ∧ o 3 = nI (wy e (!al) 6 0 (n + 1)).2.1 ∧ o 4 = nI ((wy e (!al) 6 0 (n + 1)).2.1 + (wy e (!al) 6 0 (n + 1)).2.2) ∧ ∀ i q, (wy e (!al) 6 0 (n + 1)).1[i]? = some q → rS i = nI q.2.1 ∧ rE i = nI (q.2.1 + q.2.2) := by
  have e6 : (2 : Nat) ^ 6 = 64 := rfl
  obtain ⟨o, rS, rE, q1, q2, q3, q4, q5, q6⟩ := go_loop hN M t e al (by omega) 6 0 (n + 1) 0 N (upd (upd (upd (M t) 3 0) 4 (nI (n + 1))) 2 0) (M (t + 1)) (M (t + 2)) (by omega) (by omega) (by omega) (by omega) (by omega) (by omega) (upd_eq _ _ _) (by rw [upd_ne _ _ (by decide), upd_ne _ _ (by decide), upd_eq]; rfl) (by rw [upd_ne _ _ (by decide), upd_eq, Nat.zero_add])
  refine ⟨o, rS, rE, ?_, by rw [q2, Nat.zero_add], q3, q4, fun i q hq => by have := q6 i q hq; rwa [Nat.zero_add] at this⟩
  rw [f_Wy_go, if_pos ht]
  simp only [zlt, nI_1]
  rw [← q1]
  congr 1
  rw [← w3_self (zu (zu (zu M t 3 0) t 4 (nI (n + 1))) t 2 0) t]
  funext k
  unfold w3
  by_cases h0 : k = t
  · rw [if_pos h0, if_pos h0]
    rw [zu_eq, zu_eq, zu_eq]
  · rw [if_neg h0, if_neg h0, zu_ne _ _ _ (show t + 1 ≠ t by omega), zu_ne _ _ _ (show t + 1 ≠ t by omega), zu_ne _ _ _ (show t + 1 ≠ t by omega), zu_ne _ _ _ (show t + 2 ≠ t by omega), zu_ne _ _ _ (show t + 2 ≠ t by omega), zu_ne _ _ _ (show t + 2 ≠ t by omega), zu_ne _ _ _ h0, zu_ne _ _ _ h0, zu_ne _ _ _ h0]
