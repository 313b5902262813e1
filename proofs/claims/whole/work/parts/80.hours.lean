/-! hours -/
/-- what is left behind an hour -/
def lft (M : Mk) (t : Nat) : Nat := if M.rest ≠ 0 ∧ M.sold (M.rest - 1) t = true then 0 else M.D t
def Dh (s : St) (m : Nat) (D : Nat → Nat) : Nat → Nat → Nat
  | 0 => D
  | h + 1 => lft (mm s m (Dh s m D h))
section HOURS
variable {v c u n m l p q : Nat} {w w' : cm_W} {s s' : St} {M : Mk} {D : Nat → Nat}
theorem Dh_le (h t : Nat) : Dh s m D (h + 1) t ≤ Dh s m D h t := by
  show lft (mm s m (Dh s m D h)) t ≤ _
  unfold lft
  split
  · exact Nat.zero_le _
  · exact Nat.le_refl _
theorem Dh_ok (O : (mm s m D).Ok) : ∀ h, (mm s m (Dh s m D h)).Ok := by
  intro h
  induction h with
  | zero => exact O
  | succ h ih =>
    refine ⟨fun t ht => ⟨(ih.1 t ht).1, (ih.1 t ht).2.1, ?_⟩, ih.2.1, ih.2.2.1, fun t ht => ?_⟩
    · exact Nat.le_trans (Dh_le h t) (ih.1 t ht).2.2
    · have := Dh_le (s := s) (m := m) (D := D) h t
      have h2 : Dh s m D h t = 0 := ih.2.2.2 t ht
      show Dh s m D (h + 1) t = 0
      omega
theorem tot_rest (O : M.Ok) : (M.tot = 0) = (M.rest = 0) := by
  refine propext ⟨fun h => rest_0 fun t ht => ?_, fun h => ?_⟩
  · rcases Nat.eq_zero_or_pos (M.D t) with z | z
    · exact z
    · exact absurd (sgm_pos M.n t ht z) (by unfold Mk.tot at h; omega)
  · refine sgm_0 _ fun t ht => ?_
    rcases Nat.eq_zero_or_pos (M.D t) with z | z
    · exact z
    · exact absurd (Mk.rest_pos O ht z) (by omega)
/-- how many things are left -/
def nz (D : Nat → Nat) (n : Nat) : Nat := sgm (fun t => if 0 < D t then 1 else 0) n
theorem nz_lt {D E : Nat → Nat} {t : Nat} : ∀ n, (∀ k, k < n → E k ≤ D k) → t < n → 0 < D t → E t = 0 → nz E n < nz D n := by
  have le : ∀ n, (∀ k, k < n → E k ≤ D k) → nz E n ≤ nz D n := fun n h => sgm_le n fun k hk => by
    have := h k hk
    show (if 0 < E k then 1 else 0) ≤ (if 0 < D k then 1 else 0)
    by_cases z : 0 < E k
    · rw [if_pos z, if_pos (by omega)]; exact Nat.le_refl _
    · rw [if_neg z]; exact Nat.zero_le _
  intro n
  induction n with
  | zero => intro _ h; omega
  | succ n ih =>
    intro h ht h1 h2
    show nz E n + (if 0 < E n then 1 else 0) < nz D n + (if 0 < D n then 1 else 0)
    by_cases z : t = n
    · subst z
      have := le t (fun k hk => h k (by omega))
      rw [if_neg (by omega), if_pos h1]
      omega
    · have := ih (fun k hk => h k (by omega)) (by omega) h1 h2
      have h3 := h n (by omega)
      by_cases z : 0 < E n
      · rw [if_pos z, if_pos (by omega)]; omega
      · rw [if_neg z]; split <;> omega
theorem hours_end (O : (mm s m D).Ok) : ∃ N, N ≤ 8 ∧ (mm s m (Dh s m D N)).rest = 0 ∧ ∀ h, h < N → (mm s m (Dh s m D h)).rest ≠ 0 := by
  have dn : ∀ h, (∀ j, j < h → (mm s m (Dh s m D j)).rest ≠ 0) → nz (Dh s m D h) (nT s) + h ≤ nz D (nT s) := by
    intro h
    induction h with
    | zero => intro _; exact Nat.le_refl _
    | succ h ih =>
      intro hh
      have i0 := ih (fun j hj => hh j (by omega))
      have r := hh h (by omega)
      obtain ⟨t, ht, st⟩ := Mk.rest_ex (m := mm s m (Dh s m D h)) (q := (mm s m (Dh s m D h)).rest - 1) (by omega)
      have sd := (of_decide_eq_true st).1
      have := nz_lt (D := Dh s m D h) (E := Dh s m D (h + 1)) (t := t) (nT s) (fun k _ => Dh_le h k) ht sd (if_pos ⟨r, st⟩)
      omega
  have nb : nz D (nT s) ≤ 8 := by
    have b := sgm_bd (f := fun t => if 0 < D t then 1 else 0) 1 (nT s) (fun k _ => by
      show (if 0 < D k then 1 else 0) ≤ 1
      split <;> omega)
    have : nT s ≤ 8 := O.2.2.1
    unfold nz
    omega
  have ex : ∃ N, (mm s m (Dh s m D N)).rest = 0 := by
    apply Classical.byContradiction
    intro h
    have := dn 9 (fun j _ z => h ⟨j, z⟩)
    omega
  obtain ⟨N, h1, h2⟩ := pk_least (fun N => (mm s m (Dh s m D N)).rest = 0) ex
  refine ⟨N, ?_, h1, h2⟩
  have := dn N h2
  omega
theorem c51 (L : Lay v c w) (K : MkC w M) (O : M.Ok) (r : M.rest ≠ 0) : ∃ y, fn_51 51 (rp M) w = some y ∧ FC v c w y ∧ cm_I y = cm_I w ∧ ∀ t, t < 8 → cm_L y 52 t = lN (lft M t) := by
  have rl : M.rest ≤ 1000 := M.scan_le 1000
  have e0 : rp M = nI (M.rest - 1) := if_neg r
  rw [e0]
  refine up_0 (fun n k a => fn_51_2 n 51 (nI (M.rest - 1)) (nI k) a) 8 (fun k a => FC v c w a ∧ cm_I a = cm_I w ∧ ∀ t, t < 8 → cm_L a 52 t = lN (if t < k then lft M t else M.D t)) (fun o => ∃ y, o = some y ∧ FC v c w y ∧ cm_I y = cm_I w ∧ ∀ t, t < 8 → cm_L y 52 t = lN (lft M t)) w (by omega) ⟨FC.rf L, rfl, fun t ht => by rw [if_neg (by omega)]; exact K.1 t ht⟩ (fun n k a hk ha => Or.inr ?_) (fun n a ha => ?_)
  · obtain ⟨F, hi, h⟩ := ha
    have hk' : ¬ 8 ≤ k := by omega
    have LL := F.1
    have ek := h k hk
    rw [if_neg (by omega)] at ek
    -- is it sold
    have e38 : fn_38 a 51 (nI k) (nI (M.rest - 1)) = some (M.sold (M.rest - 1) k) := by
      by_cases hn : k < M.n
      · have hd := O.Db k
        have k2 := (K.2 k hn).2
        rw [← hi] at k2
        have k1 := O.1 k hn
        by_cases z : M.D k = 0
        · have : M.sold (M.rest - 1) k = false := decide_eq_false (fun h => by omega)
          rw [this]
          simp (disch := omega) only [fn_38, ↓LCb LL, LC LL, ek, lgc_le, lle0, z, eq_self, Nat.le_refl, Nat.lt_irrefl, some_if, Option.bind_some, Option.bind_none, Option.some.injEq, ↓reduceIte, reduceCtorEq, Bool.false_eq_true, Bool.true_eq_false, not_true_eq_false, not_false_eq_true, cmb0, cmb1, Nat.reduceAdd, Nat.reduceMul, Nat.reduceSub, Nat.add_zero, Bool.not_eq_true, Bool.not_eq_false, Nat.reduceEqDiff, Nat.reduceLeDiff, Nat.reduceLT, Int32.reduceLT, Int32.reduceLE, iin_nI, iin_lit, iin_m1, tn_nI, tn_lit, nI_lm, nI_ml, nI_al, nI_la, nI_add, pk_mul, nI_le_l, nI_l_le, nI_lt_l, nI_l_lt, nI_eq_l, nI_l_eq, nI_eqP, nI_leP, nI_ltP, nI_m1, m1_nI, nI_ll, m1_l, l_m1]
        · by_cases z2 : M.K k ≤ M.rest - 1
          · have : M.sold (M.rest - 1) k = true := decide_eq_true ⟨by omega, z2⟩
            have z3 : ¬ M.rest - 1 < M.K k := by omega
            rw [this]
            simp (disch := omega) only [fn_38, ↓LCb LL, LC LL, ek, k2, lgc_le, lle0, z, z3, eq_self, Nat.le_refl, Nat.lt_irrefl, some_if, Option.bind_some, Option.bind_none, Option.some.injEq, ↓reduceIte, reduceCtorEq, Bool.false_eq_true, Bool.true_eq_false, not_true_eq_false, not_false_eq_true, cmb0, cmb1, Nat.reduceAdd, Nat.reduceMul, Nat.reduceSub, Nat.add_zero, Bool.not_eq_true, Bool.not_eq_false, Nat.reduceEqDiff, Nat.reduceLeDiff, Nat.reduceLT, Int32.reduceLT, Int32.reduceLE, iin_nI, iin_lit, iin_m1, tn_nI, tn_lit, nI_lm, nI_ml, nI_al, nI_la, nI_add, pk_mul, nI_le_l, nI_l_le, nI_lt_l, nI_l_lt, nI_eq_l, nI_l_eq, nI_eqP, nI_leP, nI_ltP, nI_m1, m1_nI, nI_ll, m1_l, l_m1]
          · have : M.sold (M.rest - 1) k = false := decide_eq_false (fun h => z2 h.2)
            have z3 : M.rest - 1 < M.K k := by omega
            rw [this]
            simp (disch := omega) only [fn_38, ↓LCb LL, LC LL, ek, k2, lgc_le, lle0, z, z3, eq_self, Nat.le_refl, Nat.lt_irrefl, some_if, Option.bind_some, Option.bind_none, Option.some.injEq, ↓reduceIte, reduceCtorEq, Bool.false_eq_true, Bool.true_eq_false, not_true_eq_false, not_false_eq_true, cmb0, cmb1, Nat.reduceAdd, Nat.reduceMul, Nat.reduceSub, Nat.add_zero, Bool.not_eq_true, Bool.not_eq_false, Nat.reduceEqDiff, Nat.reduceLeDiff, Nat.reduceLT, Int32.reduceLT, Int32.reduceLE, iin_nI, iin_lit, iin_m1, tn_nI, tn_lit, nI_lm, nI_ml, nI_al, nI_la, nI_add, pk_mul, nI_le_l, nI_l_le, nI_lt_l, nI_l_lt, nI_eq_l, nI_l_eq, nI_eqP, nI_leP, nI_ltP, nI_m1, m1_nI, nI_ll, m1_l, l_m1]
      · have d0 := O.D0 (t := k) (by omega)
        rw [O.so (by omega)]
        simp (disch := omega) only [fn_38, ↓LCb LL, LC LL, ek, lgc_le, lle0, d0, eq_self, Nat.le_refl, Nat.lt_irrefl, some_if, Option.bind_some, Option.bind_none, Option.some.injEq, ↓reduceIte, reduceCtorEq, Bool.false_eq_true, Bool.true_eq_false, not_true_eq_false, not_false_eq_true, cmb0, cmb1, Nat.reduceAdd, Nat.reduceMul, Nat.reduceSub, Nat.add_zero, Bool.not_eq_true, Bool.not_eq_false, Nat.reduceEqDiff, Nat.reduceLeDiff, Nat.reduceLT, Int32.reduceLT, Int32.reduceLE, iin_nI, iin_lit, iin_m1, tn_nI, tn_lit, nI_lm, nI_ml, nI_al, nI_la, nI_add, pk_mul, nI_le_l, nI_l_le, nI_lt_l, nI_l_lt, nI_eq_l, nI_l_eq, nI_eqP, nI_leP, nI_ltP, nI_m1, m1_nI, nI_ll, m1_l, l_m1]
    refine ⟨cm_sL a 52 k (lN (lft M k)), ⟨F.sL (by omega), hi, fun t ht => ?_⟩, ?_⟩
    · by_cases z : t = k
      · subst z; rw [L_eq, if_pos (show t < t + 1 by omega)]
      · rw [L_nk z, h t ht]
        by_cases z2 : t < k
        · rw [if_pos z2, if_pos (by omega)]
        · rw [if_neg z2, if_neg (by omega)]
    · unfold lft
      cases z : M.sold (M.rest - 1) k
      · rw [z] at e38
        rw [if_neg (fun h => by cases h.2), ← ek]
        simp (disch := omega) only [fn_51_2, hk', ↓LCb LL, LC LL, e38, cm_w2, Nat.reduceLeDiff, Nat.reduceLT, decide_true, Bool.and_self, Bool.and_true, eq_self, Nat.le_refl, Nat.lt_irrefl, some_if, Option.bind_some, Option.bind_none, Option.some.injEq, ↓reduceIte, reduceCtorEq, Bool.false_eq_true, Bool.true_eq_false, not_true_eq_false, not_false_eq_true, cmb0, cmb1, Nat.reduceAdd, Nat.reduceMul, Nat.reduceSub, Nat.add_zero, Bool.not_eq_true, Bool.not_eq_false, Nat.reduceEqDiff, Nat.reduceLeDiff, Nat.reduceLT, Int32.reduceLT, Int32.reduceLE, iin_nI, iin_lit, iin_m1, tn_nI, tn_lit, nI_lm, nI_ml, nI_al, nI_la, nI_add, pk_mul, nI_le_l, nI_l_le, nI_lt_l, nI_l_lt, nI_eq_l, nI_l_eq, nI_eqP, nI_leP, nI_ltP, nI_m1, m1_nI, nI_ll, m1_l, l_m1]
      · rw [z] at e38
        rw [if_pos ⟨r, rfl⟩]
        simp (disch := omega) only [fn_51_2, hk', ↓LCb LL, LC LL, e38, cm_w2, Nat.reduceLeDiff, Nat.reduceLT, decide_true, Bool.and_self, Bool.and_true, eq_self, Nat.le_refl, Nat.lt_irrefl, some_if, Option.bind_some, Option.bind_none, Option.some.injEq, ↓reduceIte, reduceCtorEq, Bool.false_eq_true, Bool.true_eq_false, not_true_eq_false, not_false_eq_true, cmb0, cmb1, Nat.reduceAdd, Nat.reduceMul, Nat.reduceSub, Nat.add_zero, Bool.not_eq_true, Bool.not_eq_false, Nat.reduceEqDiff, Nat.reduceLeDiff, Nat.reduceLT, Int32.reduceLT, Int32.reduceLE, iin_nI, iin_lit, iin_m1, tn_nI, tn_lit, nI_lm, nI_ml, nI_al, nI_la, nI_add, pk_mul, nI_le_l, nI_l_le, nI_lt_l, nI_l_lt, nI_eq_l, nI_l_eq, nI_eqP, nI_leP, nI_ltP, nI_m1, m1_nI, nI_ll, m1_l, l_m1]
        rfl
  · obtain ⟨F, hi, h⟩ := ha
    refine ⟨a, ?_, F, hi, fun t ht => ?_⟩
    · simp (disch := omega) only [fn_51_2, eq_self, Nat.le_refl, Nat.lt_irrefl, some_if, Option.bind_some, Option.bind_none, Option.some.injEq, ↓reduceIte, reduceCtorEq, Bool.false_eq_true, Bool.true_eq_false, not_true_eq_false, not_false_eq_true, cmb0, cmb1, Nat.reduceAdd, Nat.reduceMul, Nat.reduceSub, Nat.add_zero, Bool.not_eq_true, Bool.not_eq_false, Nat.reduceEqDiff, Nat.reduceLeDiff, Nat.reduceLT, Int32.reduceLT, Int32.reduceLE, iin_nI, iin_lit, iin_m1, tn_nI, tn_lit, nI_lm, nI_ml, nI_al, nI_la, nI_add, pk_mul, nI_le_l, nI_l_le, nI_lt_l, nI_l_lt, nI_eq_l, nI_l_eq, nI_eqP, nI_leP, nI_ltP, nI_m1, m1_nI, nI_ll, m1_l, l_m1]
    · have := h t ht
      rw [if_pos ht] at this
      exact this
end HOURS
