/-! lost: pools -/
def bgn (s : St) (l p : Nat) : Bool :=
  if l = 0 then decide (p = 0) else if l = 1 then decide (p < nP s) else decide (p < nT s ∧ ∀ t, t < p → tog s l (-1) (nI t) 0 p = false)
/-- a pool's market -/
def pm (s : St) (l m p : Nat) : Mk := mkt s l (nI p) (nI p) m
def plost (s : St) (l m n : Nat) : Nat := sgm (fun p => if bgn s l p then (pm s l m p).lost else 0) n
def ptot (s : St) (l m n : Nat) : Nat := sgm (fun p => if bgn s l p then (pm s l m p).tot else 0) n
def lostv (s : St) (l m : Nat) : Int32 := if ptot s l m 12 = 0 then -1 else nI (plost s l m 12 * 100 / ptot s l m 12)
def pcnt (s : St) (l : Nat) : Nat := if l = 0 then 1 else if l = 1 then nP s else nT s
section LOST
variable {v c u n m l : Nat} {w w' : cm_W} {s s' : St}
theorem lost_le {M : Mk} (O : M.Ok) : M.lost ≤ 999 * M.tot := by
  unfold Mk.lost Mk.tot
  rw [← sgm_mul]
  refine sgm_le _ fun k hk => ?_
  have := (O.1 k hk).2.1
  unfold Mk.un
  split
  · exact Nat.zero_le _
  · show M.D k * (M.U k - M.K k) ≤ 999 * M.D k
    rw [Nat.mul_comm 999]
    exact Nat.mul_le_mul_left _ (by omega)
theorem mtot_le (I : InvV s) (l m : Nat) (i j : Int32) : (mkt s l i j m).tot ≤ 1188000000 * 8 := by
  have hT := I.1
  have := sgm_bd (f := (mkt s l i j m).D) 1188000000 (mkt s l i j m).n (fun k hk => by
    show (if k < nT s then dm s l i j k else 0) ≤ _
    by_cases z : k < nT s
    · rw [if_pos z]; exact dm_le I z
    · rw [if_neg z]; omega)
  exact Nat.le_trans this (Nat.mul_le_mul_left _ hT.2)
theorem ptot_le (I : InvV s) (n : Nat) : ptot s l m n ≤ 9504000000 * n := sgm_bd _ _ fun p _ => by
  have := mtot_le I l m (nI p) (nI p)
  show (if bgn s l p = true then (pm s l m p).tot else 0) ≤ _
  split
  · exact this
  · omega
theorem plost_le (I : InvV s) (hm : m < 6) (n : Nat) : plost s l m n ≤ 999 * ptot s l m n := by
  unfold plost ptot
  rw [← sgm_mul]
  refine sgm_le _ fun p _ => ?_
  show (if bgn s l p = true then (pm s l m p).lost else 0) ≤ 999 * if bgn s l p = true then (pm s l m p).tot else 0
  split
  · exact lost_le (mkt_ok I hm)
  · omega
theorem bgn_pc (hl : l < 4) {p : Nat} (hp : pcnt s l ≤ p) : bgn s l p = false := by
  unfold pcnt at hp
  unfold bgn
  rcases (show l = 0 ∨ l = 1 ∨ l = 2 ∨ l = 3 by omega) with rfl | rfl | rfl | rfl
  · exact decide_eq_false (fun h => by have hp : 1 ≤ p := hp; omega)
  · exact decide_eq_false (fun h => by have hp : nP s ≤ p := hp; omega)
  · exact decide_eq_false (fun h => by have hp : nT s ≤ p := hp; omega)
  · exact decide_eq_false (fun h => by have hp : nT s ≤ p := hp; omega)
theorem tog_l {i i' j : Int32} {p p' t : Nat} (h : 2 ≤ l) : tog s l i j p t = tog s l i' j p' t := by
  unfold tog
  simp only [show ¬ l = 0 by omega, show ¬ l = 1 by omega, ↓reduceIte]
theorem c44 (L : Lay v c w) (hv : v = 10 ∨ v = 20) (V : VilC w v s) (I : InvV s) (hl : l < 4) {p : Nat} (hp : p < 12) : fn_44 w v (nI l) (nI p) = some (bgn s l p) := by
  have hT := I.1
  have hP := I.2.1
  have l2 : 2 ≤ l → fn_44 w v (nI l) (nI p) = some (decide (p < nT s ∧ ∀ t, t < p → tog s l (-1) (nI t) 0 p = false)) := by
    intro hl2
    have e0 : fn_44 w v (nI l) (nI p) = fn_44_30 w cm_N v (nI l) (nI p) 0 := by
      have : ¬ l = 0 := by omega
      have : ¬ l = 1 := by omega
      simp (disch := omega) only [fn_44, fn_44_14, fn_44_28, *, eq_self, Nat.le_refl, Nat.lt_irrefl, some_if, Option.bind_some, Option.bind_none, Option.some.injEq, ↓reduceIte, reduceCtorEq, Bool.false_eq_true, Bool.true_eq_false, not_true_eq_false, not_false_eq_true, cmb0, cmb1, Nat.reduceAdd, Nat.reduceMul, Nat.reduceSub, Nat.add_zero, Bool.not_eq_true, Bool.not_eq_false, Nat.reduceEqDiff, Nat.reduceLeDiff, Nat.reduceLT, Int32.reduceLT, Int32.reduceLE, iin_nI, iin_lit, iin_m1, tn_nI, tn_lit, nI_lm, nI_ml, nI_al, nI_la, nI_add, pk_mul, nI_le_l, nI_l_le, nI_lt_l, nI_l_lt, nI_eq_l, nI_l_eq, nI_eqP, nI_leP, nI_ltP, nI_m1, m1_nI, nI_ll, m1_l, l_m1]
    rw [e0]
    by_cases pT : p < nT s
    · by_cases ex : ∀ t, t < p → tog s l (-1) (nI t) 0 p = false
      · rw [decide_eq_true ⟨pT, ex⟩]
        refine up_0 (fun n k (_ : Unit) => fn_44_30 w n v (nI l) (nI p) (nI k)) p (fun _ _ => True) (fun o => o = some true) () (by omega) trivial (fun n k a hk _ => Or.inr ⟨(), trivial, ?_⟩) (fun n a _ => ?_)
        · have e := c34 L hv V I (l := l) (p := 0) (i := -1) (j := nI k) (Or.inr ⟨hl, k, by omega, rfl⟩) pT
          rw [if_neg (by decide), ex k hk] at e
          have hk' : ¬ p ≤ k := by omega
          simp (disch := omega) only [fn_44_30, fn_44_48, hk', e, eq_self, Nat.le_refl, Nat.lt_irrefl, some_if, Option.bind_some, Option.bind_none, Option.some.injEq, ↓reduceIte, reduceCtorEq, Bool.false_eq_true, Bool.true_eq_false, not_true_eq_false, not_false_eq_true, cmb0, cmb1, Nat.reduceAdd, Nat.reduceMul, Nat.reduceSub, Nat.add_zero, Bool.not_eq_true, Bool.not_eq_false, Nat.reduceEqDiff, Nat.reduceLeDiff, Nat.reduceLT, Int32.reduceLT, Int32.reduceLE, iin_nI, iin_lit, iin_m1, tn_nI, tn_lit, nI_lm, nI_ml, nI_al, nI_la, nI_add, pk_mul, nI_le_l, nI_l_le, nI_lt_l, nI_l_lt, nI_eq_l, nI_l_eq, nI_eqP, nI_leP, nI_ltP, nI_m1, m1_nI, nI_ll, m1_l, l_m1]
        · have := hasT L hv V I (nI p)
          simp (disch := omega) only [fn_44_30, fn_44_54, ↓LVb L hv, LV L hv, this, eq_self, Nat.le_refl, Nat.lt_irrefl, some_if, Option.bind_some, Option.bind_none, Option.some.injEq, ↓reduceIte, reduceCtorEq, Bool.false_eq_true, Bool.true_eq_false, not_true_eq_false, not_false_eq_true, cmb0, cmb1, Nat.reduceAdd, Nat.reduceMul, Nat.reduceSub, Nat.add_zero, Bool.not_eq_true, Bool.not_eq_false, Nat.reduceEqDiff, Nat.reduceLeDiff, Nat.reduceLT, Int32.reduceLT, Int32.reduceLE, iin_nI, iin_lit, iin_m1, tn_nI, tn_lit, nI_lm, nI_ml, nI_al, nI_la, nI_add, pk_mul, nI_le_l, nI_l_le, nI_lt_l, nI_l_lt, nI_eq_l, nI_l_eq, nI_eqP, nI_leP, nI_ltP, nI_m1, m1_nI, nI_ll, m1_l, l_m1]
      · rw [decide_eq_false (fun h => ex h.2)]
        -- the first one together
        have fst : ∃ t, t < p ∧ tog s l (-1) (nI t) 0 p = true ∧ ∀ x, x < t → tog s l (-1) (nI x) 0 p = false := by
          obtain ⟨t, h1, h2⟩ := pk_least (fun t => t < p ∧ tog s l (-1) (nI t) 0 p = true) (by
            apply Classical.byContradiction
            intro h
            refine ex fun t ht => ?_
            cases z : tog s l (-1) (nI t) 0 p
            · rfl
            · exact absurd ⟨t, ht, z⟩ h)
          refine ⟨t, h1.1, h1.2, fun x hx => ?_⟩
          cases z : tog s l (-1) (nI x) 0 p
          · rfl
          · exact absurd ⟨by omega, z⟩ (h2 x hx)
        obtain ⟨t, ht, t1, t2⟩ := fst
        refine up_0 (fun n k (_ : Unit) => fn_44_30 w n v (nI l) (nI p) (nI k)) t (fun _ _ => True) (fun o => o = some false) () (by omega) trivial (fun n k a hk _ => Or.inr ⟨(), trivial, ?_⟩) (fun n a _ => ?_)
        · have e := c34 L hv V I (l := l) (p := 0) (i := -1) (j := nI k) (Or.inr ⟨hl, k, by omega, rfl⟩) pT
          rw [if_neg (by decide), t2 k hk] at e
          have hk' : ¬ p ≤ k := by omega
          simp (disch := omega) only [fn_44_30, fn_44_48, hk', e, eq_self, Nat.le_refl, Nat.lt_irrefl, some_if, Option.bind_some, Option.bind_none, Option.some.injEq, ↓reduceIte, reduceCtorEq, Bool.false_eq_true, Bool.true_eq_false, not_true_eq_false, not_false_eq_true, cmb0, cmb1, Nat.reduceAdd, Nat.reduceMul, Nat.reduceSub, Nat.add_zero, Bool.not_eq_true, Bool.not_eq_false, Nat.reduceEqDiff, Nat.reduceLeDiff, Nat.reduceLT, Int32.reduceLT, Int32.reduceLE, iin_nI, iin_lit, iin_m1, tn_nI, tn_lit, nI_lm, nI_ml, nI_al, nI_la, nI_add, pk_mul, nI_le_l, nI_l_le, nI_lt_l, nI_l_lt, nI_eq_l, nI_l_eq, nI_eqP, nI_leP, nI_ltP, nI_m1, m1_nI, nI_ll, m1_l, l_m1]
        · have e := c34 L hv V I (l := l) (p := 0) (i := -1) (j := nI t) (Or.inr ⟨hl, t, by omega, rfl⟩) pT
          rw [if_neg (by decide), t1] at e
          have hk' : ¬ p ≤ t := by omega
          simp (disch := omega) only [fn_44_30, hk', e, eq_self, Nat.le_refl, Nat.lt_irrefl, some_if, Option.bind_some, Option.bind_none, Option.some.injEq, ↓reduceIte, reduceCtorEq, Bool.false_eq_true, Bool.true_eq_false, not_true_eq_false, not_false_eq_true, cmb0, cmb1, Nat.reduceAdd, Nat.reduceMul, Nat.reduceSub, Nat.add_zero, Bool.not_eq_true, Bool.not_eq_false, Nat.reduceEqDiff, Nat.reduceLeDiff, Nat.reduceLT, Int32.reduceLT, Int32.reduceLE, iin_nI, iin_lit, iin_m1, tn_nI, tn_lit, nI_lm, nI_ml, nI_al, nI_la, nI_add, pk_mul, nI_le_l, nI_l_le, nI_lt_l, nI_l_lt, nI_eq_l, nI_l_eq, nI_eqP, nI_leP, nI_ltP, nI_m1, m1_nI, nI_ll, m1_l, l_m1]
    · rw [decide_eq_false (fun h => pT h.1)]
      refine up_0 (fun n k (_ : Unit) => fn_44_30 w n v (nI l) (nI p) (nI k)) p (fun _ _ => True) (fun o => o = some false) () (by omega) trivial (fun n k a hk _ => ?_) (fun n a _ => ?_)
      · have hk' : ¬ p ≤ k := by omega
        have t1 : ∃ z, fn_1 w (v + 2) (nI k) 1 = some z := ⟨_, gTC (k := 1) L hv V I (by omega) (by decide)⟩
        have t2 : ∃ z, fn_1 w (v + 2) (nI k) 2 = some z := ⟨_, gTC (k := 2) L hv V I (by omega) (by decide)⟩
        have t3 : ∃ z, fn_1 w (v + 2) (nI p) 1 = some z := ⟨_, gTC (k := 1) L hv V I (by omega) (by decide)⟩
        have t4 : ∃ z, fn_1 w (v + 2) (nI p) 2 = some z := ⟨_, gTC (k := 2) L hv V I (by omega) (by decide)⟩
        obtain ⟨z1, t1⟩ := t1
        obtain ⟨z2, t2⟩ := t2
        obtain ⟨z3, t3⟩ := t3
        obtain ⟨z4, t4⟩ := t4
        have e : ∃ b, fn_34 w v (nI l) 0 (nI k) (nI p) = some b := by
          rcases (show l = 2 ∨ l = 3 by omega) with rfl | rfl
          · by_cases q : z2 = z4
            · exact ⟨true, by simp (disch := omega) only [fn_34, fn_34_32, ↓LVb L hv, LV L hv, t2, t4, q, eq_self, Nat.le_refl, Nat.lt_irrefl, some_if, Option.bind_some, Option.bind_none, Option.some.injEq, ↓reduceIte, reduceCtorEq, Bool.false_eq_true, Bool.true_eq_false, not_true_eq_false, not_false_eq_true, cmb0, cmb1, Nat.reduceAdd, Nat.reduceMul, Nat.reduceSub, Nat.add_zero, Bool.not_eq_true, Bool.not_eq_false, Nat.reduceEqDiff, Nat.reduceLeDiff, Nat.reduceLT, Int32.reduceLT, Int32.reduceLE, iin_nI, iin_lit, iin_m1, tn_nI, tn_lit, nI_lm, nI_ml, nI_al, nI_la, nI_add, pk_mul, nI_le_l, nI_l_le, nI_lt_l, nI_l_lt, nI_eq_l, nI_l_eq, nI_eqP, nI_leP, nI_ltP, nI_m1, m1_nI, nI_ll, m1_l, l_m1]⟩
            · exact ⟨false, by simp (disch := omega) only [fn_34, fn_34_32, ↓LVb L hv, LV L hv, t2, t4, q, eq_self, Nat.le_refl, Nat.lt_irrefl, some_if, Option.bind_some, Option.bind_none, Option.some.injEq, ↓reduceIte, reduceCtorEq, Bool.false_eq_true, Bool.true_eq_false, not_true_eq_false, not_false_eq_true, cmb0, cmb1, Nat.reduceAdd, Nat.reduceMul, Nat.reduceSub, Nat.add_zero, Bool.not_eq_true, Bool.not_eq_false, Nat.reduceEqDiff, Nat.reduceLeDiff, Nat.reduceLT, Int32.reduceLT, Int32.reduceLE, iin_nI, iin_lit, iin_m1, tn_nI, tn_lit, nI_lm, nI_ml, nI_al, nI_la, nI_add, pk_mul, nI_le_l, nI_l_le, nI_lt_l, nI_l_lt, nI_eq_l, nI_l_eq, nI_eqP, nI_leP, nI_ltP, nI_m1, m1_nI, nI_ll, m1_l, l_m1]⟩
          · by_cases q : z1 = z3
            · exact ⟨true, by simp (disch := omega) only [fn_34, fn_34_60, ↓LVb L hv, LV L hv, t1, t3, q, eq_self, Nat.le_refl, Nat.lt_irrefl, some_if, Option.bind_some, Option.bind_none, Option.some.injEq, ↓reduceIte, reduceCtorEq, Bool.false_eq_true, Bool.true_eq_false, not_true_eq_false, not_false_eq_true, cmb0, cmb1, Nat.reduceAdd, Nat.reduceMul, Nat.reduceSub, Nat.add_zero, Bool.not_eq_true, Bool.not_eq_false, Nat.reduceEqDiff, Nat.reduceLeDiff, Nat.reduceLT, Int32.reduceLT, Int32.reduceLE, iin_nI, iin_lit, iin_m1, tn_nI, tn_lit, nI_lm, nI_ml, nI_al, nI_la, nI_add, pk_mul, nI_le_l, nI_l_le, nI_lt_l, nI_l_lt, nI_eq_l, nI_l_eq, nI_eqP, nI_leP, nI_ltP, nI_m1, m1_nI, nI_ll, m1_l, l_m1]⟩
            · exact ⟨false, by simp (disch := omega) only [fn_34, fn_34_60, ↓LVb L hv, LV L hv, t1, t3, q, eq_self, Nat.le_refl, Nat.lt_irrefl, some_if, Option.bind_some, Option.bind_none, Option.some.injEq, ↓reduceIte, reduceCtorEq, Bool.false_eq_true, Bool.true_eq_false, not_true_eq_false, not_false_eq_true, cmb0, cmb1, Nat.reduceAdd, Nat.reduceMul, Nat.reduceSub, Nat.add_zero, Bool.not_eq_true, Bool.not_eq_false, Nat.reduceEqDiff, Nat.reduceLeDiff, Nat.reduceLT, Int32.reduceLT, Int32.reduceLE, iin_nI, iin_lit, iin_m1, tn_nI, tn_lit, nI_lm, nI_ml, nI_al, nI_la, nI_add, pk_mul, nI_le_l, nI_l_le, nI_lt_l, nI_l_lt, nI_eq_l, nI_l_eq, nI_eqP, nI_leP, nI_ltP, nI_m1, m1_nI, nI_ll, m1_l, l_m1]⟩
        obtain ⟨b, e⟩ := e
        cases b
        · exact Or.inr ⟨(), trivial, by simp (disch := omega) only [fn_44_30, fn_44_48, hk', e, eq_self, Nat.le_refl, Nat.lt_irrefl, some_if, Option.bind_some, Option.bind_none, Option.some.injEq, ↓reduceIte, reduceCtorEq, Bool.false_eq_true, Bool.true_eq_false, not_true_eq_false, not_false_eq_true, cmb0, cmb1, Nat.reduceAdd, Nat.reduceMul, Nat.reduceSub, Nat.add_zero, Bool.not_eq_true, Bool.not_eq_false, Nat.reduceEqDiff, Nat.reduceLeDiff, Nat.reduceLT, Int32.reduceLT, Int32.reduceLE, iin_nI, iin_lit, iin_m1, tn_nI, tn_lit, nI_lm, nI_ml, nI_al, nI_la, nI_add, pk_mul, nI_le_l, nI_l_le, nI_lt_l, nI_l_lt, nI_eq_l, nI_l_eq, nI_eqP, nI_leP, nI_ltP, nI_m1, m1_nI, nI_ll, m1_l, l_m1]⟩
        · exact Or.inl (by simp (disch := omega) only [fn_44_30, fn_44_48, hk', e, eq_self, Nat.le_refl, Nat.lt_irrefl, some_if, Option.bind_some, Option.bind_none, Option.some.injEq, ↓reduceIte, reduceCtorEq, Bool.false_eq_true, Bool.true_eq_false, not_true_eq_false, not_false_eq_true, cmb0, cmb1, Nat.reduceAdd, Nat.reduceMul, Nat.reduceSub, Nat.add_zero, Bool.not_eq_true, Bool.not_eq_false, Nat.reduceEqDiff, Nat.reduceLeDiff, Nat.reduceLT, Int32.reduceLT, Int32.reduceLE, iin_nI, iin_lit, iin_m1, tn_nI, tn_lit, nI_lm, nI_ml, nI_al, nI_la, nI_add, pk_mul, nI_le_l, nI_l_le, nI_lt_l, nI_l_lt, nI_eq_l, nI_l_eq, nI_eqP, nI_leP, nI_ltP, nI_m1, m1_nI, nI_ll, m1_l, l_m1])
      · have h1 := hasT L hv V I (nI p)
        have h2 := iin_no (n := nT s) (k := p) (by omega) (by omega)
        simp (disch := omega) only [fn_44_30, fn_44_54, ↓LVb L hv, LV L hv, h1, h2, eq_self, Nat.le_refl, Nat.lt_irrefl, some_if, Option.bind_some, Option.bind_none, Option.some.injEq, ↓reduceIte, reduceCtorEq, Bool.false_eq_true, Bool.true_eq_false, not_true_eq_false, not_false_eq_true, cmb0, cmb1, Nat.reduceAdd, Nat.reduceMul, Nat.reduceSub, Nat.add_zero, Bool.not_eq_true, Bool.not_eq_false, Nat.reduceEqDiff, Nat.reduceLeDiff, Nat.reduceLT, Int32.reduceLT, Int32.reduceLE, iin_nI, iin_lit, iin_m1, tn_nI, tn_lit, nI_lm, nI_ml, nI_al, nI_la, nI_add, pk_mul, nI_le_l, nI_l_le, nI_lt_l, nI_l_lt, nI_eq_l, nI_l_eq, nI_eqP, nI_leP, nI_ltP, nI_m1, m1_nI, nI_ll, m1_l, l_m1]
  unfold bgn
  by_cases l0 : l = 0
  · subst l0
    by_cases q : p = 0 <;> simp (disch := omega) only [fn_44, q, decide_true, decide_false, eq_self, Nat.le_refl, Nat.lt_irrefl, some_if, Option.bind_some, Option.bind_none, Option.some.injEq, ↓reduceIte, reduceCtorEq, Bool.false_eq_true, Bool.true_eq_false, not_true_eq_false, not_false_eq_true, cmb0, cmb1, Nat.reduceAdd, Nat.reduceMul, Nat.reduceSub, Nat.add_zero, Bool.not_eq_true, Bool.not_eq_false, Nat.reduceEqDiff, Nat.reduceLeDiff, Nat.reduceLT, Int32.reduceLT, Int32.reduceLE, iin_nI, iin_lit, iin_m1, tn_nI, tn_lit, nI_lm, nI_ml, nI_al, nI_la, nI_add, pk_mul, nI_le_l, nI_l_le, nI_lt_l, nI_l_lt, nI_eq_l, nI_l_eq, nI_eqP, nI_leP, nI_ltP, nI_m1, m1_nI, nI_ll, m1_l, l_m1]
  by_cases l1 : l = 1
  · subst l1
    have h1 := hasP L hv V I (nI p)
    by_cases q : p < nP s
    · have h2 := iin_nI q (show nP s ≤ 2147483648 by omega)
      simp (disch := omega) only [fn_44, fn_44_14, ↓LVb L hv, LV L hv, h1, h2, q, decide_true, eq_self, Nat.le_refl, Nat.lt_irrefl, some_if, Option.bind_some, Option.bind_none, Option.some.injEq, ↓reduceIte, reduceCtorEq, Bool.false_eq_true, Bool.true_eq_false, not_true_eq_false, not_false_eq_true, cmb0, cmb1, Nat.reduceAdd, Nat.reduceMul, Nat.reduceSub, Nat.add_zero, Bool.not_eq_true, Bool.not_eq_false, Nat.reduceEqDiff, Nat.reduceLeDiff, Nat.reduceLT, Int32.reduceLT, Int32.reduceLE, iin_nI, iin_lit, iin_m1, tn_nI, tn_lit, nI_lm, nI_ml, nI_al, nI_la, nI_add, pk_mul, nI_le_l, nI_l_le, nI_lt_l, nI_l_lt, nI_eq_l, nI_l_eq, nI_eqP, nI_leP, nI_ltP, nI_m1, m1_nI, nI_ll, m1_l, l_m1]
    · have h2 := iin_no (n := nP s) (k := p) (by omega) (by omega)
      simp (disch := omega) only [fn_44, fn_44_14, ↓LVb L hv, LV L hv, h1, h2, q, decide_false, eq_self, Nat.le_refl, Nat.lt_irrefl, some_if, Option.bind_some, Option.bind_none, Option.some.injEq, ↓reduceIte, reduceCtorEq, Bool.false_eq_true, Bool.true_eq_false, not_true_eq_false, not_false_eq_true, cmb0, cmb1, Nat.reduceAdd, Nat.reduceMul, Nat.reduceSub, Nat.add_zero, Bool.not_eq_true, Bool.not_eq_false, Nat.reduceEqDiff, Nat.reduceLeDiff, Nat.reduceLT, Int32.reduceLT, Int32.reduceLE, iin_nI, iin_lit, iin_m1, tn_nI, tn_lit, nI_lm, nI_ml, nI_al, nI_la, nI_add, pk_mul, nI_le_l, nI_l_le, nI_lt_l, nI_l_lt, nI_eq_l, nI_l_eq, nI_eqP, nI_leP, nI_ltP, nI_m1, m1_nI, nI_ll, m1_l, l_m1]
  rw [if_neg l0, if_neg l1]
  exact l2 (by omega)
theorem c47 (L : Lay v c w) (hv : v = 10 ∨ v = 20) (V : VilC w v s) (I : InvV s) (hl : l < 4) (hm : m < 6) : ∃ y, fn_47 51 v (nI l) (nI m) w = some (lostv s l m, y) ∧ FC v c w y := by
  have hT := I.1
  have hP := I.2.1
  obtain ⟨y1, a1, F1, h1⟩ := c32 L hv V I hm
  have e0 : fn_47 51 v (nI l) (nI m) w = fn_47_15 cm_N 51 v (nI l) 0 0 0 y1 := by
    simp (disch := omega) only [fn_47, LC L, a1, eq_self, Nat.le_refl, Nat.lt_irrefl, some_if, Option.bind_some, Option.bind_none, Option.some.injEq, ↓reduceIte, reduceCtorEq, Bool.false_eq_true, Bool.true_eq_false, not_true_eq_false, not_false_eq_true, cmb0, cmb1, Nat.reduceAdd, Nat.reduceMul, Nat.reduceSub, Nat.add_zero, Bool.not_eq_true, Bool.not_eq_false, Nat.reduceEqDiff, Nat.reduceLeDiff, Nat.reduceLT, Int32.reduceLT, Int32.reduceLE, iin_nI, iin_lit, iin_m1, tn_nI, tn_lit, nI_lm, nI_ml, nI_al, nI_la, nI_add, pk_mul, nI_le_l, nI_l_le, nI_lt_l, nI_l_lt, nI_eq_l, nI_l_eq, nI_eqP, nI_leP, nI_ltP, nI_m1, m1_nI, nI_ll, m1_l, l_m1]
  rw [e0]
  refine up_0 (fun n k (a : (Int64 × Int64) × cm_W) => fn_47_15 n 51 v (nI l) a.1.1 a.1.2 (nI k) a.2) 12 (fun k a => a.1 = (lN (plost s l m k), lN (ptot s l m k)) ∧ FC v c w a.2 ∧ cm_I a.2 = cm_I y1) (fun o => ∃ y, o = some (lostv s l m, y) ∧ FC v c w y) (((0 : Int64), (0 : Int64)), y1) (by omega) ⟨rfl, F1, rfl⟩ (fun n p a hp ha => Or.inr ?_) (fun n a ha => ?_)
  · obtain ⟨a1, a⟩ := a
    obtain ⟨rfl, F, hi⟩ := ha
    have hp' : ¬ 12 ≤ p := by omega
    have e := c44 F.1 hv (F.V V hv) I hl hp
    have s1 : plost s l m (p + 1) = plost s l m p + if bgn s l p then (pm s l m p).lost else 0 := rfl
    have s2 : ptot s l m (p + 1) = ptot s l m p + if bgn s l p then (pm s l m p).tot else 0 := rfl
    dsimp only at F hi ⊢
    by_cases z : bgn s l p = true
    · rw [z] at e
      rw [if_pos z] at s1 s2
      have hl' : l < 2 ∨ l < 4 ∧ ∃ t0, t0 < nT s ∧ nI p = nI t0 := by
        by_cases h : l < 2
        · exact Or.inl h
        · refine Or.inr ⟨hl, p, ?_, rfl⟩
          unfold bgn at z
          rw [if_neg (by omega), if_neg (by omega)] at z
          exact (of_decide_eq_true z).1
      obtain ⟨y2, a2, F2, i2, h2⟩ := c36 F.1 hv (F.V V hv) I (i := nI p) (j := nI p) hl'
      have O := mkt_ok I (l := l) (m := m) (i := nI p) (j := nI p) hm
      have K : MkC y2 (mkt s l (nI p) (nI p) m) := ⟨fun t ht => h2 t ht, fun t ht => by rw [i2, hi]; exact h1 t ht⟩
      have a4 := c45 F2.1 K O
      have a5 := c46 F2.1 K O
      refine ⟨((lN (plost s l m (p + 1)), lN (ptot s l m (p + 1))), y2), ⟨rfl, F.tr F2, by rw [i2, hi]⟩, ?_⟩
      rw [s1, s2]
      simp (disch := omega) only [fn_47_15, fn_47_60, hp', e, LC F.1, a2, LC F2.1, a4, a5, lN_add, eq_self, Nat.le_refl, Nat.lt_irrefl, some_if, Option.bind_some, Option.bind_none, Option.some.injEq, ↓reduceIte, reduceCtorEq, Bool.false_eq_true, Bool.true_eq_false, not_true_eq_false, not_false_eq_true, cmb0, cmb1, Nat.reduceAdd, Nat.reduceMul, Nat.reduceSub, Nat.add_zero, Bool.not_eq_true, Bool.not_eq_false, Nat.reduceEqDiff, Nat.reduceLeDiff, Nat.reduceLT, Int32.reduceLT, Int32.reduceLE, iin_nI, iin_lit, iin_m1, tn_nI, tn_lit, nI_lm, nI_ml, nI_al, nI_la, nI_add, pk_mul, nI_le_l, nI_l_le, nI_lt_l, nI_l_lt, nI_eq_l, nI_l_eq, nI_eqP, nI_leP, nI_ltP, nI_m1, m1_nI, nI_ll, m1_l, l_m1]
      rfl
    · rw [if_neg z] at s1 s2
      have z2 : bgn s l p = false := by rw [Bool.not_eq_true] at z; exact z
      rw [z2] at e
      refine ⟨((lN (plost s l m (p + 1)), lN (ptot s l m (p + 1))), a), ⟨rfl, F, hi⟩, ?_⟩
      rw [s1, s2]
      simp (disch := omega) only [fn_47_15, fn_47_60, hp', e, eq_self, Nat.le_refl, Nat.lt_irrefl, some_if, Option.bind_some, Option.bind_none, Option.some.injEq, ↓reduceIte, reduceCtorEq, Bool.false_eq_true, Bool.true_eq_false, not_true_eq_false, not_false_eq_true, cmb0, cmb1, Nat.reduceAdd, Nat.reduceMul, Nat.reduceSub, Nat.add_zero, Bool.not_eq_true, Bool.not_eq_false, Nat.reduceEqDiff, Nat.reduceLeDiff, Nat.reduceLT, Int32.reduceLT, Int32.reduceLE, iin_nI, iin_lit, iin_m1, tn_nI, tn_lit, nI_lm, nI_ml, nI_al, nI_la, nI_add, pk_mul, nI_le_l, nI_l_le, nI_lt_l, nI_l_lt, nI_eq_l, nI_l_eq, nI_eqP, nI_leP, nI_ltP, nI_m1, m1_nI, nI_ll, m1_l, l_m1]
  · obtain ⟨a1, a⟩ := a
    obtain ⟨rfl, F, hi⟩ := ha
    refine ⟨a, ?_, F⟩
    have b1 := ptot_le (s := s) (l := l) (m := m) I 12
    have b2 := plost_le (s := s) (l := l) (m := m) I hm 12
    unfold lostv
    by_cases z : ptot s l m 12 = 0
    · simp (disch := omega) only [fn_47_15, fn_47_66, lgc_le, lle0, z, eq_self, Nat.le_refl, Nat.lt_irrefl, some_if, Option.bind_some, Option.bind_none, Option.some.injEq, ↓reduceIte, reduceCtorEq, Bool.false_eq_true, Bool.true_eq_false, not_true_eq_false, not_false_eq_true, cmb0, cmb1, Nat.reduceAdd, Nat.reduceMul, Nat.reduceSub, Nat.add_zero, Bool.not_eq_true, Bool.not_eq_false, Nat.reduceEqDiff, Nat.reduceLeDiff, Nat.reduceLT, Int32.reduceLT, Int32.reduceLE, iin_nI, iin_lit, iin_m1, tn_nI, tn_lit, nI_lm, nI_ml, nI_al, nI_la, nI_add, pk_mul, nI_le_l, nI_l_le, nI_lt_l, nI_l_lt, nI_eq_l, nI_l_eq, nI_eqP, nI_leP, nI_ltP, nI_m1, m1_nI, nI_ll, m1_l, l_m1]
    · rw [if_neg z]
      have e1 : lN (plost s l m 12) * 100 / lN (ptot s l m 12) = lN (plost s l m 12 * 100 / ptot s l m 12) := by
        rw [show (100 : Int64) = lN 100 from rfl, lN_mul, pk_lDiv (by omega) (by omega) (by omega)]
      simp (disch := omega) only [fn_47_15, fn_47_66, lgc_le, lle0, leq0, z, e1, lN_i, eq_self, Nat.le_refl, Nat.lt_irrefl, some_if, Option.bind_some, Option.bind_none, Option.some.injEq, ↓reduceIte, reduceCtorEq, Bool.false_eq_true, Bool.true_eq_false, not_true_eq_false, not_false_eq_true, cmb0, cmb1, Nat.reduceAdd, Nat.reduceMul, Nat.reduceSub, Nat.add_zero, Bool.not_eq_true, Bool.not_eq_false, Nat.reduceEqDiff, Nat.reduceLeDiff, Nat.reduceLT, Int32.reduceLT, Int32.reduceLE, iin_nI, iin_lit, iin_m1, tn_nI, tn_lit, nI_lm, nI_ml, nI_al, nI_la, nI_add, pk_mul, nI_le_l, nI_l_le, nI_lt_l, nI_l_lt, nI_eq_l, nI_l_eq, nI_eqP, nI_leP, nI_ltP, nI_m1, m1_nI, nI_ll, m1_l, l_m1]
end LOST
