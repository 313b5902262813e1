/-! known, record -/
def kn1 (s : St) (p : Nat) : Nat → Int32 × Int32 := fup (fun b a => if s 114 b = nI p ∧ 0 < sal s b then (a.1 + 1, a.2 + wo s (tn (s 115 b)) 5) else a) (0, 0)
def kn2 (s : St) (p : Nat) (so : Bool) : Nat → Int32 := fup (fun r a => a + if s 122 (7 * r + 1) = 1 ∧ s 122 (7 * r + 2) = nI p ∧ decide (s 122 (7 * r + 4) = s 115 (tn (s 122 (7 * r)))) = so then 1 else 0) 0
/-- rows of a box among the first n -/
def cnt (s : St) (b : Nat) : Nat → Nat := fup (fun r a => if s 122 (7 * r) = nI b then a + 1 else a) 0
section ASK3
variable {v c : Nat} {w : cm_W} {s : St}
theorem tn_nIe {k : Nat} (h : k < 2147483648) : tn (nI k) = k := nI_clamp h
theorem kn1_c (s : St) (p n : Nat) (hn : n ≤ 40) : ∃ j, j ≤ n ∧ (kn1 s p n).1 = nI j := by
  induction n with
  | zero => exact ⟨0, by omega, rfl⟩
  | succ n ih =>
    obtain ⟨j, hj, e⟩ := ih (by omega)
    by_cases h : s 114 n = nI p ∧ 0 < sal s n
    · refine ⟨j + 1, by omega, ?_⟩
      show (if _ then _ else _ : Int32 × Int32).1 = _
      rw [if_pos h]
      show (kn1 s p n).1 + 1 = _
      rw [e]; exact nI_1 j
    · refine ⟨j, by omega, ?_⟩
      show (if _ then _ else _ : Int32 × Int32).1 = _
      rw [if_neg h]; exact e
theorem q_known (L : Lay v c w) (M : RelM w s) (C : RelC v w s) (I : Inv s) (i j : Int32) : ∃ r, fn_166 w 2 i j = some r ∧ fn_261 w 96 i j = some r := by
  have hv := L.1
  have V := C.2.2.1
  have hB := I.2.1.2.1
  have hR := I.2.1.2.2.1
  have hM := I.2.1.1
  have hT := I.1.1
  have hP := I.1.2.1
  have sl := sal_le s
  have st : ∀ k, k < nB s → ∃ t, t < nT s ∧ s 115 k = nI t := fun k hk => (I.2.1.2.2.2.2.2.1 k hk).2.1
  have e3 : fn_194 w j (0 : Int32) (3 : Int32) = some (cm_iin j 4) := isIn_lit w j 3 (by decide)
  by_cases h5 : 5 ≤ nM s
  rotate_left
  · have h6 : nM s < 5 := by omega
    refine ⟨-1, ?_, ?_⟩
    · simp (disch := omega) only [fn_166, LC L, LSt L, c146 L V I.2.1, h5, decide_false, Nat.le_refl, Nat.lt_irrefl, some_if, Option.bind_some, Option.bind_none, Option.some.injEq, ↓reduceIte, reduceCtorEq, Bool.false_eq_true, Bool.true_eq_false, not_true_eq_false, not_false_eq_true, cmb0, cmb1, Nat.reduceAdd, Nat.reduceMul, Nat.reduceSub, Nat.add_zero, Bool.not_eq_true, Bool.not_eq_false, Nat.reduceEqDiff, Nat.reduceLeDiff, Nat.reduceLT, Int32.reduceLT, Int32.reduceLE, iin_nI, iin_lit, iin_m1, tn_nI, tn_lit, nI_lm, nI_ml, nI_al, nI_la, nI_add, pk_mul, nI_le_l, nI_l_le, nI_lt_l, nI_l_lt, nI_eq_l, nI_l_eq, nI_eqP, nI_leP, nI_ltP, nI_m1, m1_nI, nI_ll, m1_l, l_m1]
    · cases h : cm_iin i (nP s) <;> simp (disch := omega) only [fn_261, LM L, mWho L M I.1, mAhead L M I.2.1, h, h6, decide_true, Nat.le_refl, Nat.lt_irrefl, some_if, Option.bind_some, Option.bind_none, Option.some.injEq, ↓reduceIte, reduceCtorEq, Bool.false_eq_true, Bool.true_eq_false, not_true_eq_false, not_false_eq_true, cmb0, cmb1, Nat.reduceAdd, Nat.reduceMul, Nat.reduceSub, Nat.add_zero, Bool.not_eq_true, Bool.not_eq_false, Nat.reduceEqDiff, Nat.reduceLeDiff, Nat.reduceLT, Int32.reduceLT, Int32.reduceLE, iin_nI, iin_lit, iin_m1, tn_nI, tn_lit, nI_lm, nI_ml, nI_al, nI_la, nI_add, pk_mul, nI_le_l, nI_l_le, nI_lt_l, nI_l_lt, nI_eq_l, nI_l_eq, nI_eqP, nI_leP, nI_ltP, nI_m1, m1_nI, nI_ll, m1_l, l_m1]
  have h6 : ¬ nM s < 5 := by omega
  rcases iin_cs i (n := nP s) (by omega) with h | ⟨p, hp, rfl⟩
  · refine ⟨-1, ?_, ?_⟩
    · simp (disch := omega) only [fn_166, LC L, LV L hv, hasP L hv C.2.1 I.1, c146 L V I.2.1, h5, h, decide_true, Nat.le_refl, Nat.lt_irrefl, some_if, Option.bind_some, Option.bind_none, Option.some.injEq, ↓reduceIte, reduceCtorEq, Bool.false_eq_true, Bool.true_eq_false, not_true_eq_false, not_false_eq_true, cmb0, cmb1, Nat.reduceAdd, Nat.reduceMul, Nat.reduceSub, Nat.add_zero, Bool.not_eq_true, Bool.not_eq_false, Nat.reduceEqDiff, Nat.reduceLeDiff, Nat.reduceLT, Int32.reduceLT, Int32.reduceLE, iin_nI, iin_lit, iin_m1, tn_nI, tn_lit, nI_lm, nI_ml, nI_al, nI_la, nI_add, pk_mul, nI_le_l, nI_l_le, nI_lt_l, nI_l_lt, nI_eq_l, nI_l_eq, nI_eqP, nI_leP, nI_ltP, nI_m1, m1_nI, nI_ll, m1_l, l_m1]
    · simp (disch := omega) only [fn_261, LM L, mWho L M I.1, h, Nat.le_refl, Nat.lt_irrefl, some_if, Option.bind_some, Option.bind_none, Option.some.injEq, ↓reduceIte, reduceCtorEq, Bool.false_eq_true, Bool.true_eq_false, not_true_eq_false, not_false_eq_true, cmb0, cmb1, Nat.reduceAdd, Nat.reduceMul, Nat.reduceSub, Nat.add_zero, Bool.not_eq_true, Bool.not_eq_false, Nat.reduceEqDiff, Nat.reduceLeDiff, Nat.reduceLT, Int32.reduceLT, Int32.reduceLE, iin_nI, iin_lit, iin_m1, tn_nI, tn_lit, nI_lm, nI_ml, nI_al, nI_la, nI_add, pk_mul, nI_le_l, nI_l_le, nI_lt_l, nI_l_lt, nI_eq_l, nI_l_eq, nI_eqP, nI_leP, nI_ltP, nI_m1, m1_nI, nI_ll, m1_l, l_m1]
  rcases iin_cs j (n := 4) (by omega) with hj | ⟨k, hk, rfl⟩
  · have hj0 : ∀ n : Nat, n < 4 → ¬ j = nI n := fun n hn e => by rw [e, iin_nI hn (by omega)] at hj; cases hj
    have j0 : ¬ j = 0 := hj0 0 (by omega)
    have j1 : ¬ j = 1 := hj0 1 (by omega)
    have j2 : ¬ j = 2 := hj0 2 (by omega)
    have j3 : ¬ j = 3 := hj0 3 (by omega)
    refine ⟨-1, ?_, ?_⟩
    · simp (disch := omega) only [fn_166, fn_166_23, LC L, LV L hv, hasP L hv C.2.1 I.1, c146 L V I.2.1, h5, j0, j1, j2, j3, decide_true, Nat.le_refl, Nat.lt_irrefl, some_if, Option.bind_some, Option.bind_none, Option.some.injEq, ↓reduceIte, reduceCtorEq, Bool.false_eq_true, Bool.true_eq_false, not_true_eq_false, not_false_eq_true, cmb0, cmb1, Nat.reduceAdd, Nat.reduceMul, Nat.reduceSub, Nat.add_zero, Bool.not_eq_true, Bool.not_eq_false, Nat.reduceEqDiff, Nat.reduceLeDiff, Nat.reduceLT, Int32.reduceLT, Int32.reduceLE, iin_nI, iin_lit, iin_m1, tn_nI, tn_lit, nI_lm, nI_ml, nI_al, nI_la, nI_add, pk_mul, nI_le_l, nI_l_le, nI_lt_l, nI_l_lt, nI_eq_l, nI_l_eq, nI_eqP, nI_leP, nI_ltP, nI_m1, m1_nI, nI_ll, m1_l, l_m1]
    · simp (disch := omega) only [fn_261, LM L, mWho L M I.1, mAhead L M I.2.1, h6, e3, hj, decide_false, Nat.le_refl, Nat.lt_irrefl, some_if, Option.bind_some, Option.bind_none, Option.some.injEq, ↓reduceIte, reduceCtorEq, Bool.false_eq_true, Bool.true_eq_false, not_true_eq_false, not_false_eq_true, cmb0, cmb1, Nat.reduceAdd, Nat.reduceMul, Nat.reduceSub, Nat.add_zero, Bool.not_eq_true, Bool.not_eq_false, Nat.reduceEqDiff, Nat.reduceLeDiff, Nat.reduceLT, Int32.reduceLT, Int32.reduceLE, iin_nI, iin_lit, iin_m1, tn_nI, tn_lit, nI_lm, nI_ml, nI_al, nI_la, nI_add, pk_mul, nI_le_l, nI_l_le, nI_lt_l, nI_l_lt, nI_eq_l, nI_l_eq, nI_eqP, nI_leP, nI_ltP, nI_m1, m1_nI, nI_ll, m1_l, l_m1]
  have a1 : fn_261_26 w 96 (nI p) (nI k) = fn_261_92 w 96 (nI p) (nI k) (kn1 s p (nB s)).1 (kn1 s p (nB s)).2 := by
    refine up_0 (fun m k' (a : Int32 × Int32) => fn_261_34 w m 96 (nI p) (nI k) a.1 a.2 (nI k')) (nB s) (fun k a => a = kn1 s p k) (fun o => o = _) (0, 0) (by omega) rfl (fun m b a hb ha => Or.inr ⟨_, rfl, ?_⟩) (fun m a ha => ?_)
    · subst ha
      obtain ⟨t, ht, e⟩ := st b hb
      have := sl b
      simp (disch := omega) only [fn_261_34, fn_261_66, fn_261_86, LM L, RM M, hB.1, m260 L M I.2.1 hb, e, m222 L M (show t < 8 by omega), Nat.le_refl, Nat.lt_irrefl, some_if, Option.bind_some, Option.bind_none, Option.some.injEq, ↓reduceIte, reduceCtorEq, Bool.false_eq_true, Bool.true_eq_false, not_true_eq_false, not_false_eq_true, cmb0, cmb1, Nat.reduceAdd, Nat.reduceMul, Nat.reduceSub, Nat.add_zero, Bool.not_eq_true, Bool.not_eq_false, Nat.reduceEqDiff, Nat.reduceLeDiff, Nat.reduceLT, Int32.reduceLT, Int32.reduceLE, iin_nI, iin_lit, iin_m1, tn_nI, tn_lit, nI_lm, nI_ml, nI_al, nI_la, nI_add, pk_mul, nI_le_l, nI_l_le, nI_lt_l, nI_l_lt, nI_eq_l, nI_l_eq, nI_eqP, nI_leP, nI_ltP, nI_m1, m1_nI, nI_ll, m1_l, l_m1]
      rw [if_neg (by omega)]
      simp only [kn1, fup]
      by_cases q1 : s 114 b = nI p
      · by_cases q2 : 0 < sal s b
        · have q3 : ¬ sal s b = 0 := by omega
          simp (disch := omega) only [q1, q2, q3, e, tn_nIe, and_self, Nat.le_refl, Nat.lt_irrefl, some_if, Option.bind_some, Option.bind_none, Option.some.injEq, ↓reduceIte, reduceCtorEq, Bool.false_eq_true, Bool.true_eq_false, not_true_eq_false, not_false_eq_true, cmb0, cmb1, Nat.reduceAdd, Nat.reduceMul, Nat.reduceSub, Nat.add_zero, Bool.not_eq_true, Bool.not_eq_false, Nat.reduceEqDiff, Nat.reduceLeDiff, Nat.reduceLT, Int32.reduceLT, Int32.reduceLE]
        · have q3 : sal s b = 0 := by omega
          simp (disch := omega) only [q1, q2, q3, and_false, Nat.lt_irrefl, Nat.le_refl, Nat.lt_irrefl, some_if, Option.bind_some, Option.bind_none, Option.some.injEq, ↓reduceIte, reduceCtorEq, Bool.false_eq_true, Bool.true_eq_false, not_true_eq_false, not_false_eq_true, cmb0, cmb1, Nat.reduceAdd, Nat.reduceMul, Nat.reduceSub, Nat.add_zero, Bool.not_eq_true, Bool.not_eq_false, Nat.reduceEqDiff, Nat.reduceLeDiff, Nat.reduceLT, Int32.reduceLT, Int32.reduceLE]
      · simp only [q1, false_and, Nat.le_refl, Nat.lt_irrefl, some_if, Option.bind_some, Option.bind_none, Option.some.injEq, ↓reduceIte, reduceCtorEq, Bool.false_eq_true, Bool.true_eq_false, not_true_eq_false, not_false_eq_true, cmb0, cmb1, Nat.reduceAdd, Nat.reduceMul, Nat.reduceSub, Nat.add_zero, Bool.not_eq_true, Bool.not_eq_false, Nat.reduceEqDiff, Nat.reduceLeDiff, Nat.reduceLT, Int32.reduceLT, Int32.reduceLE]
    · subst ha
      simp (disch := omega) only [fn_261_34, LM L, RM M, hB.1, Nat.le_refl, Nat.lt_irrefl, some_if, Option.bind_some, Option.bind_none, Option.some.injEq, ↓reduceIte, reduceCtorEq, Bool.false_eq_true, Bool.true_eq_false, not_true_eq_false, not_false_eq_true, cmb0, cmb1, Nat.reduceAdd, Nat.reduceMul, Nat.reduceSub, Nat.add_zero, Bool.not_eq_true, Bool.not_eq_false, Nat.reduceEqDiff, Nat.reduceLeDiff, Nat.reduceLT, Int32.reduceLT, Int32.reduceLE, iin_nI, iin_lit, iin_m1, tn_nI, tn_lit, nI_lm, nI_ml, nI_al, nI_la, nI_add, pk_mul, nI_le_l, nI_l_le, nI_lt_l, nI_l_lt, nI_eq_l, nI_l_eq, nI_eqP, nI_leP, nI_ltP, nI_m1, m1_nI, nI_ll, m1_l, l_m1]
  have a2 : ∀ so : Bool, fn_261_122 w 96 (nI p) (if so then 2 else 3) = some (kn2 s p so (nR s)) := by
    intro so
    refine up_f (fun m k' a => fn_261_128 w m 96 (nI p) (if so then 2 else 3) a (nI k')) (nR s) (fun r a => a + if s 122 (7 * r + 1) = 1 ∧ s 122 (7 * r + 2) = nI p ∧ decide (s 122 (7 * r + 4) = s 115 (tn (s 122 (7 * r)))) = so then 1 else 0) 0 _ (by omega) (fun m r a hr => ?_) (fun m => ?_)
    · obtain ⟨b, hb, e⟩ := (I.2.1.2.2.2.2.2.2.2.2.1 r hr).1
      simp (disch := omega) only [fn_261_128, fn_195, LM L, RM M, hR.1, e, tn_nIe, Nat.le_refl, Nat.lt_irrefl, some_if, Option.bind_some, Option.bind_none, Option.some.injEq, ↓reduceIte, reduceCtorEq, Bool.false_eq_true, Bool.true_eq_false, not_true_eq_false, not_false_eq_true, cmb0, cmb1, Nat.reduceAdd, Nat.reduceMul, Nat.reduceSub, Nat.add_zero, Bool.not_eq_true, Bool.not_eq_false, Nat.reduceEqDiff, Nat.reduceLeDiff, Nat.reduceLT, Int32.reduceLT, Int32.reduceLE, iin_nI, iin_lit, iin_m1, tn_nI, tn_lit, nI_lm, nI_ml, nI_al, nI_la, nI_add, pk_mul, nI_le_l, nI_l_le, nI_lt_l, nI_l_lt, nI_eq_l, nI_l_eq, nI_eqP, nI_leP, nI_ltP, nI_m1, m1_nI, nI_ll, m1_l, l_m1]
      rw [if_neg (by omega)]
      by_cases q1 : s 122 (7 * r + 1) = 1
      · by_cases q2 : s 122 (7 * r + 2) = nI p
        · by_cases q3 : s 122 (7 * r + 4) = s 115 b
          · cases so <;> simp (disch := omega) only [q1, q2, q3, decide_true, and_true, true_and, Int32.add_zero, Nat.le_refl, Nat.lt_irrefl, some_if, Option.bind_some, Option.bind_none, Option.some.injEq, ↓reduceIte, reduceCtorEq, Bool.false_eq_true, Bool.true_eq_false, not_true_eq_false, not_false_eq_true, cmb0, cmb1, Nat.reduceAdd, Nat.reduceMul, Nat.reduceSub, Nat.add_zero, Bool.not_eq_true, Bool.not_eq_false, Nat.reduceEqDiff, Nat.reduceLeDiff, Nat.reduceLT, Int32.reduceLT, Int32.reduceLE, iin_nI, iin_lit, iin_m1, tn_nI, tn_lit, nI_lm, nI_ml, nI_al, nI_la, nI_add, pk_mul, nI_le_l, nI_l_le, nI_lt_l, nI_l_lt, nI_eq_l, nI_l_eq, nI_eqP, nI_leP, nI_ltP, nI_m1, m1_nI, nI_ll, m1_l, l_m1]
          · cases so <;> simp (disch := omega) only [q1, q2, q3, decide_false, and_true, true_and, Int32.add_zero, Nat.le_refl, Nat.lt_irrefl, some_if, Option.bind_some, Option.bind_none, Option.some.injEq, ↓reduceIte, reduceCtorEq, Bool.false_eq_true, Bool.true_eq_false, not_true_eq_false, not_false_eq_true, cmb0, cmb1, Nat.reduceAdd, Nat.reduceMul, Nat.reduceSub, Nat.add_zero, Bool.not_eq_true, Bool.not_eq_false, Nat.reduceEqDiff, Nat.reduceLeDiff, Nat.reduceLT, Int32.reduceLT, Int32.reduceLE, iin_nI, iin_lit, iin_m1, tn_nI, tn_lit, nI_lm, nI_ml, nI_al, nI_la, nI_add, pk_mul, nI_le_l, nI_l_le, nI_lt_l, nI_l_lt, nI_eq_l, nI_l_eq, nI_eqP, nI_leP, nI_ltP, nI_m1, m1_nI, nI_ll, m1_l, l_m1]
        · simp (disch := omega) only [q1, q2, false_and, and_false, Int32.add_zero, Nat.le_refl, Nat.lt_irrefl, some_if, Option.bind_some, Option.bind_none, Option.some.injEq, ↓reduceIte, reduceCtorEq, Bool.false_eq_true, Bool.true_eq_false, not_true_eq_false, not_false_eq_true, cmb0, cmb1, Nat.reduceAdd, Nat.reduceMul, Nat.reduceSub, Nat.add_zero, Bool.not_eq_true, Bool.not_eq_false, Nat.reduceEqDiff, Nat.reduceLeDiff, Nat.reduceLT, Int32.reduceLT, Int32.reduceLE, iin_nI, iin_lit, iin_m1, tn_nI, tn_lit, nI_lm, nI_ml, nI_al, nI_la, nI_add, pk_mul, nI_le_l, nI_l_le, nI_lt_l, nI_l_lt, nI_eq_l, nI_l_eq, nI_eqP, nI_leP, nI_ltP, nI_m1, m1_nI, nI_ll, m1_l, l_m1]
      · simp (disch := omega) only [q1, false_and, Int32.add_zero, Nat.le_refl, Nat.lt_irrefl, some_if, Option.bind_some, Option.bind_none, Option.some.injEq, ↓reduceIte, reduceCtorEq, Bool.false_eq_true, Bool.true_eq_false, not_true_eq_false, not_false_eq_true, cmb0, cmb1, Nat.reduceAdd, Nat.reduceMul, Nat.reduceSub, Nat.add_zero, Bool.not_eq_true, Bool.not_eq_false, Nat.reduceEqDiff, Nat.reduceLeDiff, Nat.reduceLT, Int32.reduceLT, Int32.reduceLE, iin_nI, iin_lit, iin_m1, tn_nI, tn_lit, nI_lm, nI_ml, nI_al, nI_la, nI_add, pk_mul, nI_le_l, nI_l_le, nI_lt_l, nI_l_lt, nI_eq_l, nI_l_eq, nI_eqP, nI_leP, nI_ltP, nI_m1, m1_nI, nI_ll, m1_l, l_m1]
    · simp (disch := omega) only [fn_261_128, LM L, RM M, hR.1, Nat.le_refl, Nat.lt_irrefl, some_if, Option.bind_some, Option.bind_none, Option.some.injEq, ↓reduceIte, reduceCtorEq, Bool.false_eq_true, Bool.true_eq_false, not_true_eq_false, not_false_eq_true, cmb0, cmb1, Nat.reduceAdd, Nat.reduceMul, Nat.reduceSub, Nat.add_zero, Bool.not_eq_true, Bool.not_eq_false, Nat.reduceEqDiff, Nat.reduceLeDiff, Nat.reduceLT, Int32.reduceLT, Int32.reduceLE, iin_nI, iin_lit, iin_m1, tn_nI, tn_lit, nI_lm, nI_ml, nI_al, nI_la, nI_add, pk_mul, nI_le_l, nI_l_le, nI_lt_l, nI_l_lt, nI_eq_l, nI_l_eq, nI_eqP, nI_leP, nI_ltP, nI_m1, m1_nI, nI_ll, m1_l, l_m1]
      rfl
  have b2 : ∀ so : Bool, fn_120 w 30 (nI p) (if so then 1 else 0) = some (kn2 s p so (nR s)) := by
    intro so
    refine up_f (fun m k' a => fn_120_5 w m 30 (nI p) (if so then 1 else 0) a (nI k')) (nR s) (fun r a => a + if s 122 (7 * r + 1) = 1 ∧ s 122 (7 * r + 2) = nI p ∧ decide (s 122 (7 * r + 4) = s 115 (tn (s 122 (7 * r)))) = so then 1 else 0) 0 _ (by omega) (fun m r a hr => ?_) (fun m => ?_)
    · obtain ⟨b, hb, e⟩ := (I.2.1.2.2.2.2.2.2.2.2.1 r hr).1
      simp (disch := omega) only [fn_120_5, fn_120_97, LSt L, V.1, hR.1, getR L V I.2.1 hr, rcl, e, getB L V I.2.1 hb, tn_nIe, Nat.le_refl, Nat.lt_irrefl, some_if, Option.bind_some, Option.bind_none, Option.some.injEq, ↓reduceIte, reduceCtorEq, Bool.false_eq_true, Bool.true_eq_false, not_true_eq_false, not_false_eq_true, cmb0, cmb1, Nat.reduceAdd, Nat.reduceMul, Nat.reduceSub, Nat.add_zero, Bool.not_eq_true, Bool.not_eq_false, Nat.reduceEqDiff, Nat.reduceLeDiff, Nat.reduceLT, Int32.reduceLT, Int32.reduceLE, iin_nI, iin_lit, iin_m1, tn_nI, tn_lit, nI_lm, nI_ml, nI_al, nI_la, nI_add, pk_mul, nI_le_l, nI_l_le, nI_lt_l, nI_l_lt, nI_eq_l, nI_l_eq, nI_eqP, nI_leP, nI_ltP, nI_m1, m1_nI, nI_ll, m1_l, l_m1]
      rw [if_neg (by omega)]
      by_cases q1 : s 122 (7 * r + 1) = 1
      · by_cases q2 : s 122 (7 * r + 2) = nI p
        · by_cases q3 : s 122 (7 * r + 4) = s 115 b
          · cases so <;> simp (disch := omega) only [q1, q2, q3, decide_true, and_true, true_and, Int32.add_zero, Nat.le_refl, Nat.lt_irrefl, some_if, Option.bind_some, Option.bind_none, Option.some.injEq, ↓reduceIte, reduceCtorEq, Bool.false_eq_true, Bool.true_eq_false, not_true_eq_false, not_false_eq_true, cmb0, cmb1, Nat.reduceAdd, Nat.reduceMul, Nat.reduceSub, Nat.add_zero, Bool.not_eq_true, Bool.not_eq_false, Nat.reduceEqDiff, Nat.reduceLeDiff, Nat.reduceLT, Int32.reduceLT, Int32.reduceLE, iin_nI, iin_lit, iin_m1, tn_nI, tn_lit, nI_lm, nI_ml, nI_al, nI_la, nI_add, pk_mul, nI_le_l, nI_l_le, nI_lt_l, nI_l_lt, nI_eq_l, nI_l_eq, nI_eqP, nI_leP, nI_ltP, nI_m1, m1_nI, nI_ll, m1_l, l_m1]
          · cases so <;> simp (disch := omega) only [q1, q2, q3, decide_false, and_true, true_and, Int32.add_zero, Nat.le_refl, Nat.lt_irrefl, some_if, Option.bind_some, Option.bind_none, Option.some.injEq, ↓reduceIte, reduceCtorEq, Bool.false_eq_true, Bool.true_eq_false, not_true_eq_false, not_false_eq_true, cmb0, cmb1, Nat.reduceAdd, Nat.reduceMul, Nat.reduceSub, Nat.add_zero, Bool.not_eq_true, Bool.not_eq_false, Nat.reduceEqDiff, Nat.reduceLeDiff, Nat.reduceLT, Int32.reduceLT, Int32.reduceLE, iin_nI, iin_lit, iin_m1, tn_nI, tn_lit, nI_lm, nI_ml, nI_al, nI_la, nI_add, pk_mul, nI_le_l, nI_l_le, nI_lt_l, nI_l_lt, nI_eq_l, nI_l_eq, nI_eqP, nI_leP, nI_ltP, nI_m1, m1_nI, nI_ll, m1_l, l_m1]
        · simp (disch := omega) only [q1, q2, false_and, and_false, Int32.add_zero, Nat.le_refl, Nat.lt_irrefl, some_if, Option.bind_some, Option.bind_none, Option.some.injEq, ↓reduceIte, reduceCtorEq, Bool.false_eq_true, Bool.true_eq_false, not_true_eq_false, not_false_eq_true, cmb0, cmb1, Nat.reduceAdd, Nat.reduceMul, Nat.reduceSub, Nat.add_zero, Bool.not_eq_true, Bool.not_eq_false, Nat.reduceEqDiff, Nat.reduceLeDiff, Nat.reduceLT, Int32.reduceLT, Int32.reduceLE, iin_nI, iin_lit, iin_m1, tn_nI, tn_lit, nI_lm, nI_ml, nI_al, nI_la, nI_add, pk_mul, nI_le_l, nI_l_le, nI_lt_l, nI_l_lt, nI_eq_l, nI_l_eq, nI_eqP, nI_leP, nI_ltP, nI_m1, m1_nI, nI_ll, m1_l, l_m1]
      · simp (disch := omega) only [q1, false_and, Int32.add_zero, Nat.le_refl, Nat.lt_irrefl, some_if, Option.bind_some, Option.bind_none, Option.some.injEq, ↓reduceIte, reduceCtorEq, Bool.false_eq_true, Bool.true_eq_false, not_true_eq_false, not_false_eq_true, cmb0, cmb1, Nat.reduceAdd, Nat.reduceMul, Nat.reduceSub, Nat.add_zero, Bool.not_eq_true, Bool.not_eq_false, Nat.reduceEqDiff, Nat.reduceLeDiff, Nat.reduceLT, Int32.reduceLT, Int32.reduceLE, iin_nI, iin_lit, iin_m1, tn_nI, tn_lit, nI_lm, nI_ml, nI_al, nI_la, nI_add, pk_mul, nI_le_l, nI_l_le, nI_lt_l, nI_l_lt, nI_eq_l, nI_l_eq, nI_eqP, nI_leP, nI_ltP, nI_m1, m1_nI, nI_ll, m1_l, l_m1]
    · simp (disch := omega) only [fn_120_5, ↓LStb L, LSt L, V.1, hR.1, Nat.le_refl, Nat.lt_irrefl, some_if, Option.bind_some, Option.bind_none, Option.some.injEq, ↓reduceIte, reduceCtorEq, Bool.false_eq_true, Bool.true_eq_false, not_true_eq_false, not_false_eq_true, cmb0, cmb1, Nat.reduceAdd, Nat.reduceMul, Nat.reduceSub, Nat.add_zero, Bool.not_eq_true, Bool.not_eq_false, Nat.reduceEqDiff, Nat.reduceLeDiff, Nat.reduceLT, Int32.reduceLT, Int32.reduceLE, iin_nI, iin_lit, iin_m1, tn_nI, tn_lit, nI_lm, nI_ml, nI_al, nI_la, nI_add, pk_mul, nI_le_l, nI_l_le, nI_lt_l, nI_l_lt, nI_eq_l, nI_l_eq, nI_eqP, nI_leP, nI_ltP, nI_m1, m1_nI, nI_ll, m1_l, l_m1]
      rfl
  have b1 : fn_119 w 30 (nI p) = some (kn1 s p (nB s)).1 := by
    refine up_0 (fun m k' (a : Int32) => fn_119_4 w m 30 (nI p) a (nI k')) (nB s) (fun k a => a = (kn1 s p k).1) (fun o => o = _) 0 (by omega) rfl (fun m b a hb ha => Or.inr ⟨_, rfl, ?_⟩) (fun m a ha => ?_)
    · subst ha
      have := sl b
      simp (disch := omega) only [fn_119_4, LSt L, V.1, hB.1, getB L V I.2.1 hb, c28 L V I.2.1 hb, kn1, fup, Nat.le_refl, Nat.lt_irrefl, some_if, Option.bind_some, Option.bind_none, Option.some.injEq, ↓reduceIte, reduceCtorEq, Bool.false_eq_true, Bool.true_eq_false, not_true_eq_false, not_false_eq_true, cmb0, cmb1, Nat.reduceAdd, Nat.reduceMul, Nat.reduceSub, Nat.add_zero, Bool.not_eq_true, Bool.not_eq_false, Nat.reduceEqDiff, Nat.reduceLeDiff, Nat.reduceLT, Int32.reduceLT, Int32.reduceLE, iin_nI, iin_lit, iin_m1, tn_nI, tn_lit, nI_lm, nI_ml, nI_al, nI_la, nI_add, pk_mul, nI_le_l, nI_l_le, nI_lt_l, nI_l_lt, nI_eq_l, nI_l_eq, nI_eqP, nI_leP, nI_ltP, nI_m1, m1_nI, nI_ll, m1_l, l_m1]
      rw [if_neg (by omega)]
      by_cases q1 : s 114 b = nI p
      · by_cases q2 : 0 < sal s b
        · have q3 : ¬ sal s b ≤ 0 := by omega
          simp (disch := omega) only [q1, q2, q3, and_self, Nat.le_refl, Nat.lt_irrefl, some_if, Option.bind_some, Option.bind_none, Option.some.injEq, ↓reduceIte, reduceCtorEq, Bool.false_eq_true, Bool.true_eq_false, not_true_eq_false, not_false_eq_true, cmb0, cmb1, Nat.reduceAdd, Nat.reduceMul, Nat.reduceSub, Nat.add_zero, Bool.not_eq_true, Bool.not_eq_false, Nat.reduceEqDiff, Nat.reduceLeDiff, Nat.reduceLT, Int32.reduceLT, Int32.reduceLE]
        · have q3 : sal s b ≤ 0 := by omega
          simp (disch := omega) only [q1, q2, q3, and_false, Int32.add_zero, Nat.le_refl, Nat.lt_irrefl, some_if, Option.bind_some, Option.bind_none, Option.some.injEq, ↓reduceIte, reduceCtorEq, Bool.false_eq_true, Bool.true_eq_false, not_true_eq_false, not_false_eq_true, cmb0, cmb1, Nat.reduceAdd, Nat.reduceMul, Nat.reduceSub, Nat.add_zero, Bool.not_eq_true, Bool.not_eq_false, Nat.reduceEqDiff, Nat.reduceLeDiff, Nat.reduceLT, Int32.reduceLT, Int32.reduceLE]
      · simp only [q1, false_and, Int32.add_zero, Nat.le_refl, Nat.lt_irrefl, some_if, Option.bind_some, Option.bind_none, Option.some.injEq, ↓reduceIte, reduceCtorEq, Bool.false_eq_true, Bool.true_eq_false, not_true_eq_false, not_false_eq_true, cmb0, cmb1, Nat.reduceAdd, Nat.reduceMul, Nat.reduceSub, Nat.add_zero, Bool.not_eq_true, Bool.not_eq_false, Nat.reduceEqDiff, Nat.reduceLeDiff, Nat.reduceLT, Int32.reduceLT, Int32.reduceLE]
    · subst ha
      simp (disch := omega) only [fn_119_4, LSt L, V.1, hB.1, Nat.le_refl, Nat.lt_irrefl, some_if, Option.bind_some, Option.bind_none, Option.some.injEq, ↓reduceIte, reduceCtorEq, Bool.false_eq_true, Bool.true_eq_false, not_true_eq_false, not_false_eq_true, cmb0, cmb1, Nat.reduceAdd, Nat.reduceMul, Nat.reduceSub, Nat.add_zero, Bool.not_eq_true, Bool.not_eq_false, Nat.reduceEqDiff, Nat.reduceLeDiff, Nat.reduceLT, Int32.reduceLT, Int32.reduceLE, iin_nI, iin_lit, iin_m1, tn_nI, tn_lit, nI_lm, nI_ml, nI_al, nI_la, nI_add, pk_mul, nI_le_l, nI_l_le, nI_lt_l, nI_l_lt, nI_eq_l, nI_l_eq, nI_eqP, nI_leP, nI_ltP, nI_m1, m1_nI, nI_ll, m1_l, l_m1]
  have b0 : fn_29 w 46 v 30 (nI p) = fn_29_73 w (kn1 s p (nB s)).1 (kn1 s p (nB s)).2 := by
    refine up_0 (fun m k' (a : Int32 × Int32) => fn_29_9 w m v 30 (nI p) a.1 a.2 (nI k')) (nB s) (fun k a => a = kn1 s p k) (fun o => o = _) (0, 0) (by omega) rfl (fun m b a hb ha => Or.inr ⟨_, rfl, ?_⟩) (fun m a ha => ?_)
    · subst ha
      obtain ⟨t, ht, e⟩ := st b hb
      have := sl b
      simp (disch := omega) only [fn_29_9, fn_29_67, LSt L, LV L hv, V.1, hB.1, getB L V I.2.1 hb, c28 L V I.2.1 hb, e, c6i L hv C.2.1 I.1 ht, Nat.le_refl, Nat.lt_irrefl, some_if, Option.bind_some, Option.bind_none, Option.some.injEq, ↓reduceIte, reduceCtorEq, Bool.false_eq_true, Bool.true_eq_false, not_true_eq_false, not_false_eq_true, cmb0, cmb1, Nat.reduceAdd, Nat.reduceMul, Nat.reduceSub, Nat.add_zero, Bool.not_eq_true, Bool.not_eq_false, Nat.reduceEqDiff, Nat.reduceLeDiff, Nat.reduceLT, Int32.reduceLT, Int32.reduceLE, iin_nI, iin_lit, iin_m1, tn_nI, tn_lit, nI_lm, nI_ml, nI_al, nI_la, nI_add, pk_mul, nI_le_l, nI_l_le, nI_lt_l, nI_l_lt, nI_eq_l, nI_l_eq, nI_eqP, nI_leP, nI_ltP, nI_m1, m1_nI, nI_ll, m1_l, l_m1]
      rw [if_neg (by omega)]
      simp only [kn1, fup]
      by_cases q1 : s 114 b = nI p
      · by_cases q2 : 0 < sal s b
        · have q3 : ¬ sal s b ≤ 0 := by omega
          simp (disch := omega) only [q1, q2, q3, e, tn_nIe, and_self, Nat.le_refl, Nat.lt_irrefl, some_if, Option.bind_some, Option.bind_none, Option.some.injEq, ↓reduceIte, reduceCtorEq, Bool.false_eq_true, Bool.true_eq_false, not_true_eq_false, not_false_eq_true, cmb0, cmb1, Nat.reduceAdd, Nat.reduceMul, Nat.reduceSub, Nat.add_zero, Bool.not_eq_true, Bool.not_eq_false, Nat.reduceEqDiff, Nat.reduceLeDiff, Nat.reduceLT, Int32.reduceLT, Int32.reduceLE]
        · have q3 : sal s b ≤ 0 := by omega
          simp (disch := omega) only [q1, q2, q3, and_false, Nat.le_refl, Nat.lt_irrefl, some_if, Option.bind_some, Option.bind_none, Option.some.injEq, ↓reduceIte, reduceCtorEq, Bool.false_eq_true, Bool.true_eq_false, not_true_eq_false, not_false_eq_true, cmb0, cmb1, Nat.reduceAdd, Nat.reduceMul, Nat.reduceSub, Nat.add_zero, Bool.not_eq_true, Bool.not_eq_false, Nat.reduceEqDiff, Nat.reduceLeDiff, Nat.reduceLT, Int32.reduceLT, Int32.reduceLE]
      · simp only [q1, false_and, Nat.le_refl, Nat.lt_irrefl, some_if, Option.bind_some, Option.bind_none, Option.some.injEq, ↓reduceIte, reduceCtorEq, Bool.false_eq_true, Bool.true_eq_false, not_true_eq_false, not_false_eq_true, cmb0, cmb1, Nat.reduceAdd, Nat.reduceMul, Nat.reduceSub, Nat.add_zero, Bool.not_eq_true, Bool.not_eq_false, Nat.reduceEqDiff, Nat.reduceLeDiff, Nat.reduceLT, Int32.reduceLT, Int32.reduceLE]
    · subst ha
      simp (disch := omega) only [fn_29_9, LSt L, V.1, hB.1, Nat.le_refl, Nat.lt_irrefl, some_if, Option.bind_some, Option.bind_none, Option.some.injEq, ↓reduceIte, reduceCtorEq, Bool.false_eq_true, Bool.true_eq_false, not_true_eq_false, not_false_eq_true, cmb0, cmb1, Nat.reduceAdd, Nat.reduceMul, Nat.reduceSub, Nat.add_zero, Bool.not_eq_true, Bool.not_eq_false, Nat.reduceEqDiff, Nat.reduceLeDiff, Nat.reduceLT, Int32.reduceLT, Int32.reduceLE, iin_nI, iin_lit, iin_m1, tn_nI, tn_lit, nI_lm, nI_ml, nI_al, nI_la, nI_add, pk_mul, nI_le_l, nI_l_le, nI_lt_l, nI_l_lt, nI_eq_l, nI_l_eq, nI_eqP, nI_leP, nI_ltP, nI_m1, m1_nI, nI_ll, m1_l, l_m1]
  have mk : fn_261 w 96 (nI p) (nI k) = fn_261_92 w 96 (nI p) (nI k) (kn1 s p (nB s)).1 (kn1 s p (nB s)).2 := by
    simp (disch := omega) only [fn_261, LM L, mWho L M I.1, mAhead L M I.2.1, h6, e3, a1, decide_false, Nat.le_refl, Nat.lt_irrefl, some_if, Option.bind_some, Option.bind_none, Option.some.injEq, ↓reduceIte, reduceCtorEq, Bool.false_eq_true, Bool.true_eq_false, not_true_eq_false, not_false_eq_true, cmb0, cmb1, Nat.reduceAdd, Nat.reduceMul, Nat.reduceSub, Nat.add_zero, Bool.not_eq_true, Bool.not_eq_false, Nat.reduceEqDiff, Nat.reduceLeDiff, Nat.reduceLT, Int32.reduceLT, Int32.reduceLE, iin_nI, iin_lit, iin_m1, tn_nI, tn_lit, nI_lm, nI_ml, nI_al, nI_la, nI_add, pk_mul, nI_le_l, nI_l_le, nI_lt_l, nI_l_lt, nI_eq_l, nI_l_eq, nI_eqP, nI_leP, nI_ltP, nI_m1, m1_nI, nI_ll, m1_l, l_m1]
  have ck : fn_166 w 2 (nI p) (nI k) = fn_166_23 w 2 (nI p) (nI k) := by
    simp (disch := omega) only [fn_166, LC L, LV L hv, hasP L hv C.2.1 I.1, c146 L V I.2.1, h5, decide_true, Nat.le_refl, Nat.lt_irrefl, some_if, Option.bind_some, Option.bind_none, Option.some.injEq, ↓reduceIte, reduceCtorEq, Bool.false_eq_true, Bool.true_eq_false, not_true_eq_false, not_false_eq_true, cmb0, cmb1, Nat.reduceAdd, Nat.reduceMul, Nat.reduceSub, Nat.add_zero, Bool.not_eq_true, Bool.not_eq_false, Nat.reduceEqDiff, Nat.reduceLeDiff, Nat.reduceLT, Int32.reduceLT, Int32.reduceLE, iin_nI, iin_lit, iin_m1, tn_nI, tn_lit, nI_lm, nI_ml, nI_al, nI_la, nI_add, pk_mul, nI_le_l, nI_l_le, nI_lt_l, nI_l_lt, nI_eq_l, nI_l_eq, nI_eqP, nI_leP, nI_ltP, nI_m1, m1_nI, nI_ll, m1_l, l_m1]
  rw [mk, ck]
  have z2 := a2 true
  have z3 := a2 false
  have y2 := b2 true
  have y3 := b2 false
  simp only [Bool.false_eq_true, ↓reduceIte] at z2 z3 y2 y3
  rcases (show k = 0 ∨ k = 1 ∨ k = 2 ∨ k = 3 by omega) with rfl | rfl | rfl | rfl
  · obtain ⟨n, hn, e⟩ := kn1_c s p (nB s) hB.2
    by_cases hn0 : n = 0
    · refine ⟨-1, ?_, ?_⟩
      · simp (disch := omega) only [fn_166_23, fn_29_73, LC L, b0, e, hn0, Nat.le_refl, Nat.lt_irrefl, some_if, Option.bind_some, Option.bind_none, Option.some.injEq, ↓reduceIte, reduceCtorEq, Bool.false_eq_true, Bool.true_eq_false, not_true_eq_false, not_false_eq_true, cmb0, cmb1, Nat.reduceAdd, Nat.reduceMul, Nat.reduceSub, Nat.add_zero, Bool.not_eq_true, Bool.not_eq_false, Nat.reduceEqDiff, Nat.reduceLeDiff, Nat.reduceLT, Int32.reduceLT, Int32.reduceLE, iin_nI, iin_lit, iin_m1, tn_nI, tn_lit, nI_lm, nI_ml, nI_al, nI_la, nI_add, pk_mul, nI_le_l, nI_l_le, nI_lt_l, nI_l_lt, nI_eq_l, nI_l_eq, nI_eqP, nI_leP, nI_ltP, nI_m1, m1_nI, nI_ll, m1_l, l_m1]
      · simp (disch := omega) only [fn_261_92, fn_261_106, e, hn0, Nat.le_refl, Nat.lt_irrefl, some_if, Option.bind_some, Option.bind_none, Option.some.injEq, ↓reduceIte, reduceCtorEq, Bool.false_eq_true, Bool.true_eq_false, not_true_eq_false, not_false_eq_true, cmb0, cmb1, Nat.reduceAdd, Nat.reduceMul, Nat.reduceSub, Nat.add_zero, Bool.not_eq_true, Bool.not_eq_false, Nat.reduceEqDiff, Nat.reduceLeDiff, Nat.reduceLT, Int32.reduceLT, Int32.reduceLE, iin_nI, iin_lit, iin_m1, tn_nI, tn_lit, nI_lm, nI_ml, nI_al, nI_la, nI_add, pk_mul, nI_le_l, nI_l_le, nI_lt_l, nI_l_lt, nI_eq_l, nI_l_eq, nI_eqP, nI_leP, nI_ltP, nI_m1, m1_nI, nI_ll, m1_l, l_m1]
    · refine ⟨100 * (kn1 s p (nB s)).2 / nI n, ?_, ?_⟩
      · simp (disch := omega) only [fn_166_23, fn_29_73, fn_29_82, LC L, b0, e, hn0, Int32.mul_comm (kn1 s p (nB s)).2 100, Nat.le_refl, Nat.lt_irrefl, some_if, Option.bind_some, Option.bind_none, Option.some.injEq, ↓reduceIte, reduceCtorEq, Bool.false_eq_true, Bool.true_eq_false, not_true_eq_false, not_false_eq_true, cmb0, cmb1, Nat.reduceAdd, Nat.reduceMul, Nat.reduceSub, Nat.add_zero, Bool.not_eq_true, Bool.not_eq_false, Nat.reduceEqDiff, Nat.reduceLeDiff, Nat.reduceLT, Int32.reduceLT, Int32.reduceLE, iin_nI, iin_lit, iin_m1, tn_nI, tn_lit, nI_lm, nI_ml, nI_al, nI_la, nI_add, pk_mul, nI_le_l, nI_l_le, nI_lt_l, nI_l_lt, nI_eq_l, nI_l_eq, nI_eqP, nI_leP, nI_ltP, nI_m1, m1_nI, nI_ll, m1_l, l_m1]
      · simp (disch := omega) only [fn_261_92, fn_261_106, fn_261_114, e, hn0, Nat.le_refl, Nat.lt_irrefl, some_if, Option.bind_some, Option.bind_none, Option.some.injEq, ↓reduceIte, reduceCtorEq, Bool.false_eq_true, Bool.true_eq_false, not_true_eq_false, not_false_eq_true, cmb0, cmb1, Nat.reduceAdd, Nat.reduceMul, Nat.reduceSub, Nat.add_zero, Bool.not_eq_true, Bool.not_eq_false, Nat.reduceEqDiff, Nat.reduceLeDiff, Nat.reduceLT, Int32.reduceLT, Int32.reduceLE, iin_nI, iin_lit, iin_m1, tn_nI, tn_lit, nI_lm, nI_ml, nI_al, nI_la, nI_add, pk_mul, nI_le_l, nI_l_le, nI_lt_l, nI_l_lt, nI_eq_l, nI_l_eq, nI_eqP, nI_leP, nI_ltP, nI_m1, m1_nI, nI_ll, m1_l, l_m1]
  · refine ⟨(kn1 s p (nB s)).1, ?_, ?_⟩
    · simp (disch := omega) only [fn_166_23, fn_166_73, LC L, LSt L, b1, Nat.le_refl, Nat.lt_irrefl, some_if, Option.bind_some, Option.bind_none, Option.some.injEq, ↓reduceIte, reduceCtorEq, Bool.false_eq_true, Bool.true_eq_false, not_true_eq_false, not_false_eq_true, cmb0, cmb1, Nat.reduceAdd, Nat.reduceMul, Nat.reduceSub, Nat.add_zero, Bool.not_eq_true, Bool.not_eq_false, Nat.reduceEqDiff, Nat.reduceLeDiff, Nat.reduceLT, Int32.reduceLT, Int32.reduceLE, iin_nI, iin_lit, iin_m1, tn_nI, tn_lit, nI_lm, nI_ml, nI_al, nI_la, nI_add, pk_mul, nI_le_l, nI_l_le, nI_lt_l, nI_l_lt, nI_eq_l, nI_l_eq, nI_eqP, nI_leP, nI_ltP, nI_m1, m1_nI, nI_ll, m1_l, l_m1]
    · simp (disch := omega) only [fn_261_92, Nat.le_refl, Nat.lt_irrefl, some_if, Option.bind_some, Option.bind_none, Option.some.injEq, ↓reduceIte, reduceCtorEq, Bool.false_eq_true, Bool.true_eq_false, not_true_eq_false, not_false_eq_true, cmb0, cmb1, Nat.reduceAdd, Nat.reduceMul, Nat.reduceSub, Nat.add_zero, Bool.not_eq_true, Bool.not_eq_false, Nat.reduceEqDiff, Nat.reduceLeDiff, Nat.reduceLT, Int32.reduceLT, Int32.reduceLE, iin_nI, iin_lit, iin_m1, tn_nI, tn_lit, nI_lm, nI_ml, nI_al, nI_la, nI_add, pk_mul, nI_le_l, nI_l_le, nI_lt_l, nI_l_lt, nI_eq_l, nI_l_eq, nI_eqP, nI_leP, nI_ltP, nI_m1, m1_nI, nI_ll, m1_l, l_m1]
  · refine ⟨kn2 s p true (nR s), ?_, ?_⟩
    · simp (disch := omega) only [fn_166_23, fn_166_82, LC L, LSt L, y2, Nat.le_refl, Nat.lt_irrefl, some_if, Option.bind_some, Option.bind_none, Option.some.injEq, ↓reduceIte, reduceCtorEq, Bool.false_eq_true, Bool.true_eq_false, not_true_eq_false, not_false_eq_true, cmb0, cmb1, Nat.reduceAdd, Nat.reduceMul, Nat.reduceSub, Nat.add_zero, Bool.not_eq_true, Bool.not_eq_false, Nat.reduceEqDiff, Nat.reduceLeDiff, Nat.reduceLT, Int32.reduceLT, Int32.reduceLE, iin_nI, iin_lit, iin_m1, tn_nI, tn_lit, nI_lm, nI_ml, nI_al, nI_la, nI_add, pk_mul, nI_le_l, nI_l_le, nI_lt_l, nI_l_lt, nI_eq_l, nI_l_eq, nI_eqP, nI_leP, nI_ltP, nI_m1, m1_nI, nI_ll, m1_l, l_m1]
    · simp (disch := omega) only [fn_261_92, Nat.le_refl, Nat.lt_irrefl, some_if, Option.bind_some, Option.bind_none, Option.some.injEq, ↓reduceIte, reduceCtorEq, Bool.false_eq_true, Bool.true_eq_false, not_true_eq_false, not_false_eq_true, cmb0, cmb1, Nat.reduceAdd, Nat.reduceMul, Nat.reduceSub, Nat.add_zero, Bool.not_eq_true, Bool.not_eq_false, Nat.reduceEqDiff, Nat.reduceLeDiff, Nat.reduceLT, Int32.reduceLT, Int32.reduceLE, iin_nI, iin_lit, iin_m1, tn_nI, tn_lit, nI_lm, nI_ml, nI_al, nI_la, nI_add, pk_mul, nI_le_l, nI_l_le, nI_lt_l, nI_l_lt, nI_eq_l, nI_l_eq, nI_eqP, nI_leP, nI_ltP, nI_m1, m1_nI, nI_ll, m1_l, l_m1]
      exact z2
  · refine ⟨kn2 s p false (nR s), ?_, ?_⟩
    · simp (disch := omega) only [fn_166_23, fn_166_92, LC L, LSt L, y3, Nat.le_refl, Nat.lt_irrefl, some_if, Option.bind_some, Option.bind_none, Option.some.injEq, ↓reduceIte, reduceCtorEq, Bool.false_eq_true, Bool.true_eq_false, not_true_eq_false, not_false_eq_true, cmb0, cmb1, Nat.reduceAdd, Nat.reduceMul, Nat.reduceSub, Nat.add_zero, Bool.not_eq_true, Bool.not_eq_false, Nat.reduceEqDiff, Nat.reduceLeDiff, Nat.reduceLT, Int32.reduceLT, Int32.reduceLE, iin_nI, iin_lit, iin_m1, tn_nI, tn_lit, nI_lm, nI_ml, nI_al, nI_la, nI_add, pk_mul, nI_le_l, nI_l_le, nI_lt_l, nI_l_lt, nI_eq_l, nI_l_eq, nI_eqP, nI_leP, nI_ltP, nI_m1, m1_nI, nI_ll, m1_l, l_m1]
    · simp (disch := omega) only [fn_261_92, Nat.le_refl, Nat.lt_irrefl, some_if, Option.bind_some, Option.bind_none, Option.some.injEq, ↓reduceIte, reduceCtorEq, Bool.false_eq_true, Bool.true_eq_false, not_true_eq_false, not_false_eq_true, cmb0, cmb1, Nat.reduceAdd, Nat.reduceMul, Nat.reduceSub, Nat.add_zero, Bool.not_eq_true, Bool.not_eq_false, Nat.reduceEqDiff, Nat.reduceLeDiff, Nat.reduceLT, Int32.reduceLT, Int32.reduceLE, iin_nI, iin_lit, iin_m1, tn_nI, tn_lit, nI_lm, nI_ml, nI_al, nI_la, nI_add, pk_mul, nI_le_l, nI_l_le, nI_lt_l, nI_l_lt, nI_eq_l, nI_l_eq, nI_eqP, nI_leP, nI_ltP, nI_m1, m1_nI, nI_ll, m1_l, l_m1]
      exact z3
theorem cnt_up (s : St) (b n : Nat) : cnt s b n ≤ cnt s b (n + 1) := by
  show _ ≤ (if s 122 (7 * n) = nI b then cnt s b n + 1 else cnt s b n)
  split <;> omega
theorem cnt_mono (s : St) (b : Nat) {m n : Nat} (h : m ≤ n) : cnt s b m ≤ cnt s b n := by
  induction n with
  | zero => have : m = 0 := by omega
            subst this; exact Nat.le_refl _
  | succ n ih =>
    by_cases e : m = n + 1
    · subst e; exact Nat.le_refl _
    · exact Nat.le_trans (ih (by omega)) (cnt_up s b n)
theorem cnt_hit {s : St} {b n : Nat} (h : s 122 (7 * n) = nI b) : cnt s b (n + 1) = cnt s b n + 1 := by
  show (if s 122 (7 * n) = nI b then cnt s b n + 1 else cnt s b n) = _
  rw [if_pos h]
theorem cnt_miss {s : St} {b n : Nat} (h : ¬ s 122 (7 * n) = nI b) : cnt s b (n + 1) = cnt s b n := by
  show (if s 122 (7 * n) = nI b then cnt s b n + 1 else cnt s b n) = _
  rw [if_neg h]
theorem cnt_le (s : St) (b n : Nat) : cnt s b n ≤ n := fup_cnt_le2 (p := fun r => s 122 (7 * r) = nI b) n
theorem cnt_ex (s : St) (b j : Nat) : ∀ n, j < cnt s b n → ∃ r, r < n ∧ s 122 (7 * r) = nI b ∧ cnt s b r = j := by
  intro n
  induction n with
  | zero => intro h; exact absurd h (by show ¬ j < 0; omega)
  | succ n ih =>
    intro h
    by_cases e : s 122 (7 * n) = nI b
    · rw [cnt_hit e] at h
      by_cases h2 : j = cnt s b n
      · exact ⟨n, by omega, e, h2.symm⟩
      · obtain ⟨r, h3, h4⟩ := ih (by omega)
        exact ⟨r, by omega, h4⟩
    · rw [cnt_miss e] at h
      obtain ⟨r, h3, h4⟩ := ih h
      exact ⟨r, by omega, h4⟩
theorem rowMany (I : InvS s) {b : Nat} (hb : b < nB s) : s 120 b = nI (cnt s b (nR s)) := by
  rw [(I.2.2.2.2.2.1 b hb).2.2.2.2]
  exact fup_rel (fun _ (x : Int32) (y : Nat) => x = nI y) rfl (nR s) fun k x y _ e => by
    by_cases h : s 122 (7 * k) = nI b
    · show (if _ then x + 1 else x) = nI (if _ then y + 1 else y)
      rw [if_pos h, if_pos h, e]; exact nI_1 y
    · show (if _ then x + 1 else x) = nI (if _ then y + 1 else y)
      rw [if_neg h, if_neg h, e]
/-- the class finds no row -/
theorem c118_no (L : Lay v c w) (V : StC w 30 s) (I : InvS s) (i k : Int32) (h : ∀ b r, i = nI b → b < nB s → r < nR s → s 122 (7 * r) = nI b → k ≠ nI (cnt s b r)) : fn_118 w 30 i k = some (-1) := by
  have hR := I.2.2.1
  have hB := I.2.1
  refine up_0 (fun m r a => fn_118_5 w m 30 i a (nI r)) (nR s) (fun r a => ∀ b, i = nI b → b < nB s → a = k - nI (cnt s b r)) (fun o => o = some (-1)) k (by omega) (fun b _ _ => by show k = k - 0; rw [Int32.sub_zero]) (fun m r a hr ha => Or.inr ?_) (fun m a ha => ?_)
  · obtain ⟨b, hb, e⟩ := (I.2.2.2.2.2.2.2.2.1 r hr).1
    by_cases q : nI b = i
    · have ha2 := ha b q.symm hb
      have hk := h b r q.symm hb hr e
      have a0 : ¬ a = 0 := fun a0 => hk (by rw [a0] at ha2; rw [← Int32.sub_add_cancel k (nI (cnt s b r)), ← ha2, Int32.zero_add])
      refine ⟨a - 1, fun b' hb' hlt => ?_, ?_⟩
      · have : b' = b := (nI_eq (by omega) (by omega)).mp (hb'.symm.trans q.symm)
        subst this
        rw [ha2, cnt_hit e, ← nI_1, Int32.sub_sub]
      · simp (disch := omega) only [fn_118_5, fn_118_50, LSt L, V.1, hR.1, getR L V I hr, rcl, e, q, a0, Nat.le_refl, Nat.lt_irrefl, some_if, Option.bind_some, Option.bind_none, Option.some.injEq, ↓reduceIte, reduceCtorEq, Bool.false_eq_true, Bool.true_eq_false, not_true_eq_false, not_false_eq_true, cmb0, cmb1, Nat.reduceAdd, Nat.reduceMul, Nat.reduceSub, Nat.add_zero, Bool.not_eq_true, Bool.not_eq_false, Nat.reduceEqDiff, Nat.reduceLeDiff, Nat.reduceLT, Int32.reduceLT, Int32.reduceLE, iin_nI, iin_lit, iin_m1, tn_nI, tn_lit, nI_lm, nI_ml, nI_al, nI_la, nI_add, pk_mul, nI_le_l, nI_l_le, nI_lt_l, nI_l_lt, nI_eq_l, nI_l_eq, nI_eqP, nI_leP, nI_ltP, nI_m1, m1_nI, nI_ll, m1_l, l_m1]
        rw [if_neg (by omega)]
    · refine ⟨a, fun b' hb' hlt => ?_, ?_⟩
      · have : ¬ s 122 (7 * r) = nI b' := fun e2 => q (by rw [← e, e2, hb'])
        rw [cnt_miss this]; exact ha b' hb' hlt
      · simp (disch := omega) only [fn_118_5, fn_118_35, fn_118_50, LSt L, V.1, hR.1, getR L V I hr, rcl, e, q, Int32.sub_zero, Nat.le_refl, Nat.lt_irrefl, some_if, Option.bind_some, Option.bind_none, Option.some.injEq, ↓reduceIte, reduceCtorEq, Bool.false_eq_true, Bool.true_eq_false, not_true_eq_false, not_false_eq_true, cmb0, cmb1, Nat.reduceAdd, Nat.reduceMul, Nat.reduceSub, Nat.add_zero, Bool.not_eq_true, Bool.not_eq_false, Nat.reduceEqDiff, Nat.reduceLeDiff, Nat.reduceLT, Int32.reduceLT, Int32.reduceLE, iin_nI, iin_lit, iin_m1, tn_nI, tn_lit, nI_lm, nI_ml, nI_al, nI_la, nI_add, pk_mul, nI_le_l, nI_l_le, nI_lt_l, nI_l_lt, nI_eq_l, nI_l_eq, nI_eqP, nI_leP, nI_ltP, nI_m1, m1_nI, nI_ll, m1_l, l_m1]
        rw [if_neg (by omega)]
  · simp (disch := omega) only [fn_118_5, LSt L, V.1, hR.1, Nat.le_refl, Nat.lt_irrefl, some_if, Option.bind_some, Option.bind_none, Option.some.injEq, ↓reduceIte, reduceCtorEq, Bool.false_eq_true, Bool.true_eq_false, not_true_eq_false, not_false_eq_true, cmb0, cmb1, Nat.reduceAdd, Nat.reduceMul, Nat.reduceSub, Nat.add_zero, Bool.not_eq_true, Bool.not_eq_false, Nat.reduceEqDiff, Nat.reduceLeDiff, Nat.reduceLT, Int32.reduceLT, Int32.reduceLE, iin_nI, iin_lit, iin_m1, tn_nI, tn_lit, nI_lm, nI_ml, nI_al, nI_la, nI_add, pk_mul, nI_le_l, nI_l_le, nI_lt_l, nI_l_lt, nI_eq_l, nI_l_eq, nI_eqP, nI_leP, nI_ltP, nI_m1, m1_nI, nI_ll, m1_l, l_m1]
theorem q_record (L : Lay v c w) (M : RelM w s) (C : RelC v w s) (I : Inv s) (i k j : Int32) : ∃ r, fn_157 w 2 i k j = some r ∧ fn_244 w 96 i k j = some r := by
  have V := C.2.2.1
  have hR := I.2.1.2.2.1
  have hB := I.2.1.2.1
  have e5 : fn_194 w j (0 : Int32) (4 : Int32) = some (cm_iin j 5) := isIn_lit w j 4 (by decide)
  have out : fn_118 w 30 i k = some (-1) → fn_157 w 2 i k j = some (-1) := by
    intro h
    have h1 : fn_1 w 33 (-1) j = some (-1) := getRo L V I.2.1 (iin_m1 _)
    simp (disch := omega) only [fn_157, fn_157_11, LC L, LSt L, h, h1, Nat.le_refl, Nat.lt_irrefl, some_if, Option.bind_some, Option.bind_none, Option.some.injEq, ↓reduceIte, reduceCtorEq, Bool.false_eq_true, Bool.true_eq_false, not_true_eq_false, not_false_eq_true, cmb0, cmb1, Nat.reduceAdd, Nat.reduceMul, Nat.reduceSub, Nat.add_zero, Bool.not_eq_true, Bool.not_eq_false, Nat.reduceEqDiff, Nat.reduceLeDiff, Nat.reduceLT, Int32.reduceLT, Int32.reduceLE, iin_nI, iin_lit, iin_m1, tn_nI, tn_lit, nI_lm, nI_ml, nI_al, nI_la, nI_add, pk_mul, nI_le_l, nI_l_le, nI_lt_l, nI_l_lt, nI_eq_l, nI_l_eq, nI_eqP, nI_leP, nI_ltP, nI_m1, m1_nI, nI_ll, m1_l, l_m1]
    split
    · rfl
    · split <;> rfl
  rcases iin_cs i (n := nB s) (by omega) with h | ⟨b, hb, rfl⟩
  · refine ⟨-1, out (c118_no L V I.2.1 i k fun b r e hb => ?_), ?_⟩
    · rw [e, iin_nI hb (by omega)] at h; cases h
    · simp (disch := omega) only [fn_244, LM L, mBox L M I.2.1, h, Nat.le_refl, Nat.lt_irrefl, some_if, Option.bind_some, Option.bind_none, Option.some.injEq, ↓reduceIte, reduceCtorEq, Bool.false_eq_true, Bool.true_eq_false, not_true_eq_false, not_false_eq_true, cmb0, cmb1, Nat.reduceAdd, Nat.reduceMul, Nat.reduceSub, Nat.add_zero, Bool.not_eq_true, Bool.not_eq_false, Nat.reduceEqDiff, Nat.reduceLeDiff, Nat.reduceLT, Int32.reduceLT, Int32.reduceLE, iin_nI, iin_lit, iin_m1, tn_nI, tn_lit, nI_lm, nI_ml, nI_al, nI_la, nI_add, pk_mul, nI_le_l, nI_l_le, nI_lt_l, nI_l_lt, nI_eq_l, nI_l_eq, nI_eqP, nI_leP, nI_ltP, nI_m1, m1_nI, nI_ll, m1_l, l_m1]
  have cl := cnt_le s b (nR s)
  have e6 := isIn_ok w k (n := cnt s b (nR s)) (by omega)
  have rm := rowMany I.2.1 hb
  rcases iin_cs k (n := cnt s b (nR s)) (by omega) with h | ⟨a, ha, rfl⟩
  · refine ⟨-1, out (c118_no L V I.2.1 (nI b) k fun b' r e hb' hr e2 e3 => ?_), ?_⟩
    · have hbb : b' = b := (nI_eq (by omega) (by omega)).mp e.symm
      subst hbb
      have := cnt_hit e2
      have := cnt_mono s b' (show r + 1 ≤ nR s by omega)
      rw [e3, iin_nI (by omega) (by omega)] at h; cases h
    · simp (disch := omega) only [fn_244, LM L, RM M, mBox L M I.2.1, rm, e6, h, Nat.le_refl, Nat.lt_irrefl, some_if, Option.bind_some, Option.bind_none, Option.some.injEq, ↓reduceIte, reduceCtorEq, Bool.false_eq_true, Bool.true_eq_false, not_true_eq_false, not_false_eq_true, cmb0, cmb1, Nat.reduceAdd, Nat.reduceMul, Nat.reduceSub, Nat.add_zero, Bool.not_eq_true, Bool.not_eq_false, Nat.reduceEqDiff, Nat.reduceLeDiff, Nat.reduceLT, Int32.reduceLT, Int32.reduceLE, iin_nI, iin_lit, iin_m1, tn_nI, tn_lit, nI_lm, nI_ml, nI_al, nI_la, nI_add, pk_mul, nI_le_l, nI_l_le, nI_lt_l, nI_l_lt, nI_eq_l, nI_l_eq, nI_eqP, nI_leP, nI_ltP, nI_m1, m1_nI, nI_ll, m1_l, l_m1]
  obtain ⟨r0, hr0, e0, c0⟩ := cnt_ex s b a (nR s) ha
  rcases iin_cs j (n := 5) (by omega) with hj | ⟨t, ht, rfl⟩
  · refine ⟨-1, ?_, ?_⟩
    · unfold fn_157
      rcases iin_f hj (by omega) with q | q
      · rw [if_pos q]
      · by_cases q2 : j < 0
        · rw [if_pos q2]
        · rw [if_neg q2, if_neg]
          intro q3
          exact absurd (Int32.le_trans q q3) (by decide)
    · simp (disch := omega) only [fn_244, LM L, RM M, mBox L M I.2.1, rm, e6, e5, hj, Nat.le_refl, Nat.lt_irrefl, some_if, Option.bind_some, Option.bind_none, Option.some.injEq, ↓reduceIte, reduceCtorEq, Bool.false_eq_true, Bool.true_eq_false, not_true_eq_false, not_false_eq_true, cmb0, cmb1, Nat.reduceAdd, Nat.reduceMul, Nat.reduceSub, Nat.add_zero, Bool.not_eq_true, Bool.not_eq_false, Nat.reduceEqDiff, Nat.reduceLeDiff, Nat.reduceLT, Int32.reduceLT, Int32.reduceLE, iin_nI, iin_lit, iin_m1, tn_nI, tn_lit, nI_lm, nI_ml, nI_al, nI_la, nI_add, pk_mul, nI_le_l, nI_l_le, nI_lt_l, nI_l_lt, nI_eq_l, nI_l_eq, nI_eqP, nI_leP, nI_ltP, nI_m1, m1_nI, nI_ll, m1_l, l_m1]
  have other : ∀ r, r < r0 → s 122 (7 * r) = nI b → ¬ a - cnt s b r = 0 ∧ cnt s b r < a := by
    intro r hr e
    have := cnt_hit e
    have := cnt_mono s b (show r + 1 ≤ r0 by omega)
    omega
  refine ⟨s 122 (7 * r0 + 1 + t), ?_, ?_⟩
  · have f : fn_118 w 30 (nI b) (nI a) = some (nI r0) := by
      refine up_0 (fun m r x => fn_118_5 w m 30 (nI b) x (nI r)) r0 (fun r x => cnt s b r ≤ a ∧ x = nI (a - cnt s b r)) (fun o => o = some (nI r0)) (nI a) (by omega) ⟨Nat.zero_le _, rfl⟩ (fun m r x hr hx => Or.inr ?_) (fun m x hx => ?_)
      · obtain ⟨hx1, rfl⟩ := hx
        obtain ⟨b2, hb2, e⟩ := (I.2.1.2.2.2.2.2.2.2.2.1 r (by omega)).1
        by_cases q : b2 = b
        · subst q
          obtain ⟨o1, o2⟩ := other r hr e
          refine ⟨nI (a - cnt s b2 (r + 1)), ⟨by rw [cnt_hit e]; omega, rfl⟩, ?_⟩
          have e9 : nI (a - cnt s b2 r) - 1 = nI (a - cnt s b2 (r + 1)) := by
            rw [cnt_hit e, show a - cnt s b2 r = (a - (cnt s b2 r + 1)) + 1 by omega, nI_pred]
          simp (disch := omega) only [fn_118_5, fn_118_50, LSt L, V.1, hR.1, getR L V I.2.1 (show r < nR s by omega), rcl, e, o1, e9, Nat.le_refl, Nat.lt_irrefl, some_if, Option.bind_some, Option.bind_none, Option.some.injEq, ↓reduceIte, reduceCtorEq, Bool.false_eq_true, Bool.true_eq_false, not_true_eq_false, not_false_eq_true, cmb0, cmb1, Nat.reduceAdd, Nat.reduceMul, Nat.reduceSub, Nat.add_zero, Bool.not_eq_true, Bool.not_eq_false, Nat.reduceEqDiff, Nat.reduceLeDiff, Nat.reduceLT, Int32.reduceLT, Int32.reduceLE, iin_nI, iin_lit, iin_m1, tn_nI, tn_lit, nI_lm, nI_ml, nI_al, nI_la, nI_add, pk_mul, nI_le_l, nI_l_le, nI_lt_l, nI_l_lt, nI_eq_l, nI_l_eq, nI_eqP, nI_leP, nI_ltP, nI_m1, m1_nI, nI_ll, m1_l, l_m1]
          rw [if_neg (by omega)]
        · have q2 : ¬ s 122 (7 * r) = nI b := fun q3 => q ((nI_eq (by omega) (by omega)).mp (e.symm.trans q3))
          refine ⟨nI (a - cnt s b r), ⟨by rw [cnt_miss q2]; exact hx1, by rw [cnt_miss q2]⟩, ?_⟩
          simp (disch := omega) only [fn_118_5, fn_118_35, fn_118_50, LSt L, V.1, hR.1, getR L V I.2.1 (show r < nR s by omega), rcl, q2, Int32.sub_zero, Nat.le_refl, Nat.lt_irrefl, some_if, Option.bind_some, Option.bind_none, Option.some.injEq, ↓reduceIte, reduceCtorEq, Bool.false_eq_true, Bool.true_eq_false, not_true_eq_false, not_false_eq_true, cmb0, cmb1, Nat.reduceAdd, Nat.reduceMul, Nat.reduceSub, Nat.add_zero, Bool.not_eq_true, Bool.not_eq_false, Nat.reduceEqDiff, Nat.reduceLeDiff, Nat.reduceLT, Int32.reduceLT, Int32.reduceLE, iin_nI, iin_lit, iin_m1, tn_nI, tn_lit, nI_lm, nI_ml, nI_al, nI_la, nI_add, pk_mul, nI_le_l, nI_l_le, nI_lt_l, nI_l_lt, nI_eq_l, nI_l_eq, nI_eqP, nI_leP, nI_ltP, nI_m1, m1_nI, nI_ll, m1_l, l_m1]
          rw [if_neg (by omega)]
      · obtain ⟨hx1, rfl⟩ := hx
        have : a - cnt s b r0 = 0 := by omega
        simp (disch := omega) only [fn_118_5, LSt L, V.1, hR.1, getR L V I.2.1 hr0, rcl, e0, this, nI_0, Nat.le_refl, Nat.lt_irrefl, some_if, Option.bind_some, Option.bind_none, Option.some.injEq, ↓reduceIte, reduceCtorEq, Bool.false_eq_true, Bool.true_eq_false, not_true_eq_false, not_false_eq_true, cmb0, cmb1, Nat.reduceAdd, Nat.reduceMul, Nat.reduceSub, Nat.add_zero, Bool.not_eq_true, Bool.not_eq_false, Nat.reduceEqDiff, Nat.reduceLeDiff, Nat.reduceLT, Int32.reduceLT, Int32.reduceLE, iin_nI, iin_lit, iin_m1, tn_nI, tn_lit, nI_lm, nI_ml, nI_al, nI_la, nI_add, pk_mul, nI_le_l, nI_l_le, nI_lt_l, nI_l_lt, nI_eq_l, nI_l_eq, nI_eqP, nI_leP, nI_ltP, nI_m1, m1_nI, nI_ll, m1_l, l_m1]
        rw [if_neg (by omega)]
    have g : fn_1 w 33 (nI r0) (nI t) = some (s 122 (7 * r0 + 1 + t)) := by
      refine (show fn_1 w 33 (nI r0) (nI t) = _ from getR L V I.2.1 hr0 (k := t) (show t < 7 by omega)).trans ?_
      rcases (show t = 0 ∨ t = 1 ∨ t = 2 ∨ t = 3 ∨ t = 4 by omega) with rfl | rfl | rfl | rfl | rfl <;> rfl
    simp (disch := omega) only [fn_157, fn_157_11, LC L, LSt L, f, g, Nat.le_refl, Nat.lt_irrefl, some_if, Option.bind_some, Option.bind_none, Option.some.injEq, ↓reduceIte, reduceCtorEq, Bool.false_eq_true, Bool.true_eq_false, not_true_eq_false, not_false_eq_true, cmb0, cmb1, Nat.reduceAdd, Nat.reduceMul, Nat.reduceSub, Nat.add_zero, Bool.not_eq_true, Bool.not_eq_false, Nat.reduceEqDiff, Nat.reduceLeDiff, Nat.reduceLT, Int32.reduceLT, Int32.reduceLE, iin_nI, iin_lit, iin_m1, tn_nI, tn_lit, nI_lm, nI_ml, nI_al, nI_la, nI_add, pk_mul, nI_le_l, nI_l_le, nI_lt_l, nI_l_lt, nI_eq_l, nI_l_eq, nI_eqP, nI_leP, nI_ltP, nI_m1, m1_nI, nI_ll, m1_l, l_m1]
    rw [if_neg (by omega), if_pos (by omega)]
  · have f : fn_244_35 w 96 (nI b) (nI a) (nI t) = some (s 122 (7 * r0 + 1 + t)) := by
      refine up_0 (fun m r x => fn_244_41 w m 96 (nI b) (nI t) x (nI r)) r0 (fun r x => cnt s b r ≤ a ∧ x = nI (a - cnt s b r)) (fun o => o = some (s 122 (7 * r0 + 1 + t))) (nI a) (by omega) ⟨Nat.zero_le _, rfl⟩ (fun m r x hr hx => Or.inr ?_) (fun m x hx => ?_)
      · obtain ⟨hx1, rfl⟩ := hx
        obtain ⟨b2, hb2, e⟩ := (I.2.1.2.2.2.2.2.2.2.2.1 r (by omega)).1
        by_cases q : b2 = b
        · subst q
          obtain ⟨o1, o2⟩ := other r hr e
          refine ⟨nI (a - cnt s b2 (r + 1)), ⟨by rw [cnt_hit e]; omega, rfl⟩, ?_⟩
          have e9 : nI (a - cnt s b2 r) + (-1) = nI (a - cnt s b2 (r + 1)) := by
            rw [cnt_hit e, show a - cnt s b2 r = (a - (cnt s b2 r + 1)) + 1 by omega, pk_m1]
          simp (disch := omega) only [fn_244_41, fn_244_67, fn_244_87, fn_244_90, LM L, RM M, hR.1, e, o1, e9, Nat.le_refl, Nat.lt_irrefl, some_if, Option.bind_some, Option.bind_none, Option.some.injEq, ↓reduceIte, reduceCtorEq, Bool.false_eq_true, Bool.true_eq_false, not_true_eq_false, not_false_eq_true, cmb0, cmb1, Nat.reduceAdd, Nat.reduceMul, Nat.reduceSub, Nat.add_zero, Bool.not_eq_true, Bool.not_eq_false, Nat.reduceEqDiff, Nat.reduceLeDiff, Nat.reduceLT, Int32.reduceLT, Int32.reduceLE, iin_nI, iin_lit, iin_m1, tn_nI, tn_lit, nI_lm, nI_ml, nI_al, nI_la, nI_add, pk_mul, nI_le_l, nI_l_le, nI_lt_l, nI_l_lt, nI_eq_l, nI_l_eq, nI_eqP, nI_leP, nI_ltP, nI_m1, m1_nI, nI_ll, m1_l, l_m1]
          rw [if_neg (by omega)]
        · have q2 : ¬ s 122 (7 * r) = nI b := fun q3 => q ((nI_eq (by omega) (by omega)).mp (e.symm.trans q3))
          refine ⟨nI (a - cnt s b r), ⟨by rw [cnt_miss q2]; exact hx1, by rw [cnt_miss q2]⟩, ?_⟩
          simp (disch := omega) only [fn_244_41, fn_244_90, LM L, RM M, hR.1, q2, Nat.le_refl, Nat.lt_irrefl, some_if, Option.bind_some, Option.bind_none, Option.some.injEq, ↓reduceIte, reduceCtorEq, Bool.false_eq_true, Bool.true_eq_false, not_true_eq_false, not_false_eq_true, cmb0, cmb1, Nat.reduceAdd, Nat.reduceMul, Nat.reduceSub, Nat.add_zero, Bool.not_eq_true, Bool.not_eq_false, Nat.reduceEqDiff, Nat.reduceLeDiff, Nat.reduceLT, Int32.reduceLT, Int32.reduceLE, iin_nI, iin_lit, iin_m1, tn_nI, tn_lit, nI_lm, nI_ml, nI_al, nI_la, nI_add, pk_mul, nI_le_l, nI_l_le, nI_lt_l, nI_l_lt, nI_eq_l, nI_l_eq, nI_eqP, nI_leP, nI_ltP, nI_m1, m1_nI, nI_ll, m1_l, l_m1]
          rw [if_neg (by omega)]
      · obtain ⟨hx1, rfl⟩ := hx
        have : a - cnt s b r0 = 0 := by omega
        simp (disch := omega) only [fn_244_41, fn_244_67, LM L, RM M, hR.1, e0, this, nI_0, Nat.le_refl, Nat.lt_irrefl, some_if, Option.bind_some, Option.bind_none, Option.some.injEq, ↓reduceIte, reduceCtorEq, Bool.false_eq_true, Bool.true_eq_false, not_true_eq_false, not_false_eq_true, cmb0, cmb1, Nat.reduceAdd, Nat.reduceMul, Nat.reduceSub, Nat.add_zero, Bool.not_eq_true, Bool.not_eq_false, Nat.reduceEqDiff, Nat.reduceLeDiff, Nat.reduceLT, Int32.reduceLT, Int32.reduceLE, iin_nI, iin_lit, iin_m1, tn_nI, tn_lit, nI_lm, nI_ml, nI_al, nI_la, nI_add, pk_mul, nI_le_l, nI_l_le, nI_lt_l, nI_l_lt, nI_eq_l, nI_l_eq, nI_eqP, nI_leP, nI_ltP, nI_m1, m1_nI, nI_ll, m1_l, l_m1]
        rw [if_neg (by omega)]
    simp (disch := omega) only [fn_244, LM L, RM M, mBox L M I.2.1, rm, e6, e5, f, Nat.le_refl, Nat.lt_irrefl, some_if, Option.bind_some, Option.bind_none, Option.some.injEq, ↓reduceIte, reduceCtorEq, Bool.false_eq_true, Bool.true_eq_false, not_true_eq_false, not_false_eq_true, cmb0, cmb1, Nat.reduceAdd, Nat.reduceMul, Nat.reduceSub, Nat.add_zero, Bool.not_eq_true, Bool.not_eq_false, Nat.reduceEqDiff, Nat.reduceLeDiff, Nat.reduceLT, Int32.reduceLT, Int32.reduceLE, iin_nI, iin_lit, iin_m1, tn_nI, tn_lit, nI_lm, nI_ml, nI_al, nI_la, nI_add, pk_mul, nI_le_l, nI_l_le, nI_lt_l, nI_l_lt, nI_eq_l, nI_l_eq, nI_eqP, nI_leP, nI_ltP, nI_m1, m1_nI, nI_ll, m1_l, l_m1]
end ASK3
