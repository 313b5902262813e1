/-! June: what is in somebody's hands; june, apart, wanted -/
/-- how many of a thing somebody has (all together: -1), among the first n boxes -/
def hm (s : St) (y x : Int32) (n : Nat) : Int32 := fup (fun b a => a + if s 115 b = x ∧ hsum s b 12 = 0 ∧ (y = -1 ∨ ho s b = y) then 1 else 0) 0 n
/-- what the pairs are worth, of a count -/
def pmn (s : St) (h : Int32 → Int32) (k : Nat) : Int32 := if h (s 109 k) < h (s 108 k) then h (s 109 k) else h (s 108 k)
def pw (s : St) (h : Int32 → Int32) (n : Nat) : Int32 := fup (fun k a => a + pmn s h k * s 110 k) 0 n
def wj (s : St) (p : Nat) (n : Nat) : Int32 := fup (fun b a => a + if hsum s b 12 = 0 then (if ho s b = nI p then wo s (tn (s 115 b)) 5 else 0) else s 121 (12 * b + p) * wo s (tn (s 115 b)) 5 / 100) 0 n
section JUNE
variable {v c u n : Nat} {w w' : cm_W} {s s' : St}
theorem fup_add (f : Nat → Int32) (z : Int32) : ∀ n, fup (fun k a => a + f k) z n = z + fup (fun k a => a + f k) 0 n := by
  intro n
  induction n with
  | zero => exact (Int32.add_zero z).symm
  | succ n ih =>
    show fup (fun k a => a + f k) z n + f n = z + (fup (fun k a => a + f k) 0 n + f n)
    rw [ih, Int32.add_assoc]
theorem hsum_n (I : InvS s) {b : Nat} (hb : b < nB s) : ∀ n, n ≤ 12 → ∃ k, k ≤ 100 * n ∧ hsum s b n = nI k := by
  intro n
  induction n with
  | zero => intro _; exact ⟨0, by omega, rfl⟩
  | succ n ih =>
    intro hn
    obtain ⟨k, hk, e⟩ := ih (by omega)
    obtain ⟨j, hj, ej⟩ := (I.2.2.2.2.2.2.2.1 b hb n (by omega)).1
    refine ⟨k + j, by omega, ?_⟩
    show hsum s b n + s 121 (12 * b + n) = _
    rw [e, ej, nI_add]
theorem m251 (L : Lay v c w) (M : RelM w s) (I : Inv s) {b : Nat} (hb : b < nB s) : fn_251 w 96 (nI b) = some (decide (¬ hsum s b 12 = 0)) := by
  have hB := I.2.1.2.1
  have hP := I.1.2.1
  rw [hsum_P I.2.1 hb hP.2]
  refine up_0 (fun m k a => fn_251_4 w m 96 (nI b) a (nI k)) (nP s) (fun k a => a = if hsum s b k = 0 then 0 else 1) (fun o => o = _) 0 (by omega) rfl (fun m k a hk ha => Or.inr ⟨_, rfl, ?_⟩) (fun m a ha => ?_)
  · subst ha
    have hk' : ¬ nP s ≤ k := by omega
    obtain ⟨x, hx, ex⟩ := hsum_n I.2.1 hb k (by omega)
    obtain ⟨j, hj, ej⟩ := (I.2.1.2.2.2.2.2.2.2.1 b hb k (by omega)).1
    have e1 : hsum s b (k + 1) = nI (x + j) := by
      show hsum s b k + s 121 (12 * b + k) = _
      rw [ex, ej, nI_add]
    rw [e1, ex]
    by_cases x0 : x = 0
    · subst x0
      by_cases j0 : j = 0
      · subst j0
        simp (disch := omega) only [fn_251_4, fn_251_34, ↓LMb L, LM L, RM M, hP.1, hk', ej, eq_self, Nat.le_refl, Nat.lt_irrefl, some_if, Option.bind_some, Option.bind_none, Option.some.injEq, ↓reduceIte, reduceCtorEq, Bool.false_eq_true, Bool.true_eq_false, not_true_eq_false, not_false_eq_true, cmb0, cmb1, Nat.reduceAdd, Nat.reduceMul, Nat.reduceSub, Nat.add_zero, Bool.not_eq_true, Bool.not_eq_false, Nat.reduceEqDiff, Nat.reduceLeDiff, Nat.reduceLT, Int32.reduceLT, Int32.reduceLE, iin_nI, iin_lit, iin_m1, tn_nI, tn_lit, nI_lm, nI_ml, nI_al, nI_la, nI_add, pk_mul, nI_le_l, nI_l_le, nI_lt_l, nI_l_lt, nI_eq_l, nI_l_eq, nI_eqP, nI_leP, nI_ltP, nI_m1, m1_nI, nI_ll, m1_l, l_m1]
      · have j1 : ¬ j ≤ 0 := by omega
        simp (disch := omega) only [fn_251_4, fn_251_30, ↓LMb L, LM L, RM M, hP.1, hk', ej, j0, j1, Nat.zero_add, eq_self, Nat.le_refl, Nat.lt_irrefl, some_if, Option.bind_some, Option.bind_none, Option.some.injEq, ↓reduceIte, reduceCtorEq, Bool.false_eq_true, Bool.true_eq_false, not_true_eq_false, not_false_eq_true, cmb0, cmb1, Nat.reduceAdd, Nat.reduceMul, Nat.reduceSub, Nat.add_zero, Bool.not_eq_true, Bool.not_eq_false, Nat.reduceEqDiff, Nat.reduceLeDiff, Nat.reduceLT, Int32.reduceLT, Int32.reduceLE, iin_nI, iin_lit, iin_m1, tn_nI, tn_lit, nI_lm, nI_ml, nI_al, nI_la, nI_add, pk_mul, nI_le_l, nI_l_le, nI_lt_l, nI_l_lt, nI_eq_l, nI_l_eq, nI_eqP, nI_leP, nI_ltP, nI_m1, m1_nI, nI_ll, m1_l, l_m1]
    · have x1 : ¬ x + j = 0 := by omega
      simp (disch := omega) only [fn_251_4, fn_251_30, ↓LMb L, LM L, RM M, hP.1, hk', x0, x1, eq_self, Nat.le_refl, Nat.lt_irrefl, some_if, Option.bind_some, Option.bind_none, Option.some.injEq, ↓reduceIte, reduceCtorEq, Bool.false_eq_true, Bool.true_eq_false, not_true_eq_false, not_false_eq_true, cmb0, cmb1, Nat.reduceAdd, Nat.reduceMul, Nat.reduceSub, Nat.add_zero, Bool.not_eq_true, Bool.not_eq_false, Nat.reduceEqDiff, Nat.reduceLeDiff, Nat.reduceLT, Int32.reduceLT, Int32.reduceLE, iin_nI, iin_lit, iin_m1, tn_nI, tn_lit, nI_lm, nI_ml, nI_al, nI_la, nI_add, pk_mul, nI_le_l, nI_l_le, nI_lt_l, nI_l_lt, nI_eq_l, nI_l_eq, nI_eqP, nI_leP, nI_ltP, nI_m1, m1_nI, nI_ll, m1_l, l_m1]
  · subst ha
    by_cases z : hsum s b (nP s) = 0
    · simp (disch := omega) only [fn_251_4, LM L, RM M, hP.1, z, eq_self, Nat.le_refl, Nat.lt_irrefl, some_if, Option.bind_some, Option.bind_none, Option.some.injEq, ↓reduceIte, reduceCtorEq, Bool.false_eq_true, Bool.true_eq_false, not_true_eq_false, not_false_eq_true, cmb0, cmb1, Nat.reduceAdd, Nat.reduceMul, Nat.reduceSub, Nat.add_zero, Bool.not_eq_true, Bool.not_eq_false, Nat.reduceEqDiff, Nat.reduceLeDiff, Nat.reduceLT, Int32.reduceLT, Int32.reduceLE, iin_nI, iin_lit, iin_m1, tn_nI, tn_lit, nI_lm, nI_ml, nI_al, nI_la, nI_add, pk_mul, nI_le_l, nI_l_le, nI_lt_l, nI_l_lt, nI_eq_l, nI_l_eq, nI_eqP, nI_leP, nI_ltP, nI_m1, m1_nI, nI_ll, m1_l, l_m1]
      rfl
    · simp (disch := omega) only [fn_251_4, LM L, RM M, hP.1, z, eq_self, Nat.le_refl, Nat.lt_irrefl, some_if, Option.bind_some, Option.bind_none, Option.some.injEq, ↓reduceIte, reduceCtorEq, Bool.false_eq_true, Bool.true_eq_false, not_true_eq_false, not_false_eq_true, cmb0, cmb1, Nat.reduceAdd, Nat.reduceMul, Nat.reduceSub, Nat.add_zero, Bool.not_eq_true, Bool.not_eq_false, Nat.reduceEqDiff, Nat.reduceLeDiff, Nat.reduceLT, Int32.reduceLT, Int32.reduceLE, iin_nI, iin_lit, iin_m1, tn_nI, tn_lit, nI_lm, nI_ml, nI_al, nI_la, nI_add, pk_mul, nI_le_l, nI_l_le, nI_lt_l, nI_l_lt, nI_eq_l, nI_l_eq, nI_eqP, nI_leP, nI_ltP, nI_m1, m1_nI, nI_ll, m1_l, l_m1]
      rfl
theorem m252 (L : Lay v c w) (M : RelM w s) (I : Inv s) (y x : Int32) : fn_252 w 96 y x = some (hm s y x (nB s)) := by
  have hB := I.2.1.2.1
  refine up_f (fun m k a => fn_252_5 w m 96 y x a (nI k)) (nB s) (fun b a => a + if s 115 b = x ∧ hsum s b 12 = 0 ∧ (y = -1 ∨ ho s b = y) then 1 else 0) 0 _ (by omega) (fun m b a hb => ?_) (fun m => ?_)
  · have hb' : ¬ nB s ≤ b := by omega
    have e1 := m251 L M I hb
    have e2 := m231 L M I.2.1 hb
    by_cases q1 : s 115 b = x
    · by_cases q2 : hsum s b 12 = 0
      · rw [decide_eq_false (fun z => z q2)] at e1
        by_cases q3 : y = -1
        · simp (disch := omega) only [fn_252_5, fn_195, ↓LMb L, LM L, RM M, hB.1, hb', e1, q1, q2, q3, true_or, and_self, eq_self, Nat.le_refl, Nat.lt_irrefl, some_if, Option.bind_some, Option.bind_none, Option.some.injEq, ↓reduceIte, reduceCtorEq, Bool.false_eq_true, Bool.true_eq_false, not_true_eq_false, not_false_eq_true, cmb0, cmb1, Nat.reduceAdd, Nat.reduceMul, Nat.reduceSub, Nat.add_zero, Bool.not_eq_true, Bool.not_eq_false, Nat.reduceEqDiff, Nat.reduceLeDiff, Nat.reduceLT, Int32.reduceLT, Int32.reduceLE, iin_nI, iin_lit, iin_m1, tn_nI, tn_lit, nI_lm, nI_ml, nI_al, nI_la, nI_add, pk_mul, nI_le_l, nI_l_le, nI_lt_l, nI_l_lt, nI_eq_l, nI_l_eq, nI_eqP, nI_leP, nI_ltP, nI_m1, m1_nI, nI_ll, m1_l, l_m1]
        · by_cases q4 : ho s b = y
          · simp (disch := omega) only [fn_252_5, fn_195, ↓LMb L, LM L, RM M, hB.1, hb', e1, e2, q1, q2, q3, q4, or_true, and_self, eq_self, Nat.le_refl, Nat.lt_irrefl, some_if, Option.bind_some, Option.bind_none, Option.some.injEq, ↓reduceIte, reduceCtorEq, Bool.false_eq_true, Bool.true_eq_false, not_true_eq_false, not_false_eq_true, cmb0, cmb1, Nat.reduceAdd, Nat.reduceMul, Nat.reduceSub, Nat.add_zero, Bool.not_eq_true, Bool.not_eq_false, Nat.reduceEqDiff, Nat.reduceLeDiff, Nat.reduceLT, Int32.reduceLT, Int32.reduceLE, iin_nI, iin_lit, iin_m1, tn_nI, tn_lit, nI_lm, nI_ml, nI_al, nI_la, nI_add, pk_mul, nI_le_l, nI_l_le, nI_lt_l, nI_l_lt, nI_eq_l, nI_l_eq, nI_eqP, nI_leP, nI_ltP, nI_m1, m1_nI, nI_ll, m1_l, l_m1]
          · simp (disch := omega) only [fn_252_5, fn_195, ↓LMb L, LM L, RM M, hB.1, hb', e1, e2, q1, q2, q3, q4, or_self, and_false, Int32.add_zero, eq_self, Nat.le_refl, Nat.lt_irrefl, some_if, Option.bind_some, Option.bind_none, Option.some.injEq, ↓reduceIte, reduceCtorEq, Bool.false_eq_true, Bool.true_eq_false, not_true_eq_false, not_false_eq_true, cmb0, cmb1, Nat.reduceAdd, Nat.reduceMul, Nat.reduceSub, Nat.add_zero, Bool.not_eq_true, Bool.not_eq_false, Nat.reduceEqDiff, Nat.reduceLeDiff, Nat.reduceLT, Int32.reduceLT, Int32.reduceLE, iin_nI, iin_lit, iin_m1, tn_nI, tn_lit, nI_lm, nI_ml, nI_al, nI_la, nI_add, pk_mul, nI_le_l, nI_l_le, nI_lt_l, nI_l_lt, nI_eq_l, nI_l_eq, nI_eqP, nI_leP, nI_ltP, nI_m1, m1_nI, nI_ll, m1_l, l_m1]
      · rw [decide_eq_true q2] at e1
        simp (disch := omega) only [fn_252_5, fn_195, ↓LMb L, LM L, RM M, hB.1, hb', e1, q1, q2, false_and, and_false, Int32.add_zero, eq_self, Nat.le_refl, Nat.lt_irrefl, some_if, Option.bind_some, Option.bind_none, Option.some.injEq, ↓reduceIte, reduceCtorEq, Bool.false_eq_true, Bool.true_eq_false, not_true_eq_false, not_false_eq_true, cmb0, cmb1, Nat.reduceAdd, Nat.reduceMul, Nat.reduceSub, Nat.add_zero, Bool.not_eq_true, Bool.not_eq_false, Nat.reduceEqDiff, Nat.reduceLeDiff, Nat.reduceLT, Int32.reduceLT, Int32.reduceLE, iin_nI, iin_lit, iin_m1, tn_nI, tn_lit, nI_lm, nI_ml, nI_al, nI_la, nI_add, pk_mul, nI_le_l, nI_l_le, nI_lt_l, nI_l_lt, nI_eq_l, nI_l_eq, nI_eqP, nI_leP, nI_ltP, nI_m1, m1_nI, nI_ll, m1_l, l_m1]
    · simp (disch := omega) only [fn_252_5, fn_195, ↓LMb L, LM L, RM M, hB.1, hb', q1, false_and, Int32.add_zero, eq_self, Nat.le_refl, Nat.lt_irrefl, some_if, Option.bind_some, Option.bind_none, Option.some.injEq, ↓reduceIte, reduceCtorEq, Bool.false_eq_true, Bool.true_eq_false, not_true_eq_false, not_false_eq_true, cmb0, cmb1, Nat.reduceAdd, Nat.reduceMul, Nat.reduceSub, Nat.add_zero, Bool.not_eq_true, Bool.not_eq_false, Nat.reduceEqDiff, Nat.reduceLeDiff, Nat.reduceLT, Int32.reduceLT, Int32.reduceLE, iin_nI, iin_lit, iin_m1, tn_nI, tn_lit, nI_lm, nI_ml, nI_al, nI_la, nI_add, pk_mul, nI_le_l, nI_l_le, nI_lt_l, nI_l_lt, nI_eq_l, nI_l_eq, nI_eqP, nI_leP, nI_ltP, nI_m1, m1_nI, nI_ll, m1_l, l_m1]
  · simp (disch := omega) only [fn_252_5, ↓LMb L, LM L, RM M, hB.1, eq_self, Nat.le_refl, Nat.lt_irrefl, some_if, Option.bind_some, Option.bind_none, Option.some.injEq, ↓reduceIte, reduceCtorEq, Bool.false_eq_true, Bool.true_eq_false, not_true_eq_false, not_false_eq_true, cmb0, cmb1, Nat.reduceAdd, Nat.reduceMul, Nat.reduceSub, Nat.add_zero, Bool.not_eq_true, Bool.not_eq_false, Nat.reduceEqDiff, Nat.reduceLeDiff, Nat.reduceLT, Int32.reduceLT, Int32.reduceLE, iin_nI, iin_lit, iin_m1, tn_nI, tn_lit, nI_lm, nI_ml, nI_al, nI_la, nI_add, pk_mul, nI_le_l, nI_l_le, nI_lt_l, nI_l_lt, nI_eq_l, nI_l_eq, nI_eqP, nI_leP, nI_ltP, nI_m1, m1_nI, nI_ll, m1_l, l_m1]
    rfl
theorem m253 (L : Lay v c w) (M : RelM w s) (I : Inv s) (y : Int32) {k : Nat} (hk : k < nQ s) : fn_253 w 96 y (nI k) = some (pmn s (fun x => hm s y x (nB s)) k) := by
  have hQ := I.1.2.2.1
  unfold pmn
  simp (disch := omega) only [fn_253, ↓LMb L, LM L, RM M, m252 L M I, eq_self, Nat.le_refl, Nat.lt_irrefl, some_if, Option.bind_some, Option.bind_none, Option.some.injEq, ↓reduceIte, reduceCtorEq, Bool.false_eq_true, Bool.true_eq_false, not_true_eq_false, not_false_eq_true, cmb0, cmb1, Nat.reduceAdd, Nat.reduceMul, Nat.reduceSub, Nat.add_zero, Bool.not_eq_true, Bool.not_eq_false, Nat.reduceEqDiff, Nat.reduceLeDiff, Nat.reduceLT, Int32.reduceLT, Int32.reduceLE, iin_nI, iin_lit, iin_m1, tn_nI, tn_lit, nI_lm, nI_ml, nI_al, nI_la, nI_add, pk_mul, nI_le_l, nI_l_le, nI_lt_l, nI_l_lt, nI_eq_l, nI_l_eq, nI_eqP, nI_leP, nI_ltP, nI_m1, m1_nI, nI_ll, m1_l, l_m1]
-- the class
theorem c24 (L : Lay v c w) {t : Nat} (ht : t < 8) : fn_24 w 46 (nI t) = some (cm_I w 47 t) := by
  have h1 : ¬ nI t < 0 := nI_pos (by omega)
  have h2 : ¬ 8 ≤ t := by omega
  simp (disch := omega) only [fn_24, h1, h2, ↓LCb L, LC L, eq_self, Nat.le_refl, Nat.lt_irrefl, some_if, Option.bind_some, Option.bind_none, Option.some.injEq, ↓reduceIte, reduceCtorEq, Bool.false_eq_true, Bool.true_eq_false, not_true_eq_false, not_false_eq_true, cmb0, cmb1, Nat.reduceAdd, Nat.reduceMul, Nat.reduceSub, Nat.add_zero, Bool.not_eq_true, Bool.not_eq_false, Nat.reduceEqDiff, Nat.reduceLeDiff, Nat.reduceLT, Int32.reduceLT, Int32.reduceLE, iin_nI, iin_lit, iin_m1, tn_nI, tn_lit, nI_lm, nI_ml, nI_al, nI_la, nI_add, pk_mul, nI_le_l, nI_l_le, nI_lt_l, nI_l_lt, nI_eq_l, nI_l_eq, nI_eqP, nI_leP, nI_ltP, nI_m1, m1_nI, nI_ll, m1_l, l_m1]
theorem c25 (L : Lay v c w) (hv : v = 10 ∨ v = 20) (V : VilC w v s) (I : InvV s) {h : Int32 → Int32} (hh : ∀ t, t < nT s → cm_I w 47 t = h (nI t)) : fn_25 w 46 v = some (pw s h (nQ s)) := by
  have hQ := I.2.2.1
  have hT := I.1
  refine up_f (fun m k a => fn_25_4 w m 46 v a (nI k)) (nQ s) (fun k a => a + pmn s h k * s 110 k) 0 _ (by omega) (fun m k a hk => ?_) (fun m => ?_)
  · have hk' : ¬ nQ s ≤ k := by omega
    obtain ⟨⟨x, hx, ex⟩, ⟨y, hy, ey⟩, -, -⟩ := I.2.2.2.2.2.2 k hk
    have k0 : fn_1 w (v + 8) (nI k) 0 = some (nI x) := (getQ (k := 0) L hv V I hk (by decide)).trans (congrArg some ex)
    have k1 : fn_1 w (v + 8) (nI k) 1 = some (nI y) := (getQ (k := 1) L hv V I hk (by decide)).trans (congrArg some ey)
    have k2 : fn_1 w (v + 8) (nI k) 2 = some (s 110 k) := getQ (k := 2) L hv V I hk (by decide)
    have g1 := (c24 L (show x < 8 by omega)).trans (congrArg some (hh x hx))
    have g2 := (c24 L (show y < 8 by omega)).trans (congrArg some (hh y hy))
    unfold pmn
    simp (disch := omega) only [fn_25_4, ↓LVb L hv, LV L hv, LC L, V.1, hQ.1, hk', k0, k1, k2, g1, g2, ex, ey, eq_self, Nat.le_refl, Nat.lt_irrefl, some_if, Option.bind_some, Option.bind_none, Option.some.injEq, ↓reduceIte, reduceCtorEq, Bool.false_eq_true, Bool.true_eq_false, not_true_eq_false, not_false_eq_true, cmb0, cmb1, Nat.reduceAdd, Nat.reduceMul, Nat.reduceSub, Nat.add_zero, Bool.not_eq_true, Bool.not_eq_false, Nat.reduceEqDiff, Nat.reduceLeDiff, Nat.reduceLT, Int32.reduceLT, Int32.reduceLE, iin_nI, iin_lit, iin_m1, tn_nI, tn_lit, nI_lm, nI_ml, nI_al, nI_la, nI_add, pk_mul, nI_le_l, nI_l_le, nI_lt_l, nI_l_lt, nI_eq_l, nI_l_eq, nI_eqP, nI_leP, nI_ltP, nI_m1, m1_nI, nI_ll, m1_l, l_m1]
  · simp (disch := omega) only [fn_25_4, ↓LVb L hv, LV L hv, V.1, hQ.1, eq_self, Nat.le_refl, Nat.lt_irrefl, some_if, Option.bind_some, Option.bind_none, Option.some.injEq, ↓reduceIte, reduceCtorEq, Bool.false_eq_true, Bool.true_eq_false, not_true_eq_false, not_false_eq_true, cmb0, cmb1, Nat.reduceAdd, Nat.reduceMul, Nat.reduceSub, Nat.add_zero, Bool.not_eq_true, Bool.not_eq_false, Nat.reduceEqDiff, Nat.reduceLeDiff, Nat.reduceLT, Int32.reduceLT, Int32.reduceLE, iin_nI, iin_lit, iin_m1, tn_nI, tn_lit, nI_lm, nI_ml, nI_al, nI_la, nI_add, pk_mul, nI_le_l, nI_l_le, nI_lt_l, nI_l_lt, nI_eq_l, nI_l_eq, nI_eqP, nI_leP, nI_ltP, nI_m1, m1_nI, nI_ll, m1_l, l_m1]
    rfl
theorem c21 (L : Lay v c w) (S : StC w 30 s) (I : Inv s) {b : Nat} (hb : b < nB s) : ∃ y, fn_21 46 30 (nI b) w = some y ∧ FC v c w y ∧ ∀ t, t < nT s → cm_I y 47 t = cm_I w 47 t + if s 115 b = nI t ∧ hsum s b 12 = 0 then 1 else 0 := by
  have hB := I.2.1.2.1
  have hT := I.1.1
  obtain ⟨t, ht, et⟩ := (I.2.1.2.2.2.2.2.1 b hb).2.1
  have g1 : fn_1 w 31 (nI b) 1 = some (nI t) := (getB (k := 1) L S I.2.1 hb (by decide)).trans (congrArg some et)
  have h1 : ¬ nI t < 0 := nI_pos (by omega)
  have h2 : ¬ 8 ≤ t := by omega
  have e20 := c20 L S hB.2 hb
  by_cases q : hsum s b 12 = 0
  · refine ⟨cm_sI w 47 t (cm_I w 47 t + 1), ?_, (FC.rf L).sI (by omega), fun t' ht' => ?_⟩
    · simp (disch := omega) only [fn_21, ↓LStb L, LSt L, ↓LCb L, LC L, g1, h1, h2, e20, q, cm_w2, Nat.reduceLeDiff, Nat.reduceLT, decide_true, Bool.and_self, Bool.and_true, eq_self, Nat.le_refl, Nat.lt_irrefl, some_if, Option.bind_some, Option.bind_none, Option.some.injEq, ↓reduceIte, reduceCtorEq, Bool.false_eq_true, Bool.true_eq_false, not_true_eq_false, not_false_eq_true, cmb0, cmb1, Nat.reduceAdd, Nat.reduceMul, Nat.reduceSub, Nat.add_zero, Bool.not_eq_true, Bool.not_eq_false, Nat.reduceEqDiff, Nat.reduceLeDiff, Nat.reduceLT, Int32.reduceLT, Int32.reduceLE, iin_nI, iin_lit, iin_m1, tn_nI, tn_lit, nI_lm, nI_ml, nI_al, nI_la, nI_add, pk_mul, nI_le_l, nI_l_le, nI_lt_l, nI_l_lt, nI_eq_l, nI_l_eq, nI_eqP, nI_leP, nI_ltP, nI_m1, m1_nI, nI_ll, m1_l, l_m1]
    · rw [et]
      by_cases z : t' = t
      · subst z; rw [I_eq, if_pos ⟨rfl, q⟩]
      · rw [I_nk z, if_neg (fun h => z ((nI_eq (by omega) (by omega)).mp h.1).symm), Int32.add_zero]
  · refine ⟨w, ?_, FC.rf L, fun t' ht' => ?_⟩
    · simp (disch := omega) only [fn_21, ↓LStb L, LSt L, g1, h1, h2, e20, q, eq_self, Nat.le_refl, Nat.lt_irrefl, some_if, Option.bind_some, Option.bind_none, Option.some.injEq, ↓reduceIte, reduceCtorEq, Bool.false_eq_true, Bool.true_eq_false, not_true_eq_false, not_false_eq_true, cmb0, cmb1, Nat.reduceAdd, Nat.reduceMul, Nat.reduceSub, Nat.add_zero, Bool.not_eq_true, Bool.not_eq_false, Nat.reduceEqDiff, Nat.reduceLeDiff, Nat.reduceLT, Int32.reduceLT, Int32.reduceLE, iin_nI, iin_lit, iin_m1, tn_nI, tn_lit, nI_lm, nI_ml, nI_al, nI_la, nI_add, pk_mul, nI_le_l, nI_l_le, nI_lt_l, nI_l_lt, nI_eq_l, nI_l_eq, nI_eqP, nI_leP, nI_ltP, nI_m1, m1_nI, nI_ll, m1_l, l_m1]
    · rw [if_neg (fun h => q h.2), Int32.add_zero]
theorem c15 (L : Lay v c w) : ∃ y, fn_15 47 0 w = some y ∧ FC v c w y ∧ ∀ t, t < 8 → cm_I y 47 t = 0 := by
  have e0 : fn_15 47 0 w = fn_15_5 cm_N 47 0 0 (nI 8) w := by
    simp (disch := omega) only [fn_15, LC L, eq_self, Nat.le_refl, Nat.lt_irrefl, some_if, Option.bind_some, Option.bind_none, Option.some.injEq, ↓reduceIte, reduceCtorEq, Bool.false_eq_true, Bool.true_eq_false, not_true_eq_false, not_false_eq_true, cmb0, cmb1, Nat.reduceAdd, Nat.reduceMul, Nat.reduceSub, Nat.add_zero, Bool.not_eq_true, Bool.not_eq_false, Nat.reduceEqDiff, Nat.reduceLeDiff, Nat.reduceLT, Int32.reduceLT, Int32.reduceLE, iin_nI, iin_lit, iin_m1, tn_nI, tn_lit, nI_lm, nI_ml, nI_al, nI_la, nI_add, pk_mul, nI_le_l, nI_l_le, nI_lt_l, nI_l_lt, nI_eq_l, nI_l_eq, nI_eqP, nI_leP, nI_ltP, nI_m1, m1_nI, nI_ll, m1_l, l_m1]
    rfl
  rw [e0]
  refine up_0 (fun m k a => fn_15_5 m 47 0 (nI k) (nI 8) a) 8 (fun k a => FC v c w a ∧ ∀ q, q < k → cm_I a 47 q = 0) (fun o => ∃ y, o = some y ∧ FC v c w y ∧ ∀ q, q < 8 → cm_I y 47 q = 0) w (by omega) ⟨FC.rf L, fun q h => by omega⟩ (fun m k a hk ha => Or.inr ?_) (fun m a ha => ?_)
  · obtain ⟨F, h⟩ := ha
    have hk' : ¬ 8 ≤ k := by omega
    refine ⟨cm_sI a 47 k 0, ⟨F.sI (by omega), fun q h' => ?_⟩, ?_⟩
    · by_cases z : q = k
      · subst z; rw [I_eq]
      · rw [I_nk z]; exact h q (by omega)
    · simp (disch := omega) only [fn_15_5, hk', LC F.1, cm_w2, Nat.reduceLeDiff, Nat.reduceLT, decide_true, Bool.and_self, Bool.and_true, eq_self, Nat.le_refl, Nat.lt_irrefl, some_if, Option.bind_some, Option.bind_none, Option.some.injEq, ↓reduceIte, reduceCtorEq, Bool.false_eq_true, Bool.true_eq_false, not_true_eq_false, not_false_eq_true, cmb0, cmb1, Nat.reduceAdd, Nat.reduceMul, Nat.reduceSub, Nat.add_zero, Bool.not_eq_true, Bool.not_eq_false, Nat.reduceEqDiff, Nat.reduceLeDiff, Nat.reduceLT, Int32.reduceLT, Int32.reduceLE, iin_nI, iin_lit, iin_m1, tn_nI, tn_lit, nI_lm, nI_ml, nI_al, nI_la, nI_add, pk_mul, nI_le_l, nI_l_le, nI_lt_l, nI_l_lt, nI_eq_l, nI_l_eq, nI_eqP, nI_leP, nI_ltP, nI_m1, m1_nI, nI_ll, m1_l, l_m1]
  · obtain ⟨F, h⟩ := ha
    refine ⟨a, ?_, F, h⟩
    simp (disch := omega) only [fn_15_5, eq_self, Nat.le_refl, Nat.lt_irrefl, some_if, Option.bind_some, Option.bind_none, Option.some.injEq, ↓reduceIte, reduceCtorEq, Bool.false_eq_true, Bool.true_eq_false, not_true_eq_false, not_false_eq_true, cmb0, cmb1, Nat.reduceAdd, Nat.reduceMul, Nat.reduceSub, Nat.add_zero, Bool.not_eq_true, Bool.not_eq_false, Nat.reduceEqDiff, Nat.reduceLeDiff, Nat.reduceLT, Int32.reduceLT, Int32.reduceLE, iin_nI, iin_lit, iin_m1, tn_nI, tn_lit, nI_lm, nI_ml, nI_al, nI_la, nI_add, pk_mul, nI_le_l, nI_l_le, nI_lt_l, nI_l_lt, nI_eq_l, nI_l_eq, nI_eqP, nI_leP, nI_ltP, nI_m1, m1_nI, nI_ll, m1_l, l_m1]
theorem hm_step (y x : Int32) (b : Nat) : hm s y x (b + 1) = hm s y x b + if s 115 b = x ∧ hsum s b 12 = 0 ∧ (y = -1 ∨ ho s b = y) then 1 else 0 := rfl
theorem c22 (L : Lay v c w) (S : StC w 30 s) (I : Inv s) {p : Nat} (hp : p < 12) : ∃ y, fn_22 46 30 (nI p) w = some y ∧ FC v c w y ∧ ∀ t, t < nT s → cm_I y 47 t = hm s (nI p) (nI t) (nB s) := by
  have hB := I.2.1.2.1
  have hT := I.1.1
  obtain ⟨y0, e0, F0, h0⟩ := c15 L
  have e1 : fn_22 46 30 (nI p) w = fn_22_10 cm_N 46 30 (nI p) 0 y0 := by
    simp (disch := omega) only [fn_22, ↓LCb L, LC L, e0, eq_self, Nat.le_refl, Nat.lt_irrefl, some_if, Option.bind_some, Option.bind_none, Option.some.injEq, ↓reduceIte, reduceCtorEq, Bool.false_eq_true, Bool.true_eq_false, not_true_eq_false, not_false_eq_true, cmb0, cmb1, Nat.reduceAdd, Nat.reduceMul, Nat.reduceSub, Nat.add_zero, Bool.not_eq_true, Bool.not_eq_false, Nat.reduceEqDiff, Nat.reduceLeDiff, Nat.reduceLT, Int32.reduceLT, Int32.reduceLE, iin_nI, iin_lit, iin_m1, tn_nI, tn_lit, nI_lm, nI_ml, nI_al, nI_la, nI_add, pk_mul, nI_le_l, nI_l_le, nI_lt_l, nI_l_lt, nI_eq_l, nI_l_eq, nI_eqP, nI_leP, nI_ltP, nI_m1, m1_nI, nI_ll, m1_l, l_m1]
  rw [e1]
  refine up_0 (fun m k a => fn_22_10 m 46 30 (nI p) (nI k) a) (nB s) (fun k a => FC v c w a ∧ ∀ t, t < nT s → cm_I a 47 t = hm s (nI p) (nI t) k) (fun o => ∃ y, o = some y ∧ FC v c w y ∧ ∀ t, t < nT s → cm_I y 47 t = hm s (nI p) (nI t) (nB s)) y0 (by omega) ⟨F0, fun t ht => h0 t (by omega)⟩ (fun m b a hb ha => Or.inr ?_) (fun m a ha => ?_)
  · obtain ⟨F, h⟩ := ha
    have hb' : ¬ nB s ≤ b := by omega
    have SS := F.S S
    have pm : ¬ nI p = -1 := by rw [nI_m1 (by omega)]; exact id
    by_cases q : ho s b = nI p
    · obtain ⟨y, y1, y2, y3⟩ := c21 F.1 SS I hb
      refine ⟨y, ⟨F.tr y2, fun t ht => ?_⟩, ?_⟩
      · rw [y3 t ht, h t ht, hm_step]
        by_cases z : s 115 b = nI t ∧ hsum s b 12 = 0
        · rw [if_pos z, if_pos ⟨z.1, z.2, Or.inr q⟩]
        · rw [if_neg z, if_neg (fun z2 => z ⟨z2.1, z2.2.1⟩)]
      · simp (disch := omega) only [fn_22_10, fn_22_36, ↓LStb F.1, LSt F.1, LC F.1, SS.1, hB.1, hb', c17 F.1 SS I.2.1 hb, q, y1, eq_self, Nat.le_refl, Nat.lt_irrefl, some_if, Option.bind_some, Option.bind_none, Option.some.injEq, ↓reduceIte, reduceCtorEq, Bool.false_eq_true, Bool.true_eq_false, not_true_eq_false, not_false_eq_true, cmb0, cmb1, Nat.reduceAdd, Nat.reduceMul, Nat.reduceSub, Nat.add_zero, Bool.not_eq_true, Bool.not_eq_false, Nat.reduceEqDiff, Nat.reduceLeDiff, Nat.reduceLT, Int32.reduceLT, Int32.reduceLE, iin_nI, iin_lit, iin_m1, tn_nI, tn_lit, nI_lm, nI_ml, nI_al, nI_la, nI_add, pk_mul, nI_le_l, nI_l_le, nI_lt_l, nI_l_lt, nI_eq_l, nI_l_eq, nI_eqP, nI_leP, nI_ltP, nI_m1, m1_nI, nI_ll, m1_l, l_m1]
    · refine ⟨a, ⟨F, fun t ht => ?_⟩, ?_⟩
      · rw [h t ht, hm_step, if_neg (fun z => z.2.2.elim pm q), Int32.add_zero]
      · simp (disch := omega) only [fn_22_10, fn_22_36, ↓LStb F.1, LSt F.1, SS.1, hB.1, hb', c17 F.1 SS I.2.1 hb, q, eq_self, Nat.le_refl, Nat.lt_irrefl, some_if, Option.bind_some, Option.bind_none, Option.some.injEq, ↓reduceIte, reduceCtorEq, Bool.false_eq_true, Bool.true_eq_false, not_true_eq_false, not_false_eq_true, cmb0, cmb1, Nat.reduceAdd, Nat.reduceMul, Nat.reduceSub, Nat.add_zero, Bool.not_eq_true, Bool.not_eq_false, Nat.reduceEqDiff, Nat.reduceLeDiff, Nat.reduceLT, Int32.reduceLT, Int32.reduceLE, iin_nI, iin_lit, iin_m1, tn_nI, tn_lit, nI_lm, nI_ml, nI_al, nI_la, nI_add, pk_mul, nI_le_l, nI_l_le, nI_lt_l, nI_l_lt, nI_eq_l, nI_l_eq, nI_eqP, nI_leP, nI_ltP, nI_m1, m1_nI, nI_ll, m1_l, l_m1]
  · obtain ⟨F, h⟩ := ha
    refine ⟨a, ?_, F, h⟩
    simp (disch := omega) only [fn_22_10, ↓LStb F.1, LSt F.1, (F.S S).1, hB.1, eq_self, Nat.le_refl, Nat.lt_irrefl, some_if, Option.bind_some, Option.bind_none, Option.some.injEq, ↓reduceIte, reduceCtorEq, Bool.false_eq_true, Bool.true_eq_false, not_true_eq_false, not_false_eq_true, cmb0, cmb1, Nat.reduceAdd, Nat.reduceMul, Nat.reduceSub, Nat.add_zero, Bool.not_eq_true, Bool.not_eq_false, Nat.reduceEqDiff, Nat.reduceLeDiff, Nat.reduceLT, Int32.reduceLT, Int32.reduceLE, iin_nI, iin_lit, iin_m1, tn_nI, tn_lit, nI_lm, nI_ml, nI_al, nI_la, nI_add, pk_mul, nI_le_l, nI_l_le, nI_lt_l, nI_l_lt, nI_eq_l, nI_l_eq, nI_eqP, nI_leP, nI_ltP, nI_m1, m1_nI, nI_ll, m1_l, l_m1]
theorem c23 (L : Lay v c w) (S : StC w 30 s) (I : Inv s) : ∃ y, fn_23 46 30 w = some y ∧ FC v c w y ∧ ∀ t, t < nT s → cm_I y 47 t = hm s (-1) (nI t) (nB s) := by
  have hB := I.2.1.2.1
  have hT := I.1.1
  obtain ⟨y0, e0, F0, h0⟩ := c15 L
  have e1 : fn_23 46 30 w = fn_23_10 cm_N 46 30 0 y0 := by
    simp (disch := omega) only [fn_23, ↓LCb L, LC L, e0, eq_self, Nat.le_refl, Nat.lt_irrefl, some_if, Option.bind_some, Option.bind_none, Option.some.injEq, ↓reduceIte, reduceCtorEq, Bool.false_eq_true, Bool.true_eq_false, not_true_eq_false, not_false_eq_true, cmb0, cmb1, Nat.reduceAdd, Nat.reduceMul, Nat.reduceSub, Nat.add_zero, Bool.not_eq_true, Bool.not_eq_false, Nat.reduceEqDiff, Nat.reduceLeDiff, Nat.reduceLT, Int32.reduceLT, Int32.reduceLE, iin_nI, iin_lit, iin_m1, tn_nI, tn_lit, nI_lm, nI_ml, nI_al, nI_la, nI_add, pk_mul, nI_le_l, nI_l_le, nI_lt_l, nI_l_lt, nI_eq_l, nI_l_eq, nI_eqP, nI_leP, nI_ltP, nI_m1, m1_nI, nI_ll, m1_l, l_m1]
  rw [e1]
  refine up_0 (fun m k a => fn_23_10 m 46 30 (nI k) a) (nB s) (fun k a => FC v c w a ∧ ∀ t, t < nT s → cm_I a 47 t = hm s (-1) (nI t) k) (fun o => ∃ y, o = some y ∧ FC v c w y ∧ ∀ t, t < nT s → cm_I y 47 t = hm s (-1) (nI t) (nB s)) y0 (by omega) ⟨F0, fun t ht => h0 t (by omega)⟩ (fun m b a hb ha => Or.inr ?_) (fun m a ha => ?_)
  · obtain ⟨F, h⟩ := ha
    have hb' : ¬ nB s ≤ b := by omega
    have SS := F.S S
    obtain ⟨y, y1, y2, y3⟩ := c21 F.1 SS I hb
    refine ⟨y, ⟨F.tr y2, fun t ht => ?_⟩, ?_⟩
    · rw [y3 t ht, h t ht, hm_step]
      by_cases z : s 115 b = nI t ∧ hsum s b 12 = 0
      · rw [if_pos z, if_pos ⟨z.1, z.2, Or.inl rfl⟩]
      · rw [if_neg z, if_neg (fun z2 => z ⟨z2.1, z2.2.1⟩)]
    · simp (disch := omega) only [fn_23_10, ↓LStb F.1, LSt F.1, LC F.1, SS.1, hB.1, hb', y1, eq_self, Nat.le_refl, Nat.lt_irrefl, some_if, Option.bind_some, Option.bind_none, Option.some.injEq, ↓reduceIte, reduceCtorEq, Bool.false_eq_true, Bool.true_eq_false, not_true_eq_false, not_false_eq_true, cmb0, cmb1, Nat.reduceAdd, Nat.reduceMul, Nat.reduceSub, Nat.add_zero, Bool.not_eq_true, Bool.not_eq_false, Nat.reduceEqDiff, Nat.reduceLeDiff, Nat.reduceLT, Int32.reduceLT, Int32.reduceLE, iin_nI, iin_lit, iin_m1, tn_nI, tn_lit, nI_lm, nI_ml, nI_al, nI_la, nI_add, pk_mul, nI_le_l, nI_l_le, nI_lt_l, nI_l_lt, nI_eq_l, nI_l_eq, nI_eqP, nI_leP, nI_ltP, nI_m1, m1_nI, nI_ll, m1_l, l_m1]
  · obtain ⟨F, h⟩ := ha
    refine ⟨a, ?_, F, h⟩
    simp (disch := omega) only [fn_23_10, ↓LStb F.1, LSt F.1, (F.S S).1, hB.1, eq_self, Nat.le_refl, Nat.lt_irrefl, some_if, Option.bind_some, Option.bind_none, Option.some.injEq, ↓reduceIte, reduceCtorEq, Bool.false_eq_true, Bool.true_eq_false, not_true_eq_false, not_false_eq_true, cmb0, cmb1, Nat.reduceAdd, Nat.reduceMul, Nat.reduceSub, Nat.add_zero, Bool.not_eq_true, Bool.not_eq_false, Nat.reduceEqDiff, Nat.reduceLeDiff, Nat.reduceLT, Int32.reduceLT, Int32.reduceLE, iin_nI, iin_lit, iin_m1, tn_nI, tn_lit, nI_lm, nI_ml, nI_al, nI_la, nI_add, pk_mul, nI_le_l, nI_l_le, nI_lt_l, nI_l_lt, nI_eq_l, nI_l_eq, nI_eqP, nI_leP, nI_ltP, nI_m1, m1_nI, nI_ll, m1_l, l_m1]
theorem c27 (L : Lay v c w) (hv : v = 10 ∨ v = 20) (V : VilC w v s) (S : StC w 30 s) (I : Inv s) {p : Nat} (hp : p < 12) : fn_27 w 46 v 30 (nI p) = some (wj s p (nB s)) := by
  have hB := I.2.1.2.1
  refine up_f (fun m k a => fn_27_6 w m v 30 (nI p) a (nI k)) (nB s) (fun b a => a + if hsum s b 12 = 0 then (if ho s b = nI p then wo s (tn (s 115 b)) 5 else 0) else s 121 (12 * b + p) * wo s (tn (s 115 b)) 5 / 100) 0 _ (by omega) (fun m b a hb => ?_) (fun m => ?_)
  · have hb' : ¬ nB s ≤ b := by omega
    have hT := I.1.1
    obtain ⟨t, ht, et⟩ := (I.2.1.2.2.2.2.2.1 b hb).2.1
    have g1 : fn_1 w 31 (nI b) 1 = some (nI t) := (getB (k := 1) L S I.2.1 hb (by decide)).trans (congrArg some et)
    obtain ⟨x, hx, ex⟩ := hsum_n I.2.1 hb 12 (by omega)
    have e20 := (c20 L S hB.2 hb).trans (congrArg some ex)
    have e19 := c19 L S hB.2 hb hp
    rw [ex, et, tn_nIe (by omega)]
    by_cases q : x = 0
    · by_cases q2 : ho s b = nI p <;> simp (disch := omega) only [fn_27_6, fn_27_65, fn_27_82, ↓LStb L, LSt L, LV L hv, S.1, hB.1, hb', g1, c6i L hv V I.1 ht, e20, q, q2, c17 L S I.2.1 hb, Int32.add_zero, eq_self, Nat.le_refl, Nat.lt_irrefl, some_if, Option.bind_some, Option.bind_none, Option.some.injEq, ↓reduceIte, reduceCtorEq, Bool.false_eq_true, Bool.true_eq_false, not_true_eq_false, not_false_eq_true, cmb0, cmb1, Nat.reduceAdd, Nat.reduceMul, Nat.reduceSub, Nat.add_zero, Bool.not_eq_true, Bool.not_eq_false, Nat.reduceEqDiff, Nat.reduceLeDiff, Nat.reduceLT, Int32.reduceLT, Int32.reduceLE, iin_nI, iin_lit, iin_m1, tn_nI, tn_lit, nI_lm, nI_ml, nI_al, nI_la, nI_add, pk_mul, nI_le_l, nI_l_le, nI_lt_l, nI_l_lt, nI_eq_l, nI_l_eq, nI_eqP, nI_leP, nI_ltP, nI_m1, m1_nI, nI_ll, m1_l, l_m1]
    · have q' : ¬ x ≤ 0 := by omega
      simp (disch := omega) only [fn_27_6, fn_27_82, ↓LStb L, LSt L, LV L hv, S.1, hB.1, hb', g1, c6i L hv V I.1 ht, e20, e19, q, q', eq_self, Nat.le_refl, Nat.lt_irrefl, some_if, Option.bind_some, Option.bind_none, Option.some.injEq, ↓reduceIte, reduceCtorEq, Bool.false_eq_true, Bool.true_eq_false, not_true_eq_false, not_false_eq_true, cmb0, cmb1, Nat.reduceAdd, Nat.reduceMul, Nat.reduceSub, Nat.add_zero, Bool.not_eq_true, Bool.not_eq_false, Nat.reduceEqDiff, Nat.reduceLeDiff, Nat.reduceLT, Int32.reduceLT, Int32.reduceLE, iin_nI, iin_lit, iin_m1, tn_nI, tn_lit, nI_lm, nI_ml, nI_al, nI_la, nI_add, pk_mul, nI_le_l, nI_l_le, nI_lt_l, nI_l_lt, nI_eq_l, nI_l_eq, nI_eqP, nI_leP, nI_ltP, nI_m1, m1_nI, nI_ll, m1_l, l_m1]
  · simp (disch := omega) only [fn_27_6, ↓LStb L, LSt L, S.1, hB.1, eq_self, Nat.le_refl, Nat.lt_irrefl, some_if, Option.bind_some, Option.bind_none, Option.some.injEq, ↓reduceIte, reduceCtorEq, Bool.false_eq_true, Bool.true_eq_false, not_true_eq_false, not_false_eq_true, cmb0, cmb1, Nat.reduceAdd, Nat.reduceMul, Nat.reduceSub, Nat.add_zero, Bool.not_eq_true, Bool.not_eq_false, Nat.reduceEqDiff, Nat.reduceLeDiff, Nat.reduceLT, Int32.reduceLT, Int32.reduceLE, iin_nI, iin_lit, iin_m1, tn_nI, tn_lit, nI_lm, nI_ml, nI_al, nI_la, nI_add, pk_mul, nI_le_l, nI_l_le, nI_lt_l, nI_l_lt, nI_eq_l, nI_l_eq, nI_eqP, nI_leP, nI_ltP, nI_m1, m1_nI, nI_ll, m1_l, l_m1]
    rfl
theorem w_june (g : GG v c w s) (i : Int32) : OKW (fn_161 2 i) (fun x => (fn_254 x 96 i).map (fun r => (r, x))) w := by
  obtain ⟨L, M, C, Z, I⟩ := id g
  have hv := L.1
  have V := C.2.2.1
  have hB := I.2.1.2.1
  have hM := I.2.1.1
  have hP := I.1.2.1
  have hQ := I.1.2.2.1
  by_cases h5 : 5 ≤ nM s
  rotate_left
  · have h6 : nM s < 5 := by omega
    refine ok_ro (r := -1) g ⟨w, ?_, FC.rf L⟩ (fun x L1 M1 _ => ⟨x, ?_, FM.rf L1 M1⟩)
    · simp (disch := omega) only [fn_161, ↓LCb L, ↓LStb L, ↓LVb L hv, ↓hasBb L V I.2.1, ↓hasTb L hv C.2.1 I.1, ↓hasPb L hv C.2.1 I.1, ↓c146b L V I.2.1, LC L, LSt L, LV L hv, h5, decide_false, eq_self, Nat.le_refl, Nat.lt_irrefl, some_if, Option.bind_some, Option.bind_none, Option.some.injEq, ↓reduceIte, reduceCtorEq, Bool.false_eq_true, Bool.true_eq_false, not_true_eq_false, not_false_eq_true, cmb0, cmb1, Nat.reduceAdd, Nat.reduceMul, Nat.reduceSub, Nat.add_zero, Bool.not_eq_true, Bool.not_eq_false, Nat.reduceEqDiff, Nat.reduceLeDiff, Nat.reduceLT, Int32.reduceLT, Int32.reduceLE, iin_nI, iin_lit, iin_m1, tn_nI, tn_lit, nI_lm, nI_ml, nI_al, nI_la, nI_add, pk_mul, nI_le_l, nI_l_le, nI_lt_l, nI_l_lt, nI_eq_l, nI_l_eq, nI_eqP, nI_leP, nI_ltP, nI_m1, m1_nI, nI_ll, m1_l, l_m1]
    · cases h : cm_iin i (nP s) <;> simp (disch := omega) only [fn_254, ↓LMb L1, ↓mBoxb L1 M1 I.2.1, ↓mWhob L1 M1 I.1, ↓mThingb L1 M1 I.1, ↓mAheadb L1 M1 I.2.1, LM L1, h, h6, decide_true, Option.map_some, eq_self, Nat.le_refl, Nat.lt_irrefl, some_if, Option.bind_some, Option.bind_none, Option.some.injEq, ↓reduceIte, reduceCtorEq, Bool.false_eq_true, Bool.true_eq_false, not_true_eq_false, not_false_eq_true, cmb0, cmb1, Nat.reduceAdd, Nat.reduceMul, Nat.reduceSub, Nat.add_zero, Bool.not_eq_true, Bool.not_eq_false, Nat.reduceEqDiff, Nat.reduceLeDiff, Nat.reduceLT, Int32.reduceLT, Int32.reduceLE, iin_nI, iin_lit, iin_m1, tn_nI, tn_lit, nI_lm, nI_ml, nI_al, nI_la, nI_add, pk_mul, nI_le_l, nI_l_le, nI_lt_l, nI_l_lt, nI_eq_l, nI_l_eq, nI_eqP, nI_leP, nI_ltP, nI_m1, m1_nI, nI_ll, m1_l, l_m1]
  have h6 : ¬ nM s < 5 := by omega
  rcases iin_cs i (n := nP s) (by omega) with h | ⟨p, hp, rfl⟩
  · refine ok_ro (r := -1) g ⟨w, ?_, FC.rf L⟩ (fun x L1 M1 _ => ⟨x, ?_, FM.rf L1 M1⟩)
    · simp (disch := omega) only [fn_161, ↓LCb L, ↓LStb L, ↓LVb L hv, ↓hasBb L V I.2.1, ↓hasTb L hv C.2.1 I.1, ↓hasPb L hv C.2.1 I.1, ↓c146b L V I.2.1, LC L, LSt L, LV L hv, h5, h, decide_true, eq_self, Nat.le_refl, Nat.lt_irrefl, some_if, Option.bind_some, Option.bind_none, Option.some.injEq, ↓reduceIte, reduceCtorEq, Bool.false_eq_true, Bool.true_eq_false, not_true_eq_false, not_false_eq_true, cmb0, cmb1, Nat.reduceAdd, Nat.reduceMul, Nat.reduceSub, Nat.add_zero, Bool.not_eq_true, Bool.not_eq_false, Nat.reduceEqDiff, Nat.reduceLeDiff, Nat.reduceLT, Int32.reduceLT, Int32.reduceLE, iin_nI, iin_lit, iin_m1, tn_nI, tn_lit, nI_lm, nI_ml, nI_al, nI_la, nI_add, pk_mul, nI_le_l, nI_l_le, nI_lt_l, nI_l_lt, nI_eq_l, nI_l_eq, nI_eqP, nI_leP, nI_ltP, nI_m1, m1_nI, nI_ll, m1_l, l_m1]
    · simp (disch := omega) only [fn_254, ↓LMb L1, ↓mBoxb L1 M1 I.2.1, ↓mWhob L1 M1 I.1, ↓mThingb L1 M1 I.1, ↓mAheadb L1 M1 I.2.1, LM L1, h, Option.map_some, eq_self, Nat.le_refl, Nat.lt_irrefl, some_if, Option.bind_some, Option.bind_none, Option.some.injEq, ↓reduceIte, reduceCtorEq, Bool.false_eq_true, Bool.true_eq_false, not_true_eq_false, not_false_eq_true, cmb0, cmb1, Nat.reduceAdd, Nat.reduceMul, Nat.reduceSub, Nat.add_zero, Bool.not_eq_true, Bool.not_eq_false, Nat.reduceEqDiff, Nat.reduceLeDiff, Nat.reduceLT, Int32.reduceLT, Int32.reduceLE, iin_nI, iin_lit, iin_m1, tn_nI, tn_lit, nI_lm, nI_ml, nI_al, nI_la, nI_add, pk_mul, nI_le_l, nI_l_le, nI_lt_l, nI_l_lt, nI_eq_l, nI_l_eq, nI_eqP, nI_leP, nI_ltP, nI_m1, m1_nI, nI_ll, m1_l, l_m1]
  obtain ⟨y, y1, F, y2⟩ := c22 L V I (p := p) (by omega)
  refine ok_ro (r := s 105 p + wj s p (nB s) + pw s (fun x => hm s (nI p) x (nB s)) (nQ s)) g ⟨y, ?_, F⟩ (fun x L1 M1 _ => ⟨x, ?_, FM.rf L1 M1⟩)
  · have SS := F.S V
    have VV := F.V C.2.1 hv
    have e1 := c109 F.1 SS I.1 hp
    have e2 := c27 F.1 hv VV SS I (p := p) (by omega)
    have e3 := c25 F.1 hv VV I.1 (h := fun x => hm s (nI p) x (nB s)) y2
    simp (disch := omega) only [fn_161, fn_161_23, ↓LCb L, ↓LStb L, ↓LVb L hv, ↓hasBb L V I.2.1, ↓hasTb L hv C.2.1 I.1, ↓hasPb L hv C.2.1 I.1, ↓c146b L V I.2.1, LC L, LSt L, LV L hv, h5, decide_true, y1, ↓LCb F.1, LC F.1, S30 F.1, e1, e2, e3, eq_self, Nat.le_refl, Nat.lt_irrefl, some_if, Option.bind_some, Option.bind_none, Option.some.injEq, ↓reduceIte, reduceCtorEq, Bool.false_eq_true, Bool.true_eq_false, not_true_eq_false, not_false_eq_true, cmb0, cmb1, Nat.reduceAdd, Nat.reduceMul, Nat.reduceSub, Nat.add_zero, Bool.not_eq_true, Bool.not_eq_false, Nat.reduceEqDiff, Nat.reduceLeDiff, Nat.reduceLT, Int32.reduceLT, Int32.reduceLE, iin_nI, iin_lit, iin_m1, tn_nI, tn_lit, nI_lm, nI_ml, nI_al, nI_la, nI_add, pk_mul, nI_le_l, nI_l_le, nI_lt_l, nI_l_lt, nI_eq_l, nI_l_eq, nI_eqP, nI_leP, nI_ltP, nI_m1, m1_nI, nI_ll, m1_l, l_m1]
  · have l1 : fn_254_26 x cm_N 96 (nI p) (s 105 p) 0 = fn_254_98 x 96 (nI p) (s 105 p + wj s p (nB s)) := by
      unfold wj
      rw [← fup_add]
      refine up_f (fun m k a => fn_254_26 x m 96 (nI p) a (nI k)) (nB s) (fun b a => a + if hsum s b 12 = 0 then (if ho s b = nI p then wo s (tn (s 115 b)) 5 else 0) else s 121 (12 * b + p) * wo s (tn (s 115 b)) 5 / 100) (s 105 p) _ (by omega) (fun m b a hb => ?_) (fun m => ?_)
      · have hb' : ¬ nB s ≤ b := by omega
        have hT := I.1.1
        obtain ⟨t, ht, et⟩ := (I.2.1.2.2.2.2.2.1 b hb).2.1
        have e1 := m251 L1 M1 I hb
        have e2 := m222 L1 M1 (show t < 8 by omega)
        have e3 := m231 L1 M1 I.2.1 hb
        rw [et, tn_nIe (by omega)]
        by_cases q : hsum s b 12 = 0
        · rw [decide_eq_false (fun z => z q)] at e1
          by_cases q2 : ho s b = nI p <;> simp (disch := omega) only [fn_254_26, fn_254_78, fn_254_92, ↓LMb L1, LM L1, RM M1, hB.1, hb', et, e1, e2, e3, q, q2, Int32.add_zero, eq_self, Nat.le_refl, Nat.lt_irrefl, some_if, Option.bind_some, Option.bind_none, Option.some.injEq, ↓reduceIte, reduceCtorEq, Bool.false_eq_true, Bool.true_eq_false, not_true_eq_false, not_false_eq_true, cmb0, cmb1, Nat.reduceAdd, Nat.reduceMul, Nat.reduceSub, Nat.add_zero, Bool.not_eq_true, Bool.not_eq_false, Nat.reduceEqDiff, Nat.reduceLeDiff, Nat.reduceLT, Int32.reduceLT, Int32.reduceLE, iin_nI, iin_lit, iin_m1, tn_nI, tn_lit, nI_lm, nI_ml, nI_al, nI_la, nI_add, pk_mul, nI_le_l, nI_l_le, nI_lt_l, nI_l_lt, nI_eq_l, nI_l_eq, nI_eqP, nI_leP, nI_ltP, nI_m1, m1_nI, nI_ll, m1_l, l_m1]
        · rw [decide_eq_true q] at e1
          simp (disch := omega) only [fn_254_26, fn_254_92, ↓LMb L1, LM L1, RM M1, hB.1, hb', et, e1, e2, q, eq_self, Nat.le_refl, Nat.lt_irrefl, some_if, Option.bind_some, Option.bind_none, Option.some.injEq, ↓reduceIte, reduceCtorEq, Bool.false_eq_true, Bool.true_eq_false, not_true_eq_false, not_false_eq_true, cmb0, cmb1, Nat.reduceAdd, Nat.reduceMul, Nat.reduceSub, Nat.add_zero, Bool.not_eq_true, Bool.not_eq_false, Nat.reduceEqDiff, Nat.reduceLeDiff, Nat.reduceLT, Int32.reduceLT, Int32.reduceLE, iin_nI, iin_lit, iin_m1, tn_nI, tn_lit, nI_lm, nI_ml, nI_al, nI_la, nI_add, pk_mul, nI_le_l, nI_l_le, nI_lt_l, nI_l_lt, nI_eq_l, nI_l_eq, nI_eqP, nI_leP, nI_ltP, nI_m1, m1_nI, nI_ll, m1_l, l_m1]
      · simp (disch := omega) only [fn_254_26, ↓LMb L1, LM L1, RM M1, hB.1, eq_self, Nat.le_refl, Nat.lt_irrefl, some_if, Option.bind_some, Option.bind_none, Option.some.injEq, ↓reduceIte, reduceCtorEq, Bool.false_eq_true, Bool.true_eq_false, not_true_eq_false, not_false_eq_true, cmb0, cmb1, Nat.reduceAdd, Nat.reduceMul, Nat.reduceSub, Nat.add_zero, Bool.not_eq_true, Bool.not_eq_false, Nat.reduceEqDiff, Nat.reduceLeDiff, Nat.reduceLT, Int32.reduceLT, Int32.reduceLE, iin_nI, iin_lit, iin_m1, tn_nI, tn_lit, nI_lm, nI_ml, nI_al, nI_la, nI_add, pk_mul, nI_le_l, nI_l_le, nI_lt_l, nI_l_lt, nI_eq_l, nI_l_eq, nI_eqP, nI_leP, nI_ltP, nI_m1, m1_nI, nI_ll, m1_l, l_m1]
    have l2 : ∀ z, fn_254_98 x 96 (nI p) z = some (z + pw s (fun x => hm s (nI p) x (nB s)) (nQ s)) := by
      intro z
      unfold pw
      rw [← fup_add]
      refine up_f (fun m k a => fn_254_100 x m 96 (nI p) a (nI k)) (nQ s) (fun k a => a + pmn s (fun x => hm s (nI p) x (nB s)) k * s 110 k) z _ (by omega) (fun m k a hk => ?_) (fun m => ?_)
      · have hk' : ¬ nQ s ≤ k := by omega
        simp (disch := omega) only [fn_254_100, ↓LMb L1, LM L1, RM M1, hQ.1, hk', m253 L1 M1 I (nI p) hk, Int32.mul_comm (s 110 k), eq_self, Nat.le_refl, Nat.lt_irrefl, some_if, Option.bind_some, Option.bind_none, Option.some.injEq, ↓reduceIte, reduceCtorEq, Bool.false_eq_true, Bool.true_eq_false, not_true_eq_false, not_false_eq_true, cmb0, cmb1, Nat.reduceAdd, Nat.reduceMul, Nat.reduceSub, Nat.add_zero, Bool.not_eq_true, Bool.not_eq_false, Nat.reduceEqDiff, Nat.reduceLeDiff, Nat.reduceLT, Int32.reduceLT, Int32.reduceLE, iin_nI, iin_lit, iin_m1, tn_nI, tn_lit, nI_lm, nI_ml, nI_al, nI_la, nI_add, pk_mul, nI_le_l, nI_l_le, nI_lt_l, nI_l_lt, nI_eq_l, nI_l_eq, nI_eqP, nI_leP, nI_ltP, nI_m1, m1_nI, nI_ll, m1_l, l_m1]
      · simp (disch := omega) only [fn_254_100, ↓LMb L1, LM L1, RM M1, hQ.1, eq_self, Nat.le_refl, Nat.lt_irrefl, some_if, Option.bind_some, Option.bind_none, Option.some.injEq, ↓reduceIte, reduceCtorEq, Bool.false_eq_true, Bool.true_eq_false, not_true_eq_false, not_false_eq_true, cmb0, cmb1, Nat.reduceAdd, Nat.reduceMul, Nat.reduceSub, Nat.add_zero, Bool.not_eq_true, Bool.not_eq_false, Nat.reduceEqDiff, Nat.reduceLeDiff, Nat.reduceLT, Int32.reduceLT, Int32.reduceLE, iin_nI, iin_lit, iin_m1, tn_nI, tn_lit, nI_lm, nI_ml, nI_al, nI_la, nI_add, pk_mul, nI_le_l, nI_l_le, nI_lt_l, nI_l_lt, nI_eq_l, nI_l_eq, nI_eqP, nI_leP, nI_ltP, nI_m1, m1_nI, nI_ll, m1_l, l_m1]
    simp (disch := omega) only [fn_254, fn_254_17, ↓LMb L1, ↓mBoxb L1 M1 I.2.1, ↓mWhob L1 M1 I.1, ↓mThingb L1 M1 I.1, ↓mAheadb L1 M1 I.2.1, LM L1, RM M1, h6, decide_false, l1, l2, Option.map_some, eq_self, Nat.le_refl, Nat.lt_irrefl, some_if, Option.bind_some, Option.bind_none, Option.some.injEq, ↓reduceIte, reduceCtorEq, Bool.false_eq_true, Bool.true_eq_false, not_true_eq_false, not_false_eq_true, cmb0, cmb1, Nat.reduceAdd, Nat.reduceMul, Nat.reduceSub, Nat.add_zero, Bool.not_eq_true, Bool.not_eq_false, Nat.reduceEqDiff, Nat.reduceLeDiff, Nat.reduceLT, Int32.reduceLT, Int32.reduceLE, iin_nI, iin_lit, iin_m1, tn_nI, tn_lit, nI_lm, nI_ml, nI_al, nI_la, nI_add, pk_mul, nI_le_l, nI_l_le, nI_lt_l, nI_l_lt, nI_eq_l, nI_l_eq, nI_eqP, nI_leP, nI_ltP, nI_m1, m1_nI, nI_ll, m1_l, l_m1]
end JUNE
