/-! numbers, signs, words taken by the reference; the class's place among its tokens -/
section NUMS
variable {v c n m q k p : Nat} {b : Nat → Int32} {w w' w'' x y z : cm_W}
theorem nvs_lt (h : ∀ i, i < k → kd b n (p + i) = 2) : ∀ l, l ≤ k → nvs b p l < 10 ^ l := by
  intro l
  induction l with
  | zero => intro _; show (0 : Nat) < 1; omega
  | succ l ih =>
    intro hl
    have i1 := ih (by omega)
    have hk := h l (by omega)
    rw [kd_b (kd_lt (b := b) (n := n) (p := p + l) (by omega))] at hk
    obtain ⟨e, h1, h2⟩ := dig_n hk
    have st2 : nvs b p (l + 1) = 10 * nvs b p l + (tn (b (p + l)) - 48) := rfl
    rw [st2, Nat.pow_succ]
    omega
theorem nvs_4 (h : ∀ i, i < k → kd b n (p + i) = 2) {l : Nat} (hl : l ≤ k) (h4 : l ≤ 4) : nvs b p l < 10000 := by
  have h1 := nvs_lt h l hl
  have : 10 ^ l ≤ 10 ^ 4 := Nat.pow_le_pow_right (by omega) h4
  omega
theorem vs_nvs (h : ∀ i, i < k → kd b n (p + i) = 2) : ∀ l, l ≤ k → vs b 2 p l = lN (nvs b p l) := by
  intro l
  induction l with
  | zero => intro _; rfl
  | succ l ih =>
    intro hl
    have hk := h l (by omega)
    rw [kd_b (kd_lt (b := b) (n := n) (p := p + l) (by omega))] at hk
    obtain ⟨e, h1, h2⟩ := dig_n hk
    have st : vs b 2 p (l + 1) = vs b 2 p l * 10 + (b (p + l) - 48).toInt64 := rfl
    have st2 : nvs b p (l + 1) = 10 * nvs b p l + (tn (b (p + l)) - 48) := rfl
    rw [st, st2, ih (by omega)]
    generalize tn (b (p + l)) = t at *
    have e2 : b (p + l) - 48 = nI (t - 48) := by rw [e]; exact pk_sub (b := 48) (by omega)
    rw [e2, nI_l (by omega), show (10 : Int64) = lN 10 from rfl, lN_mul, lN_add, Nat.mul_comm]
theorem isIn_n (w : cm_W) {r lo hi : Nat} (h1 : r < 2147483648) (h2 : lo < 2147483648) (h3 : hi < 2147483648) : fn_194 w (nI r) (nI lo) (nI hi) = some (decide (lo ≤ r ∧ r ≤ hi)) := by
  unfold fn_194
  by_cases a : r < lo
  · rw [if_pos (nI_lt a h2), decide_eq_false (by omega)]
  · rw [if_neg (nI_nlt (by omega) h1)]
    by_cases c : hi < r
    · rw [if_pos (nI_lt c h1), decide_eq_false (by omega)]
    · rw [if_neg (nI_nlt (by omega) h3), decide_eq_true (by omega)]
theorem number_ok (L : Lay v c x) (X : TX b n x) (hq : q ≤ n) (e : cm_I x 96 11 = nI q) {lo hi : Nat} (hlo : lo < 10000) (hhi : hi < 10000) : ∃ z, fn_206 96 (nI lo) (nI hi) x = some (numok b n (sk b n q) lo hi, z) ∧ FX v c x z ∧ cm_I z 96 11 = nI (if numok b n (sk b n q) lo hi then sk b n q + nl b n (sk b n q) else sk b n q) ∧ (numok b n (sk b n q) lo hi = true → cm_I z 96 37 = nI (nvs b (sk b n q) (nl b n (sk b n q)))) := by
  obtain ⟨y0, a0, F0, e0, -, -⟩ := blanks_ok L X hq e
  have pn := sk_le (b := b) hq
  generalize sk b n q = p at *
  have n9 := X.2.1
  obtain ⟨rn, re⟩ := nl_run (b := b) (n := n) (p := p)
  have wn : p + nl b n p ≤ n := run_le pn (by omega) rn
  unfold numok
  generalize nl b n p = l at *
  have main : ∀ e i z N, i + e = l → e < N → FX v c x z → cm_I z 96 11 = nI p → cm_I z 96 37 = nI (nvs b p (if i ≤ 4 then i else 4)) → ∃ z', fn_206_14 N 96 (nI lo) (nI hi) (nI (p + i)) z = fn_206_81 96 (nI lo) (nI hi) (nI (p + l)) z' ∧ FX v c x z' ∧ cm_I z' 96 11 = nI p ∧ cm_I z' 96 37 = nI (nvs b p (if l ≤ 4 then l else 4)) := by
    intro e
    induction e with
    | zero =>
      intro i z N h1 h2 F h11 h37
      obtain ⟨N, rfl⟩ : ∃ M, N = M + 1 := ⟨N - 1, by omega⟩
      obtain rfl : i = l := by omega
      have T := F.T X
      refine ⟨z, ?_, F, h11, h37⟩
      by_cases hi' : p + i < n
      · have hi2 : ¬ n ≤ p + i := by omega
        have eb := T.2.2 _ hi'
        rw [kd_b hi'] at re
        by_cases k1 : b (p + i) < 48
        · simp (disch := omega) only [fn_206_14, ↓LMb F.1, LM F.1, T.1, hi2, eb, k1, eq_self, Nat.le_refl, Nat.lt_irrefl, some_if, Option.bind_some, Option.bind_none, Option.some.injEq, ↓reduceIte, reduceCtorEq, Bool.false_eq_true, Bool.true_eq_false, not_true_eq_false, not_false_eq_true, cmb0, cmb1, Nat.reduceAdd, Nat.reduceMul, Nat.reduceSub, Nat.add_zero, Bool.not_eq_true, Bool.not_eq_false, Nat.reduceEqDiff, Nat.reduceLeDiff, Nat.reduceLT, Int32.reduceLT, Int32.reduceLE, iin_nI, iin_lit, iin_m1, tn_nI, tn_lit, nI_lm, nI_ml, nI_al, nI_la, nI_add, pk_mul, nI_le_l, nI_l_le, nI_lt_l, nI_l_lt, nI_eq_l, nI_l_eq, nI_eqP, nI_leP, nI_ltP, nI_m1, m1_nI, nI_ll, m1_l, l_m1]
        · have k2 : 57 < b (p + i) := by
            by_cases k3 : 57 < b (p + i)
            · exact k3
            · exact absurd ((bk2 _).mpr ⟨k1, k3⟩) re
          simp (disch := omega) only [fn_206_14, ↓LMb F.1, LM F.1, T.1, hi2, eb, k1, k2, eq_self, Nat.le_refl, Nat.lt_irrefl, some_if, Option.bind_some, Option.bind_none, Option.some.injEq, ↓reduceIte, reduceCtorEq, Bool.false_eq_true, Bool.true_eq_false, not_true_eq_false, not_false_eq_true, cmb0, cmb1, Nat.reduceAdd, Nat.reduceMul, Nat.reduceSub, Nat.add_zero, Bool.not_eq_true, Bool.not_eq_false, Nat.reduceEqDiff, Nat.reduceLeDiff, Nat.reduceLT, Int32.reduceLT, Int32.reduceLE, iin_nI, iin_lit, iin_m1, tn_nI, tn_lit, nI_lm, nI_ml, nI_al, nI_la, nI_add, pk_mul, nI_le_l, nI_l_le, nI_lt_l, nI_l_lt, nI_eq_l, nI_l_eq, nI_eqP, nI_leP, nI_ltP, nI_m1, m1_nI, nI_ll, m1_l, l_m1]
      · have le : n ≤ p + i := by omega
        simp (disch := omega) only [fn_206_14, LM F.1, T.1, le, eq_self, Nat.le_refl, Nat.lt_irrefl, some_if, Option.bind_some, Option.bind_none, Option.some.injEq, ↓reduceIte, reduceCtorEq, Bool.false_eq_true, Bool.true_eq_false, not_true_eq_false, not_false_eq_true, cmb0, cmb1, Nat.reduceAdd, Nat.reduceMul, Nat.reduceSub, Nat.add_zero, Bool.not_eq_true, Bool.not_eq_false, Nat.reduceEqDiff, Nat.reduceLeDiff, Nat.reduceLT, Int32.reduceLT, Int32.reduceLE, iin_nI, iin_lit, iin_m1, tn_nI, tn_lit, nI_lm, nI_ml, nI_al, nI_la, nI_add, pk_mul, nI_le_l, nI_l_le, nI_lt_l, nI_l_lt, nI_eq_l, nI_l_eq, nI_eqP, nI_leP, nI_ltP, nI_m1, m1_nI, nI_ll, m1_l, l_m1]
    | succ e ih =>
      intro i z N h1 h2 F h11 h37
      obtain ⟨N, rfl⟩ : ∃ M, N = M + 1 := ⟨N - 1, by omega⟩
      have T := F.T X
      have ki := rn i (by omega)
      have hi' := kd_lt (b := b) (n := n) (p := p + i) (by omega)
      have hi2 : ¬ n ≤ p + i := by omega
      have eb := T.2.2 _ hi'
      rw [kd_b hi'] at ki
      obtain ⟨k1, k2⟩ := (bk2 _).mp ki
      obtain ⟨ed, d1, d2⟩ := dig_n ki
      have sb : nI (p + i) - nI p = nI i := by rw [pk_sub (by omega), Nat.add_sub_cancel_left]
      by_cases z4 : 4 ≤ i
      · have e4 : (if i + 1 ≤ 4 then i + 1 else 4) = (if i ≤ 4 then i else 4) := by split <;> split <;> omega
        obtain ⟨z', a1, G⟩ := ih (i + 1) z N (by omega) (by omega) F h11 (by rw [e4]; exact h37)
        refine ⟨z', ?_, G⟩
        rw [← a1]
        simp (disch := omega) only [fn_206_14, fn_206_75, ↓LMb F.1, LM F.1, T.1, h11, hi2, eb, k1, k2, sb, z4, cm_w2, Nat.reduceLeDiff, Nat.reduceLT, decide_true, Bool.and_self, Bool.and_true, eq_self, Nat.le_refl, Nat.lt_irrefl, some_if, Option.bind_some, Option.bind_none, Option.some.injEq, ↓reduceIte, reduceCtorEq, Bool.false_eq_true, Bool.true_eq_false, not_true_eq_false, not_false_eq_true, cmb0, cmb1, Nat.reduceAdd, Nat.reduceMul, Nat.reduceSub, Nat.add_zero, Bool.not_eq_true, Bool.not_eq_false, Nat.reduceEqDiff, Nat.reduceLeDiff, Nat.reduceLT, Int32.reduceLT, Int32.reduceLE, iin_nI, iin_lit, iin_m1, tn_nI, tn_lit, nI_lm, nI_ml, nI_al, nI_la, nI_add, pk_mul, nI_le_l, nI_l_le, nI_lt_l, nI_l_lt, nI_eq_l, nI_l_eq, nI_eqP, nI_leP, nI_ltP, nI_m1, m1_nI, nI_ll, m1_l, l_m1]
        rfl
      · have e4 : (if i + 1 ≤ 4 then i + 1 else 4) = i + 1 := by split <;> omega
        have e5 : (if i ≤ 4 then i else 4) = i := by split <;> omega
        rw [e5] at h37
        have st2 : nvs b p (i + 1) = 10 * nvs b p i + (tn (b (p + i)) - 48) := rfl
        have n4 := nvs_4 rn (l := i) (by omega) (by omega)
        have up : (10 : Int32) * nI (nvs b p i) + b (p + i) - 48 = nI (nvs b p (i + 1)) := by
          rw [st2]
          generalize tn (b (p + i)) = t at *
          rw [ed, show (10 : Int32) * nI (nvs b p i) = nI (10 * nvs b p i) from nI_lm 10 _, nI_add, show nI (10 * nvs b p i + t) - 48 = nI (10 * nvs b p i + t - 48) from pk_sub (b := 48) (by omega)]
          congr 1
          omega
        obtain ⟨z', a1, G⟩ := ih (i + 1) (cm_sI z 96 37 (nI (nvs b p (i + 1)))) N (by omega) (by omega) (F.sI (by omega)) ((I_nk (by omega)).trans h11) (by rw [e4]; exact I_eq)
        refine ⟨z', ?_, G⟩
        rw [← a1, ← up]
        simp (disch := omega) only [fn_206_14, fn_206_75, ↓LMb F.1, LM F.1, T.1, h11, h37, hi2, eb, k1, k2, sb, z4, cm_w2, Nat.reduceLeDiff, Nat.reduceLT, decide_true, Bool.and_self, Bool.and_true, eq_self, Nat.le_refl, Nat.lt_irrefl, some_if, Option.bind_some, Option.bind_none, Option.some.injEq, ↓reduceIte, reduceCtorEq, Bool.false_eq_true, Bool.true_eq_false, not_true_eq_false, not_false_eq_true, cmb0, cmb1, Nat.reduceAdd, Nat.reduceMul, Nat.reduceSub, Nat.add_zero, Bool.not_eq_true, Bool.not_eq_false, Nat.reduceEqDiff, Nat.reduceLeDiff, Nat.reduceLT, Int32.reduceLT, Int32.reduceLE, iin_nI, iin_lit, iin_m1, tn_nI, tn_lit, nI_lm, nI_ml, nI_al, nI_la, nI_add, pk_mul, nI_le_l, nI_l_le, nI_lt_l, nI_l_lt, nI_eq_l, nI_l_eq, nI_eqP, nI_leP, nI_ltP, nI_m1, m1_nI, nI_ll, m1_l, l_m1]
        rfl
  obtain ⟨z, a1, F, h11, h37⟩ := main l 0 (cm_sI y0 96 37 0) cm_N (by omega) (Nat.lt_of_le_of_lt (show l ≤ 900 by omega) (by decide +kernel)) (F0.sI (by omega)) ((I_nk (by omega)).trans e0) I_eq
  have e206 : fn_206 96 (nI lo) (nI hi) x = fn_206_81 96 (nI lo) (nI hi) (nI (p + l)) z := by
    rw [← a1, fn_206, if_pos (LM L).1, bd a0, if_pos (LM F0.1).1, if_pos (show cm_w2 96 143 96 = true from rfl), e0]
    rfl
  rw [e206]
  have sb : nI (p + l) - nI p = nI l := by rw [pk_sub (by omega), Nat.add_sub_cancel_left]
  by_cases z0 : l = 0
  · have : ¬ (l ≠ 0 ∧ l ≤ 4 ∧ lo ≤ nvs b p l ∧ nvs b p l ≤ hi) := fun h => h.1 z0
    refine ⟨z, ?_, F, ?_, fun h => ?_⟩
    · rw [decide_eq_false this, z0]
      simp (disch := omega) only [fn_206_81, LM F.1, h11, eq_self, Nat.le_refl, Nat.lt_irrefl, some_if, Option.bind_some, Option.bind_none, Option.some.injEq, ↓reduceIte, reduceCtorEq, Bool.false_eq_true, Bool.true_eq_false, not_true_eq_false, not_false_eq_true, cmb0, cmb1, Nat.reduceAdd, Nat.reduceMul, Nat.reduceSub, Nat.add_zero, Bool.not_eq_true, Bool.not_eq_false, Nat.reduceEqDiff, Nat.reduceLeDiff, Nat.reduceLT, Int32.reduceLT, Int32.reduceLE, iin_nI, iin_lit, iin_m1, tn_nI, tn_lit, nI_lm, nI_ml, nI_al, nI_la, nI_add, pk_mul, nI_le_l, nI_l_le, nI_lt_l, nI_l_lt, nI_eq_l, nI_l_eq, nI_eqP, nI_leP, nI_ltP, nI_m1, m1_nI, nI_ll, m1_l, l_m1]
    · rw [decide_eq_false this]; exact h11
    · rw [decide_eq_false this] at h; cases h
  · have pl : ¬ p + l = p := by omega
    by_cases z4 : l ≤ 4
    · have e5 : (if l ≤ 4 then l else 4) = l := if_pos z4
      rw [e5] at h37
      have n4 := nvs_4 rn (l := l) (Nat.le_refl _) z4
      have z5 : ¬ 4 < l := by omega
      have e194 := isIn_n z (r := nvs b p l) (lo := lo) (hi := hi) (by omega) (by omega) (by omega)
      by_cases zz : lo ≤ nvs b p l ∧ nvs b p l ≤ hi
      · rw [decide_eq_true zz] at e194
        have : (l ≠ 0 ∧ l ≤ 4 ∧ lo ≤ nvs b p l ∧ nvs b p l ≤ hi) := ⟨z0, z4, zz⟩
        refine ⟨cm_sI z 96 11 (nI (p + l)), ?_, F.sI (by omega), ?_, fun _ => ?_⟩
        · rw [decide_eq_true this]
          simp (disch := omega) only [fn_206_81, fn_206_113, LM F.1, h11, h37, pl, sb, z5, e194, cm_w2, Nat.reduceLeDiff, Nat.reduceLT, decide_true, Bool.and_self, Bool.and_true, eq_self, Nat.le_refl, Nat.lt_irrefl, some_if, Option.bind_some, Option.bind_none, Option.some.injEq, ↓reduceIte, reduceCtorEq, Bool.false_eq_true, Bool.true_eq_false, not_true_eq_false, not_false_eq_true, cmb0, cmb1, Nat.reduceAdd, Nat.reduceMul, Nat.reduceSub, Nat.add_zero, Bool.not_eq_true, Bool.not_eq_false, Nat.reduceEqDiff, Nat.reduceLeDiff, Nat.reduceLT, Int32.reduceLT, Int32.reduceLE, iin_nI, iin_lit, iin_m1, tn_nI, tn_lit, nI_lm, nI_ml, nI_al, nI_la, nI_add, pk_mul, nI_le_l, nI_l_le, nI_lt_l, nI_l_lt, nI_eq_l, nI_l_eq, nI_eqP, nI_leP, nI_ltP, nI_m1, m1_nI, nI_ll, m1_l, l_m1]
        · rw [decide_eq_true this]; exact I_eq
        · rw [I_nk (by omega)]; exact h37
      · rw [decide_eq_false zz] at e194
        have : ¬ (l ≠ 0 ∧ l ≤ 4 ∧ lo ≤ nvs b p l ∧ nvs b p l ≤ hi) := fun h => zz h.2.2
        refine ⟨z, ?_, F, ?_, fun h => ?_⟩
        · rw [decide_eq_false this]
          simp (disch := omega) only [fn_206_81, fn_206_113, LM F.1, h11, h37, pl, sb, z5, e194, cm_w2, Nat.reduceLeDiff, Nat.reduceLT, decide_true, Bool.and_self, Bool.and_true, eq_self, Nat.le_refl, Nat.lt_irrefl, some_if, Option.bind_some, Option.bind_none, Option.some.injEq, ↓reduceIte, reduceCtorEq, Bool.false_eq_true, Bool.true_eq_false, not_true_eq_false, not_false_eq_true, cmb0, cmb1, Nat.reduceAdd, Nat.reduceMul, Nat.reduceSub, Nat.add_zero, Bool.not_eq_true, Bool.not_eq_false, Nat.reduceEqDiff, Nat.reduceLeDiff, Nat.reduceLT, Int32.reduceLT, Int32.reduceLE, iin_nI, iin_lit, iin_m1, tn_nI, tn_lit, nI_lm, nI_ml, nI_al, nI_la, nI_add, pk_mul, nI_le_l, nI_l_le, nI_lt_l, nI_l_lt, nI_eq_l, nI_l_eq, nI_eqP, nI_leP, nI_ltP, nI_m1, m1_nI, nI_ll, m1_l, l_m1]
        · rw [decide_eq_false this]; exact h11
        · rw [decide_eq_false this] at h; cases h
    · have : ¬ (l ≠ 0 ∧ l ≤ 4 ∧ lo ≤ nvs b p l ∧ nvs b p l ≤ hi) := fun h => z4 h.2.1
      have z5 : 4 < l := by omega
      refine ⟨z, ?_, F, ?_, fun h => ?_⟩
      · rw [decide_eq_false this]
        simp (disch := omega) only [fn_206_81, LM F.1, h11, pl, sb, z5, eq_self, Nat.le_refl, Nat.lt_irrefl, some_if, Option.bind_some, Option.bind_none, Option.some.injEq, ↓reduceIte, reduceCtorEq, Bool.false_eq_true, Bool.true_eq_false, not_true_eq_false, not_false_eq_true, cmb0, cmb1, Nat.reduceAdd, Nat.reduceMul, Nat.reduceSub, Nat.add_zero, Bool.not_eq_true, Bool.not_eq_false, Nat.reduceEqDiff, Nat.reduceLeDiff, Nat.reduceLT, Int32.reduceLT, Int32.reduceLE, iin_nI, iin_lit, iin_m1, tn_nI, tn_lit, nI_lm, nI_ml, nI_al, nI_la, nI_add, pk_mul, nI_le_l, nI_l_le, nI_lt_l, nI_l_lt, nI_eq_l, nI_l_eq, nI_eqP, nI_leP, nI_ltP, nI_m1, m1_nI, nI_ll, m1_l, l_m1]
      · rw [decide_eq_false this]; exact h11
      · rw [decide_eq_false this] at h; cases h
theorem sign_ok (L : Lay v c x) (X : TX b n x) (hq : q ≤ n) (e : cm_I x 96 11 = nI q) (s : Nat) : ∃ z, fn_205 96 (nI s) x = some (sgok b n (sk b n q) s, z) ∧ FX v c x z ∧ cm_I z 96 11 = nI (if sgok b n (sk b n q) s then sk b n q + 1 else sk b n q) := by
  obtain ⟨y0, a0, F0, e0, -, -⟩ := blanks_ok L X hq e
  have pn := sk_le (b := b) hq
  generalize sk b n q = p at *
  have T := F0.T X
  have n9 := X.2.1
  unfold sgok
  by_cases hp : p < n
  · have eb := T.2.2 p hp
    have hpn : ¬ p = n := by omega
    by_cases z : b p = nI s
    · have : p < n ∧ b p = nI s := ⟨hp, z⟩
      refine ⟨cm_sI y0 96 11 (nI (p + 1)), ?_, F0.sI (by omega), ?_⟩
      · rw [decide_eq_true this]
        simp (disch := omega) only [fn_205, fn_205_30, LM L, a0, ↓LMb F0.1, LM F0.1, e0, T.1, hpn, eb, z, cm_w2, Nat.reduceLeDiff, Nat.reduceLT, decide_true, Bool.and_self, Bool.and_true, eq_self, Nat.le_refl, Nat.lt_irrefl, some_if, Option.bind_some, Option.bind_none, Option.some.injEq, ↓reduceIte, reduceCtorEq, Bool.false_eq_true, Bool.true_eq_false, not_true_eq_false, not_false_eq_true, cmb0, cmb1, Nat.reduceAdd, Nat.reduceMul, Nat.reduceSub, Nat.add_zero, Bool.not_eq_true, Bool.not_eq_false, Nat.reduceEqDiff, Nat.reduceLeDiff, Nat.reduceLT, Int32.reduceLT, Int32.reduceLE, iin_nI, iin_lit, iin_m1, tn_nI, tn_lit, nI_lm, nI_ml, nI_al, nI_la, nI_add, pk_mul, nI_le_l, nI_l_le, nI_lt_l, nI_l_lt, nI_eq_l, nI_l_eq, nI_eqP, nI_leP, nI_ltP, nI_m1, m1_nI, nI_ll, m1_l, l_m1]
      · rw [decide_eq_true this]; exact I_eq
    · have : ¬ (p < n ∧ b p = nI s) := fun h => z h.2
      refine ⟨y0, ?_, F0, ?_⟩
      · rw [decide_eq_false this]
        simp (disch := omega) only [fn_205, LM L, a0, ↓LMb F0.1, LM F0.1, e0, T.1, hpn, eb, z, eq_self, Nat.le_refl, Nat.lt_irrefl, some_if, Option.bind_some, Option.bind_none, Option.some.injEq, ↓reduceIte, reduceCtorEq, Bool.false_eq_true, Bool.true_eq_false, not_true_eq_false, not_false_eq_true, cmb0, cmb1, Nat.reduceAdd, Nat.reduceMul, Nat.reduceSub, Nat.add_zero, Bool.not_eq_true, Bool.not_eq_false, Nat.reduceEqDiff, Nat.reduceLeDiff, Nat.reduceLT, Int32.reduceLT, Int32.reduceLE, iin_nI, iin_lit, iin_m1, tn_nI, tn_lit, nI_lm, nI_ml, nI_al, nI_la, nI_add, pk_mul, nI_le_l, nI_l_le, nI_lt_l, nI_l_lt, nI_eq_l, nI_l_eq, nI_eqP, nI_leP, nI_ltP, nI_m1, m1_nI, nI_ll, m1_l, l_m1]
      · rw [decide_eq_false this]; exact e0
  · have : ¬ (p < n ∧ b p = nI s) := fun h => hp h.1
    have hpn : p = n := by omega
    refine ⟨y0, ?_, F0, ?_⟩
    · rw [decide_eq_false this]
      simp (disch := omega) only [fn_205, LM L, a0, LM F0.1, e0, T.1, hpn, eq_self, Nat.le_refl, Nat.lt_irrefl, some_if, Option.bind_some, Option.bind_none, Option.some.injEq, ↓reduceIte, reduceCtorEq, Bool.false_eq_true, Bool.true_eq_false, not_true_eq_false, not_false_eq_true, cmb0, cmb1, Nat.reduceAdd, Nat.reduceMul, Nat.reduceSub, Nat.add_zero, Bool.not_eq_true, Bool.not_eq_false, Nat.reduceEqDiff, Nat.reduceLeDiff, Nat.reduceLT, Int32.reduceLT, Int32.reduceLE, iin_nI, iin_lit, iin_m1, tn_nI, tn_lit, nI_lm, nI_ml, nI_al, nI_la, nI_add, pk_mul, nI_le_l, nI_l_le, nI_lt_l, nI_l_lt, nI_eq_l, nI_l_eq, nI_eqP, nI_leP, nI_ltP, nI_m1, m1_nI, nI_ll, m1_l, l_m1]
    · rw [decide_eq_false this]; exact e0
theorem takes_ok (L : Lay v c x) (X : TX b n x) (hq : q ≤ n) (e : cm_I x 96 11 = nI q) {j : Nat} (hj : j < 14) : ∃ z, fn_204 96 (lw_wl j) x = some (decide (wd b n (sk b n q) = nI j), z) ∧ FX v c x z ∧ cm_I z 96 11 = nI (if decide (wd b n (sk b n q) = nI j) = true then sk b n q + wl b n (sk b n q) else sk b n q) := by
  obtain ⟨y, a1, F, h11, h36, -⟩ := word_ok L X hq e
  have ww := wv_wd (b := b) (n := n) (p := sk b n q) hj
  by_cases z : wd b n (sk b n q) = nI j
  · have wq := ww.mpr z
    refine ⟨cm_sI y 96 11 (nI (sk b n q + wl b n (sk b n q))), ?_, F.sI (by omega), ?_⟩
    · rw [decide_eq_true z, fn_204, if_pos (LM L).1, bd a1]
      show (if lg_cmp (wv b n (sk b n q)) (lw_wl j) = 0 then fn_204_11 96 y else some (false, y)) = _
      rw [if_pos ((lgc_eq _ _).mpr wq), fn_204_11, if_pos (LM F.1).1, if_pos (show cm_w2 96 143 96 = true from rfl), h36]
    · rw [decide_eq_true z]; exact I_eq
  · have wq : ¬ wv b n (sk b n q) = lw_wl j := fun h => z (ww.mp h)
    refine ⟨y, ?_, F, ?_⟩
    · rw [decide_eq_false z, fn_204, if_pos (LM L).1, bd a1]
      show (if lg_cmp (wv b n (sk b n q)) (lw_wl j) = 0 then fn_204_11 96 y else some (false, y)) = _
      rw [if_neg (fun h => wq ((lgc_eq _ _).mp h))]
    · rw [decide_eq_false z]; exact h11
end NUMS
