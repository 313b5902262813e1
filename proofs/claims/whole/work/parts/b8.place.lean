/-! the class's place among its tokens: what it accepts, what it reads there -/
/-- the class stands at the token that begins at p, with that fault -/
def CR (b : Nat → Int32) (n : Nat) (w : cm_W) (p : Nat) (f : Int32) : Prop := ∃ k m, TK b n m w ∧ k < m ∧ pos b n k = p ∧ cm_I w 4 6 = nI k ∧ cm_I w 4 7 = f
/-- only the place and the fault are written -/
def FA (v c : Nat) (w y : cm_W) : Prop := Lay v c y ∧ (∀ a, a ≠ 4 → ∀ j, cm_I y a j = cm_I w a j) ∧ (∀ j, j ≠ 6 → j ≠ 7 → cm_I y 4 j = cm_I w 4 j) ∧ cm_L y = cm_L w
/-- the first name that's so -/
def fnd (f : Nat → Int64) (X : Int64) : Nat → Nat → Int32
  | 0, _ => -1
  | d + 1, k => if f k = X then nI k else fnd f X d (k + 1)
section PLACE
variable {v c n m q k p : Nat} {b : Nat → Int32} {w w' w'' x y z : cm_W} {f : Int32}
theorem FA.rf (L : Lay v c w) : FA v c w w := ⟨L, fun _ _ _ => rfl, fun _ _ _ => rfl, rfl⟩
theorem FA.tr (h : FA v c w y) (h2 : FA v c y z) : FA v c w z := ⟨h2.1, fun a ha j => (h2.2.1 a ha j).trans (h.2.1 a ha j), fun j a1 a2 => (h2.2.2.1 j a1 a2).trans (h.2.2.1 j a1 a2), h2.2.2.2.trans h.2.2.2⟩
/-- the tokens stay where other cells are written -/
theorem TK.eq (h : TK b n m w) (h5 : cm_I y 4 5 = cm_I w 4 5) (hI : ∀ a, 5 ≤ a → a ≤ 9 → ∀ j, cm_I y a j = cm_I w a j) (hL : ∀ j, cm_L y 8 j = cm_L w 8 j) : TK b n m y := by
  obtain ⟨t1, t2, t3, t4, t5, t6⟩ := h
  refine ⟨h5.trans t1, t2, t3, t4, fun j hj => ?_, fun j hj => ?_⟩
  · rw [hI 5 (by omega) (by omega), hI 6 (by omega) (by omega), hI 7 (by omega) (by omega), hL]
    exact t5 j hj
  · rw [hI 9 (by omega) (by omega)]; exact t6 j hj
theorem CR.eq (h : CR b n w p f) (h4 : ∀ j, 5 ≤ j → j ≤ 7 → cm_I y 4 j = cm_I w 4 j) (hI : ∀ a, 5 ≤ a → a ≤ 9 → ∀ j, cm_I y a j = cm_I w a j) (hL : ∀ j, cm_L y 8 j = cm_L w 8 j) : CR b n y p f := by
  obtain ⟨k, m, t, h1, h2, h3, h5⟩ := h
  exact ⟨k, m, t.eq (h4 5 (by omega) (by omega)) hI hL, h1, h2, (h4 6 (by omega) (by omega)).trans h3, (h4 7 (by omega) (by omega)).trans h5⟩
/-- what is read at the place -/
theorem CR.g (h : CR b n w p f) : ∃ k, k < 901 ∧ cm_I w 4 6 = nI k ∧ cm_I w 4 7 = f ∧ cm_I w 5 k = nI p ∧ cm_I w 6 k = nI (kd b n p) ∧ cm_I w 7 k = nI (ln b n p) ∧ cm_L w 8 k = vl b n p ∧ cm_I w 9 k = wd b n p ∧ p ≤ n := by
  obtain ⟨k, m, ⟨t1, t2, t3, t4, t5, t6⟩, h1, rfl, h3, h5⟩ := h
  obtain ⟨r1, r2, r3, r4⟩ := t5 k h1
  exact ⟨k, by omega, h3, h5, r1, r2, r3, r4, t6 k h1, pos_le b n k⟩
theorem CR.nb (h : CR b n w p f) : kd b n p ≠ 4 := by
  obtain ⟨k, m, -, h1, rfl, -⟩ := h
  exact pos_nb b n k
theorem acc1 (L : Lay v c w) (C : CR b n w p (-1)) (hp : p < n) : ∃ y, fn_66 4 1 w = some y ∧ FA v c w y ∧ CR b n y (nxt b n p) (-1) := by
  obtain ⟨k, m, T, h1, h2, h3, h5⟩ := C
  obtain ⟨t1, t2, t3, t4, t5, t6⟩ := T
  have km : k + 1 < m := by
    by_cases z : k = m - 1
    · rw [← z, h2] at t3; omega
    · omega
  refine ⟨cm_sI w 4 6 (nI (k + 1)), ?_, ⟨L, fun a ha j => I_ne ha, fun j a1 a2 => I_nk a1, rfl⟩, k + 1, m, TK.eq ⟨t1, t2, t3, t4, t5, t6⟩ (I_nk (by omega)) (fun a h1 h2 j => I_ne (by omega)) (fun j => rfl), km, ?_, I_eq, (I_nk (by omega)).trans h5⟩
  · have e1 : nI m - 1 = nI (m - 1) := pk_sub (b := 1) (by omega)
    have e2 : ¬ m - 1 ≤ k := by omega
    have n10 : ¬ (1 : Int32) = 0 := by decide
    simp (disch := omega) only [fn_66, fn_66_19, n10, LD L, h5, t1, h3, e1, e2, cm_w2, Nat.reduceLeDiff, Nat.reduceLT, decide_true, Bool.and_self, Bool.and_true, eq_self, Nat.le_refl, Nat.lt_irrefl, some_if, Option.bind_some, Option.bind_none, Option.some.injEq, ↓reduceIte, reduceCtorEq, Bool.false_eq_true, Bool.true_eq_false, not_true_eq_false, not_false_eq_true, cmb0, cmb1, Nat.reduceAdd, Nat.reduceMul, Nat.reduceSub, Nat.add_zero, Bool.not_eq_true, Bool.not_eq_false, Nat.reduceEqDiff, Nat.reduceLeDiff, Nat.reduceLT, Int32.reduceLT, Int32.reduceLE, iin_nI, iin_lit, iin_m1, tn_nI, tn_lit, nI_lm, nI_ml, nI_al, nI_la, nI_add, pk_mul, nI_le_l, nI_l_le, nI_lt_l, nI_l_lt, nI_eq_l, nI_l_eq, nI_eqP, nI_leP, nI_ltP, nI_m1, m1_nI, nI_ll, m1_l, l_m1]
  · rw [← h2]; rfl
theorem acc0 (L : Lay v c w) (C : CR b n w p (-1)) : ∃ y, fn_66 4 0 w = some y ∧ FA v c w y ∧ CR b n y p (nI p) := by
  have g := C.g
  obtain ⟨k0, k1, g6, g7, g5, -⟩ := g
  obtain ⟨k, m, T, h1, h2, h3, h5⟩ := C
  have e65 : fn_65 4 w = some (cm_sI w 4 7 (nI p)) := by
    simp (disch := omega) only [fn_65, ↓LDb L, LD L, g7, g6, g5, cm_w2, Nat.reduceLeDiff, Nat.reduceLT, decide_true, Bool.and_self, Bool.and_true, eq_self, Nat.le_refl, Nat.lt_irrefl, some_if, Option.bind_some, Option.bind_none, Option.some.injEq, ↓reduceIte, reduceCtorEq, Bool.false_eq_true, Bool.true_eq_false, not_true_eq_false, not_false_eq_true, cmb0, cmb1, Nat.reduceAdd, Nat.reduceMul, Nat.reduceSub, Nat.add_zero, Bool.not_eq_true, Bool.not_eq_false, Nat.reduceEqDiff, Nat.reduceLeDiff, Nat.reduceLT, Int32.reduceLT, Int32.reduceLE, iin_nI, iin_lit, iin_m1, tn_nI, tn_lit, nI_lm, nI_ml, nI_al, nI_la, nI_add, pk_mul, nI_le_l, nI_l_le, nI_lt_l, nI_l_lt, nI_eq_l, nI_l_eq, nI_eqP, nI_leP, nI_ltP, nI_m1, m1_nI, nI_ll, m1_l, l_m1]
  refine ⟨cm_sI w 4 7 (nI p), ?_, ⟨L, fun a ha j => I_ne ha, fun j a1 a2 => I_nk a2, rfl⟩, k, m, T.eq (I_nk (by omega)) (fun a h1 h2 j => I_ne (by omega)) (fun j => rfl), h1, h2, (I_nk (by omega)).trans h3, I_eq⟩
  rw [fn_66, if_pos rfl, fn_66_12, if_pos (LD L).1, bd e65]
theorem accf (L : Lay v c w) (C : CR b n w p f) (hf : f ≠ -1) (i : Int32) : fn_66 4 i w = some w := by
  obtain ⟨k0, k1, g6, g7, -⟩ := C.g
  have e65 : fn_65 4 w = some w := by
    rw [fn_65, if_pos (LD L).1, g7, if_pos hf]
  have e12 : fn_66_12 4 w = some w := by
    rw [fn_66_12, if_pos (LD L).1, bd e65]
  unfold fn_66
  by_cases z : i = 0
  · rw [if_pos z, e12]
  · rw [if_neg z, if_pos (LD L).1, g7, if_neg hf, e12]
theorem isName_ok (L : Lay v c w) (C : CR b n w p f) (hn : n ≤ 900) : fn_67 w 4 = some (nmok b n p) := by
  obtain ⟨k, k1, g6, g7, g5, r6, r7, r8, r9, pn⟩ := C.g
  have kl := kd_le b n p
  have ll : ln b n p ≤ 900 := by
    by_cases z : kd b n p = 1 ∨ kd b n p = 2 ∨ kd b n p = 3
    · have := (ln_pos z).2; omega
    · have : ln b n p = 0 := by
        unfold ln
        rw [if_neg (by omega), if_neg (by omega)]
      omega
  unfold nmok
  by_cases z1 : kd b n p = 1
  · by_cases z2 : wd b n p = -1
    · by_cases z3 : ln b n p ≤ 8
      · have z4 : ¬ 8 < ln b n p := by omega
        rw [decide_eq_true ⟨z1, z2, z3⟩]
        simp (disch := omega) only [fn_67, ↓LDb L, LD L, g6, r6, r7, r9, z1, z2, z4, eq_self, Nat.le_refl, Nat.lt_irrefl, some_if, Option.bind_some, Option.bind_none, Option.some.injEq, ↓reduceIte, reduceCtorEq, Bool.false_eq_true, Bool.true_eq_false, not_true_eq_false, not_false_eq_true, cmb0, cmb1, Nat.reduceAdd, Nat.reduceMul, Nat.reduceSub, Nat.add_zero, Bool.not_eq_true, Bool.not_eq_false, Nat.reduceEqDiff, Nat.reduceLeDiff, Nat.reduceLT, Int32.reduceLT, Int32.reduceLE, iin_nI, iin_lit, iin_m1, tn_nI, tn_lit, nI_lm, nI_ml, nI_al, nI_la, nI_add, pk_mul, nI_le_l, nI_l_le, nI_lt_l, nI_l_lt, nI_eq_l, nI_l_eq, nI_eqP, nI_leP, nI_ltP, nI_m1, m1_nI, nI_ll, m1_l, l_m1]
      · have z4 : 8 < ln b n p := by omega
        rw [decide_eq_false (fun h => z3 h.2.2)]
        simp (disch := omega) only [fn_67, ↓LDb L, LD L, g6, r6, r7, r9, z1, z2, z4, eq_self, Nat.le_refl, Nat.lt_irrefl, some_if, Option.bind_some, Option.bind_none, Option.some.injEq, ↓reduceIte, reduceCtorEq, Bool.false_eq_true, Bool.true_eq_false, not_true_eq_false, not_false_eq_true, cmb0, cmb1, Nat.reduceAdd, Nat.reduceMul, Nat.reduceSub, Nat.add_zero, Bool.not_eq_true, Bool.not_eq_false, Nat.reduceEqDiff, Nat.reduceLeDiff, Nat.reduceLT, Int32.reduceLT, Int32.reduceLE, iin_nI, iin_lit, iin_m1, tn_nI, tn_lit, nI_lm, nI_ml, nI_al, nI_la, nI_add, pk_mul, nI_le_l, nI_l_le, nI_lt_l, nI_l_lt, nI_eq_l, nI_l_eq, nI_eqP, nI_leP, nI_ltP, nI_m1, m1_nI, nI_ll, m1_l, l_m1]
    · rw [decide_eq_false (fun h => z2 h.2.1)]
      simp (disch := omega) only [fn_67, ↓LDb L, LD L, g6, r6, r9, z1, z2, eq_self, Nat.le_refl, Nat.lt_irrefl, some_if, Option.bind_some, Option.bind_none, Option.some.injEq, ↓reduceIte, reduceCtorEq, Bool.false_eq_true, Bool.true_eq_false, not_true_eq_false, not_false_eq_true, cmb0, cmb1, Nat.reduceAdd, Nat.reduceMul, Nat.reduceSub, Nat.add_zero, Bool.not_eq_true, Bool.not_eq_false, Nat.reduceEqDiff, Nat.reduceLeDiff, Nat.reduceLT, Int32.reduceLT, Int32.reduceLE, iin_nI, iin_lit, iin_m1, tn_nI, tn_lit, nI_lm, nI_ml, nI_al, nI_la, nI_add, pk_mul, nI_le_l, nI_l_le, nI_lt_l, nI_l_lt, nI_eq_l, nI_l_eq, nI_eqP, nI_leP, nI_ltP, nI_m1, m1_nI, nI_ll, m1_l, l_m1]
  · rw [decide_eq_false (fun h => z1 h.1)]
    simp (disch := omega) only [fn_67, ↓LDb L, LD L, g6, r6, z1, eq_self, Nat.le_refl, Nat.lt_irrefl, some_if, Option.bind_some, Option.bind_none, Option.some.injEq, ↓reduceIte, reduceCtorEq, Bool.false_eq_true, Bool.true_eq_false, not_true_eq_false, not_false_eq_true, cmb0, cmb1, Nat.reduceAdd, Nat.reduceMul, Nat.reduceSub, Nat.add_zero, Bool.not_eq_true, Bool.not_eq_false, Nat.reduceEqDiff, Nat.reduceLeDiff, Nat.reduceLT, Int32.reduceLT, Int32.reduceLE, iin_nI, iin_lit, iin_m1, tn_nI, tn_lit, nI_lm, nI_ml, nI_al, nI_la, nI_add, pk_mul, nI_le_l, nI_l_le, nI_lt_l, nI_l_lt, nI_eq_l, nI_l_eq, nI_eqP, nI_leP, nI_ltP, nI_m1, m1_nI, nI_ll, m1_l, l_m1]
/-- a number, by the class -/
theorem num70f (L : Lay v c w) (C : CR b n w p f) (hf : f ≠ -1) (i1 i2 : Int32) : ∃ r, fn_70 4 i1 i2 w = some (r, w) := by
  obtain ⟨k, k1, g6, g7, g5, r6, r7, r8, r9, pn⟩ := C.g
  have kl := kd_le b n p
  have e79 : fn_70_60 4 w = some (-1, w) := by
    rw [fn_70_60, fn_70_79, if_pos (LD L).1, bd (accf L C hf 0)]
  have e66 := accf L C hf 1
  by_cases z1 : nI (kd b n p) = 2
  · by_cases z2 : (4 : Int32) < nI (ln b n p)
    · refine ⟨-1, ?_⟩
      simp only [fn_70, ↓LDb L, LD L, g6, tn_nI (show k < 2147483648 by omega), iin_nI (n := 901) k1 (by omega), r6, r7, z1, z2, e79, eq_self, Nat.le_refl, Nat.lt_irrefl, some_if, Option.bind_some, Option.bind_none, Option.some.injEq, ↓reduceIte, reduceCtorEq, Bool.false_eq_true, Bool.true_eq_false, not_true_eq_false, not_false_eq_true, cmb0, cmb1, Nat.reduceAdd, Nat.reduceMul, Nat.reduceSub, Nat.add_zero, Bool.not_eq_true, Bool.not_eq_false, Nat.reduceEqDiff, Nat.reduceLeDiff, Nat.reduceLT, Int32.reduceLT, Int32.reduceLE]
    · by_cases z3 : lg_cmp (vl b n p) i1.toInt64 < 0
      · refine ⟨-1, ?_⟩
        simp only [fn_70, ↓LDb L, LD L, g6, tn_nI (show k < 2147483648 by omega), iin_nI (n := 901) k1 (by omega), r6, r7, r8, z1, z2, z3, e79, eq_self, Nat.le_refl, Nat.lt_irrefl, some_if, Option.bind_some, Option.bind_none, Option.some.injEq, ↓reduceIte, reduceCtorEq, Bool.false_eq_true, Bool.true_eq_false, not_true_eq_false, not_false_eq_true, cmb0, cmb1, Nat.reduceAdd, Nat.reduceMul, Nat.reduceSub, Nat.add_zero, Bool.not_eq_true, Bool.not_eq_false, Nat.reduceEqDiff, Nat.reduceLeDiff, Nat.reduceLT, Int32.reduceLT, Int32.reduceLE]
      · by_cases z4 : 0 < lg_cmp (vl b n p) i2.toInt64
        · refine ⟨-1, ?_⟩
          simp only [fn_70, ↓LDb L, LD L, g6, tn_nI (show k < 2147483648 by omega), iin_nI (n := 901) k1 (by omega), r6, r7, r8, z1, z2, z3, z4, e79, eq_self, Nat.le_refl, Nat.lt_irrefl, some_if, Option.bind_some, Option.bind_none, Option.some.injEq, ↓reduceIte, reduceCtorEq, Bool.false_eq_true, Bool.true_eq_false, not_true_eq_false, not_false_eq_true, cmb0, cmb1, Nat.reduceAdd, Nat.reduceMul, Nat.reduceSub, Nat.add_zero, Bool.not_eq_true, Bool.not_eq_false, Nat.reduceEqDiff, Nat.reduceLeDiff, Nat.reduceLT, Int32.reduceLT, Int32.reduceLE]
        · refine ⟨(vl b n p).toInt32, ?_⟩
          simp only [fn_70, ↓LDb L, LD L, g6, tn_nI (show k < 2147483648 by omega), iin_nI (n := 901) k1 (by omega), r6, r7, r8, z1, z2, z3, z4, e66, eq_self, Nat.le_refl, Nat.lt_irrefl, some_if, Option.bind_some, Option.bind_none, Option.some.injEq, ↓reduceIte, reduceCtorEq, Bool.false_eq_true, Bool.true_eq_false, not_true_eq_false, not_false_eq_true, cmb0, cmb1, Nat.reduceAdd, Nat.reduceMul, Nat.reduceSub, Nat.add_zero, Bool.not_eq_true, Bool.not_eq_false, Nat.reduceEqDiff, Nat.reduceLeDiff, Nat.reduceLT, Int32.reduceLT, Int32.reduceLE]
  · refine ⟨-1, ?_⟩
    simp only [fn_70, ↓LDb L, LD L, g6, tn_nI (show k < 2147483648 by omega), iin_nI (n := 901) k1 (by omega), r6, z1, e79, eq_self, Nat.le_refl, Nat.lt_irrefl, some_if, Option.bind_some, Option.bind_none, Option.some.injEq, ↓reduceIte, reduceCtorEq, Bool.false_eq_true, Bool.true_eq_false, not_true_eq_false, not_false_eq_true, cmb0, cmb1, Nat.reduceAdd, Nat.reduceMul, Nat.reduceSub, Nat.add_zero, Bool.not_eq_true, Bool.not_eq_false, Nat.reduceEqDiff, Nat.reduceLeDiff, Nat.reduceLT, Int32.reduceLT, Int32.reduceLE]
theorem nxt_num (h : kd b n p = 2) : nxt b n p = sk b n (p + nl b n p) := by
  unfold nxt nl
  rw [if_pos h]
theorem num70 (L : Lay v c w) (C : CR b n w p (-1)) (hn : n ≤ 900) {lo hi : Nat} (hlo : lo < 10000) (hhi : hi < 10000) : (numok b n p lo hi = true → ∃ y, fn_70 4 (nI lo) (nI hi) w = some (nI (nvs b p (nl b n p)), y) ∧ FA v c w y ∧ CR b n y (sk b n (p + nl b n p)) (-1)) ∧ (numok b n p lo hi = false → ∃ y, fn_70 4 (nI lo) (nI hi) w = some (-1, y) ∧ FA v c w y ∧ CR b n y p (nI p)) := by
  obtain ⟨k, k1, g6, g7, g5, r6, r7, r8, r9, pn⟩ := C.g
  have kl := kd_le b n p
  obtain ⟨y0, a0, F0, C0⟩ := acc0 L C
  have e60 : fn_70_60 4 w = some (-1, y0) := by
    rw [fn_70_60, fn_70_79, if_pos (LD L).1, bd a0]
  by_cases z1 : kd b n p = 2
  · have enl : nl b n p = ln b n p := if_pos z1
    obtain ⟨l1, l2⟩ := ln_pos (b := b) (n := n) (p := p) (by omega)
    have hr := nl_run (b := b) (n := n) (p := p)
    have ev : vl b n p = vs b 2 p (ln b n p) := by unfold vl; rw [z1]
    unfold numok
    rw [enl] at hr ⊢
    by_cases z4 : ln b n p ≤ 4
    · have z5 : ¬ 4 < ln b n p := by omega
      have n4 := nvs_4 hr.1 (Nat.le_refl _) z4
      rw [vs_nvs hr.1 _ (Nat.le_refl _)] at ev
      have c1 : (lg_cmp (lN (nvs b p (ln b n p))) (nI lo).toInt64 < 0) = (nvs b p (ln b n p) < lo) := by
        rw [lgc_lt, nI_l (by omega), propext (lN_lt (by omega) (by omega))]
      have c2 : (0 < lg_cmp (lN (nvs b p (ln b n p))) (nI hi).toInt64) = (hi < nvs b p (ln b n p)) := by
        rw [lgc_gt, nI_l (by omega), propext (lN_lt (by omega) (by omega))]
      by_cases z2 : nvs b p (ln b n p) < lo
      · refine ⟨fun h => absurd (of_decide_eq_true h).2.2.1 (by omega), fun _ => ⟨y0, ?_, F0, C0⟩⟩
        simp (disch := omega) only [fn_70, ↓LDb L, LD L, g6, r6, r7, r8, z1, z5, ev, c1, z2, e60, eq_self, Nat.le_refl, Nat.lt_irrefl, some_if, Option.bind_some, Option.bind_none, Option.some.injEq, ↓reduceIte, reduceCtorEq, Bool.false_eq_true, Bool.true_eq_false, not_true_eq_false, not_false_eq_true, cmb0, cmb1, Nat.reduceAdd, Nat.reduceMul, Nat.reduceSub, Nat.add_zero, Bool.not_eq_true, Bool.not_eq_false, Nat.reduceEqDiff, Nat.reduceLeDiff, Nat.reduceLT, Int32.reduceLT, Int32.reduceLE, iin_nI, iin_lit, iin_m1, tn_nI, tn_lit, nI_lm, nI_ml, nI_al, nI_la, nI_add, pk_mul, nI_le_l, nI_l_le, nI_lt_l, nI_l_lt, nI_eq_l, nI_l_eq, nI_eqP, nI_leP, nI_ltP, nI_m1, m1_nI, nI_ll, m1_l, l_m1]
      · by_cases z3 : hi < nvs b p (ln b n p)
        · refine ⟨fun h => absurd (of_decide_eq_true h).2.2.2 (by omega), fun _ => ⟨y0, ?_, F0, C0⟩⟩
          simp (disch := omega) only [fn_70, ↓LDb L, LD L, g6, r6, r7, r8, z1, z5, ev, c1, c2, z2, z3, e60, eq_self, Nat.le_refl, Nat.lt_irrefl, some_if, Option.bind_some, Option.bind_none, Option.some.injEq, ↓reduceIte, reduceCtorEq, Bool.false_eq_true, Bool.true_eq_false, not_true_eq_false, not_false_eq_true, cmb0, cmb1, Nat.reduceAdd, Nat.reduceMul, Nat.reduceSub, Nat.add_zero, Bool.not_eq_true, Bool.not_eq_false, Nat.reduceEqDiff, Nat.reduceLeDiff, Nat.reduceLT, Int32.reduceLT, Int32.reduceLE, iin_nI, iin_lit, iin_m1, tn_nI, tn_lit, nI_lm, nI_ml, nI_al, nI_la, nI_add, pk_mul, nI_le_l, nI_l_le, nI_lt_l, nI_l_lt, nI_eq_l, nI_l_eq, nI_eqP, nI_leP, nI_ltP, nI_m1, m1_nI, nI_ll, m1_l, l_m1]
        · obtain ⟨y1, a1, F1, C1⟩ := acc1 L C (kd_lt (b := b) (n := n) (p := p) (by omega))
          refine ⟨fun _ => ⟨y1, ?_, F1, ?_⟩, fun h => absurd (⟨by omega, z4, by omega, by omega⟩ : _ ∧ _ ∧ _ ∧ _) (of_decide_eq_false h)⟩
          · simp (disch := omega) only [fn_70, ↓LDb L, LD L, g6, r6, r7, r8, z1, z5, ev, c1, c2, z2, z3, a1, lN_i, eq_self, Nat.le_refl, Nat.lt_irrefl, some_if, Option.bind_some, Option.bind_none, Option.some.injEq, ↓reduceIte, reduceCtorEq, Bool.false_eq_true, Bool.true_eq_false, not_true_eq_false, not_false_eq_true, cmb0, cmb1, Nat.reduceAdd, Nat.reduceMul, Nat.reduceSub, Nat.add_zero, Bool.not_eq_true, Bool.not_eq_false, Nat.reduceEqDiff, Nat.reduceLeDiff, Nat.reduceLT, Int32.reduceLT, Int32.reduceLE, iin_nI, iin_lit, iin_m1, tn_nI, tn_lit, nI_lm, nI_ml, nI_al, nI_la, nI_add, pk_mul, nI_le_l, nI_l_le, nI_lt_l, nI_l_lt, nI_eq_l, nI_l_eq, nI_eqP, nI_leP, nI_ltP, nI_m1, m1_nI, nI_ll, m1_l, l_m1]
          · exact C1
    · have z5 : 4 < ln b n p := by omega
      refine ⟨fun h => absurd (of_decide_eq_true h).2.1 z4, fun _ => ⟨y0, ?_, F0, C0⟩⟩
      simp (disch := omega) only [fn_70, ↓LDb L, LD L, g6, r6, r7, z1, z5, e60, eq_self, Nat.le_refl, Nat.lt_irrefl, some_if, Option.bind_some, Option.bind_none, Option.some.injEq, ↓reduceIte, reduceCtorEq, Bool.false_eq_true, Bool.true_eq_false, not_true_eq_false, not_false_eq_true, cmb0, cmb1, Nat.reduceAdd, Nat.reduceMul, Nat.reduceSub, Nat.add_zero, Bool.not_eq_true, Bool.not_eq_false, Nat.reduceEqDiff, Nat.reduceLeDiff, Nat.reduceLT, Int32.reduceLT, Int32.reduceLE, iin_nI, iin_lit, iin_m1, tn_nI, tn_lit, nI_lm, nI_ml, nI_al, nI_la, nI_add, pk_mul, nI_le_l, nI_l_le, nI_lt_l, nI_l_lt, nI_eq_l, nI_l_eq, nI_eqP, nI_leP, nI_ltP, nI_m1, m1_nI, nI_ll, m1_l, l_m1]
  · have enl : nl b n p = 0 := if_neg z1
    unfold numok
    rw [enl]
    refine ⟨fun h => absurd rfl (of_decide_eq_true h).1, fun _ => ⟨y0, ?_, F0, C0⟩⟩
    simp (disch := omega) only [fn_70, ↓LDb L, LD L, g6, r6, z1, e60, eq_self, Nat.le_refl, Nat.lt_irrefl, some_if, Option.bind_some, Option.bind_none, Option.some.injEq, ↓reduceIte, reduceCtorEq, Bool.false_eq_true, Bool.true_eq_false, not_true_eq_false, not_false_eq_true, cmb0, cmb1, Nat.reduceAdd, Nat.reduceMul, Nat.reduceSub, Nat.add_zero, Bool.not_eq_true, Bool.not_eq_false, Nat.reduceEqDiff, Nat.reduceLeDiff, Nat.reduceLT, Int32.reduceLT, Int32.reduceLE, iin_nI, iin_lit, iin_m1, tn_nI, tn_lit, nI_lm, nI_ml, nI_al, nI_la, nI_add, pk_mul, nI_le_l, nI_l_le, nI_lt_l, nI_l_lt, nI_eq_l, nI_l_eq, nI_eqP, nI_leP, nI_ltP, nI_m1, m1_nI, nI_ll, m1_l, l_m1]
end PLACE
