/-! digits; think, mean -/
/-- long division, digit by digit -/
def dg (a : Nat) (z : Nat × Nat) : Nat → Nat × Nat := fup (fun _ z => (10 * z.1 + 10 * z.2 / a, 10 * z.2 % a)) z
section THINK3
variable {v c u n : Nat} {w w' : cm_W} {s s' : St}
theorem dg_lt {a : Nat} (ha : 0 < a) {z : Nat × Nat} (hz : z.2 ≤ a) : ∀ k, (dg a z k).2 ≤ a := by
  intro k
  cases k with
  | zero => exact hz
  | succ k => exact Nat.le_of_lt (Nat.mod_lt _ ha)
theorem dg_one {a p : Nat} (ha : 0 < a) : dg a (0, p) 1 = dg a (p / a, p % a) 1 := by
  show (10 * 0 + 10 * p / a, 10 * p % a) = (10 * (p / a) + 10 * (p % a) / a, 10 * (p % a) % a)
  have h : 10 * p = a * (10 * (p / a)) + 10 * (p % a) := by
    have := Nat.div_add_mod p a
    calc 10 * p = 10 * (a * (p / a) + p % a) := by rw [this]
      _ = a * (10 * (p / a)) + 10 * (p % a) := by rw [Nat.mul_add, Nat.mul_left_comm]
  refine Prod.ext ?_ ?_
  · show 10 * 0 + 10 * p / a = 10 * (p / a) + 10 * (p % a) / a
    rw [h, Nat.mul_add_div ha]; omega
  · show 10 * p % a = 10 * (p % a) % a
    rw [h, Nat.mul_add_mod]
theorem dg_cg {a : Nat} {z z' : Nat × Nat} (h : dg a z 1 = dg a z' 1) : ∀ k, dg a z (k + 1) = dg a z' (k + 1) := by
  intro k
  induction k with
  | zero => exact h
  | succ k ih =>
    show (10 * (dg a z (k + 1)).1 + 10 * (dg a z (k + 1)).2 / a, 10 * (dg a z (k + 1)).2 % a) = _
    rw [ih]; rfl
theorem dg_two {a p : Nat} (ha : 0 < a) : (dg a (p / a, p % a) 2).1 = p / a * 100 + p % a * 100 / a := by
  show 10 * (10 * (p / a) + 10 * (p % a) / a) + 10 * (10 * (p % a) % a) / a = _
  generalize p / a = q
  generalize p % a = r
  have h : r * 100 = a * (10 * (10 * r / a)) + 10 * (10 * r % a) := by
    have := Nat.div_add_mod (10 * r) a
    calc r * 100 = 10 * (10 * r) := by omega
      _ = 10 * (a * (10 * r / a) + 10 * r % a) := by rw [this]
      _ = a * (10 * (10 * r / a)) + 10 * (10 * r % a) := by rw [Nat.mul_add, Nat.mul_left_comm]
  rw [h, Nat.mul_add_div ha]; omega
theorem m197 (w : cm_W) {p a k : Nat} (ha : 0 < a) (ha2 : a < 900000000000000000) (hp : p < 9223372036854775808) (hk : k < 100) : fn_197 w (lN p) (lN a) (nI k) = some (lN (dg a (p / a, p % a) k).1) := by
  have h0 : ¬ lN a = 0 := by
    rw [show (0 : Int64) = lN 0 from rfl, pk_lEQ (by omega) (by omega)]; omega
  have e0 : fn_197 w (lN p) (lN a) (nI k) = fn_197_13 w cm_N (lN a) (nI k) (lN (p / a)) (lN (p % a)) 0 := by
    unfold fn_197
    rw [if_pos h0, if_pos h0, pk_lRem hp ha (by omega), pk_lDiv hp ha (by omega)]
  rw [e0]
  refine up_0 (fun m j (z : Int64 × Int64) => fn_197_13 w m (lN a) (nI k) z.1 z.2 (nI j)) k (fun j z => z = (lN (dg a (p / a, p % a) j).1, lN (dg a (p / a, p % a) j).2)) (fun o => o = _) (lN (p / a), lN (p % a)) (by omega) rfl (fun m j z hj hz => Or.inr ⟨_, rfl, ?_⟩) (fun m z hz => ?_)
  · subst hz
    have hj' : ¬ k ≤ j := by omega
    have hl := dg_lt ha (z := (p / a, p % a)) (Nat.le_of_lt (Nat.mod_lt p ha)) j
    have e1 : (10 : Int64) * lN (dg a (p / a, p % a) j).2 = lN (10 * (dg a (p / a, p % a) j).2) := lN_mul 10 _
    have e2 : (10 : Int64) * lN (dg a (p / a, p % a) j).1 = lN (10 * (dg a (p / a, p % a) j).1) := lN_mul 10 _
    simp (disch := omega) only [fn_197_13, hj', h0, e1, e2, nI_leP, nI_la, not_false_eq_true, ↓reduceIte]
    rw [pk_lRem (by omega) ha (by omega), pk_lDiv (by omega) ha (by omega), lN_add]
    rfl
  · subst hz
    simp (disch := omega) only [fn_197_13, nI_leP, Nat.le_refl, ↓reduceIte]
theorem c134 (L : Lay v c w) {p a t : Nat} (ht : t < 8) (ha : 0 < a) (ha2 : a < 900000000000000000) (hp : p ≤ a) (e1 : cm_L w 43 2 = lN a) (e2 : cm_L w 44 t = lN p) : fn_134 w 43 (nI t) = some (nI (dg a (0, p) 6).1) := by
  have h0 : ¬ lN a = 0 := by
    rw [show (0 : Int64) = lN 0 from rfl, pk_lEQ (by omega) (by omega)]; omega
  have h1 : ¬ lN a ≤ 0 := by
    rw [show (0 : Int64) = lN 0 from rfl, pk_lLE (by omega) (by omega)]; omega
  have h2 : ¬ nI t < 0 := nI_pos (by omega)
  have lp : fn_134_33 w cm_N 43 0 (lN p) 0 = some (nI (dg a (0, p) 6).1) := by
    refine up_0 (fun m j (z : Int32 × Int64) => fn_134_33 w m 43 z.1 z.2 (nI j)) 6 (fun j z => z = (nI (dg a (0, p) j).1, lN (dg a (0, p) j).2)) (fun o => o = _) (0, lN p) (by omega) rfl (fun m j z hj hz => Or.inr ⟨_, rfl, ?_⟩) (fun m z hz => ?_)
    · subst hz
      have hj' : ¬ 6 ≤ j := by omega
      have hl := dg_lt ha (z := (0, p)) hp j
      have e3 : lN (dg a (0, p) j).2 * (10 : Int64) = lN (10 * (dg a (0, p) j).2) := (lN_mul _ 10).trans (congrArg lN (Nat.mul_comm _ _))
      simp (disch := omega) only [fn_134_33, hj', h0, e1, e3, LC L, eq_self, Nat.le_refl, Nat.lt_irrefl, some_if, Option.bind_some, Option.bind_none, Option.some.injEq, ↓reduceIte, reduceCtorEq, Bool.false_eq_true, Bool.true_eq_false, not_true_eq_false, not_false_eq_true, cmb0, cmb1, Nat.reduceAdd, Nat.reduceMul, Nat.reduceSub, Nat.add_zero, Bool.not_eq_true, Bool.not_eq_false, Nat.reduceEqDiff, Nat.reduceLeDiff, Nat.reduceLT, Int32.reduceLT, Int32.reduceLE, iin_nI, iin_lit, iin_m1, tn_nI, tn_lit, nI_lm, nI_ml, nI_al, nI_la, nI_add, pk_mul, nI_le_l, nI_l_le, nI_lt_l, nI_l_lt, nI_eq_l, nI_l_eq, nI_eqP, nI_leP, nI_ltP, nI_m1, m1_nI, nI_ll, m1_l, l_m1]
      rw [pk_lRem (by omega) ha (by omega), pk_lDiv (by omega) ha (by omega), lN_i, nI_add]
      rfl
    · subst hz
      simp (disch := omega) only [fn_134_33, eq_self, Nat.le_refl, Nat.lt_irrefl, some_if, Option.bind_some, Option.bind_none, Option.some.injEq, ↓reduceIte, reduceCtorEq, Bool.false_eq_true, Bool.true_eq_false, not_true_eq_false, not_false_eq_true, cmb0, cmb1, Nat.reduceAdd, Nat.reduceMul, Nat.reduceSub, Nat.add_zero, Bool.not_eq_true, Bool.not_eq_false, Nat.reduceEqDiff, Nat.reduceLeDiff, Nat.reduceLT, Int32.reduceLT, Int32.reduceLE, iin_nI, iin_lit, iin_m1, tn_nI, tn_lit, nI_lm, nI_ml, nI_al, nI_la, nI_add, pk_mul, nI_le_l, nI_l_le, nI_lt_l, nI_l_lt, nI_eq_l, nI_l_eq, nI_eqP, nI_leP, nI_ltP, nI_m1, m1_nI, nI_ll, m1_l, l_m1]
  have ht' : t < 8 := ht
  simp (disch := omega) only [fn_134, fn_134_21, ↓LCb L, LC L, lgc_le, e1, e2, h1, h2, ht', lp, eq_self, Nat.le_refl, Nat.lt_irrefl, some_if, Option.bind_some, Option.bind_none, Option.some.injEq, ↓reduceIte, reduceCtorEq, Bool.false_eq_true, Bool.true_eq_false, not_true_eq_false, not_false_eq_true, cmb0, cmb1, Nat.reduceAdd, Nat.reduceMul, Nat.reduceSub, Nat.add_zero, Bool.not_eq_true, Bool.not_eq_false, Nat.reduceEqDiff, Nat.reduceLeDiff, Nat.reduceLT, Int32.reduceLT, Int32.reduceLE, iin_nI, iin_lit, iin_m1, tn_nI, tn_lit, nI_lm, nI_ml, nI_al, nI_la, nI_add, pk_mul, nI_le_l, nI_l_le, nI_lt_l, nI_l_lt, nI_eq_l, nI_l_eq, nI_eqP, nI_leP, nI_ltP, nI_m1, m1_nI, nI_ll, m1_l, l_m1]
theorem w_think (g : GG v c w s) (i j : Int32) : OKW (fn_158 2 i j) (fn_248 96 i j) w := by
  obtain ⟨L, M, C, Z, I⟩ := id g
  have hv := L.1
  have V := C.2.2.1
  have hB := I.2.1.2.1
  have hT := I.1.1
  rcases iin_cs i (n := nB s) (by omega) with h | ⟨b, hb, rfl⟩
  · refine ok_ro (r := -1) g ⟨w, ?_, FC.rf L⟩ (fun x L1 M1 _ => ⟨x, ?_, FM.rf L1 M1⟩)
    · simp (disch := omega) only [fn_158, ↓LCb L, ↓LStb L, ↓LVb L hv, ↓hasBb L V I.2.1, ↓hasTb L hv C.2.1 I.1, ↓hasPb L hv C.2.1 I.1, ↓c146b L V I.2.1, LC L, LSt L, LV L hv, h, eq_self, Nat.le_refl, Nat.lt_irrefl, some_if, Option.bind_some, Option.bind_none, Option.some.injEq, ↓reduceIte, reduceCtorEq, Bool.false_eq_true, Bool.true_eq_false, not_true_eq_false, not_false_eq_true, cmb0, cmb1, Nat.reduceAdd, Nat.reduceMul, Nat.reduceSub, Nat.add_zero, Bool.not_eq_true, Bool.not_eq_false, Nat.reduceEqDiff, Nat.reduceLeDiff, Nat.reduceLT, Int32.reduceLT, Int32.reduceLE, iin_nI, iin_lit, iin_m1, tn_nI, tn_lit, nI_lm, nI_ml, nI_al, nI_la, nI_add, pk_mul, nI_le_l, nI_l_le, nI_lt_l, nI_l_lt, nI_eq_l, nI_l_eq, nI_eqP, nI_leP, nI_ltP, nI_m1, m1_nI, nI_ll, m1_l, l_m1]
    · simp (disch := omega) only [fn_248, ↓LMb L1, ↓mBoxb L1 M1 I.2.1, ↓mWhob L1 M1 I.1, ↓mThingb L1 M1 I.1, ↓mAheadb L1 M1 I.2.1, LM L1, h, eq_self, Nat.le_refl, Nat.lt_irrefl, some_if, Option.bind_some, Option.bind_none, Option.some.injEq, ↓reduceIte, reduceCtorEq, Bool.false_eq_true, Bool.true_eq_false, not_true_eq_false, not_false_eq_true, cmb0, cmb1, Nat.reduceAdd, Nat.reduceMul, Nat.reduceSub, Nat.add_zero, Bool.not_eq_true, Bool.not_eq_false, Nat.reduceEqDiff, Nat.reduceLeDiff, Nat.reduceLT, Int32.reduceLT, Int32.reduceLE, iin_nI, iin_lit, iin_m1, tn_nI, tn_lit, nI_lm, nI_ml, nI_al, nI_la, nI_add, pk_mul, nI_le_l, nI_l_le, nI_lt_l, nI_l_lt, nI_eq_l, nI_l_eq, nI_eqP, nI_leP, nI_ltP, nI_m1, m1_nI, nI_ll, m1_l, l_m1]
  rcases iin_cs j (n := nT s) (by omega) with h | ⟨t, ht, rfl⟩
  · refine ok_ro (r := -1) g ⟨w, ?_, FC.rf L⟩ (fun x L1 M1 _ => ⟨x, ?_, FM.rf L1 M1⟩)
    · simp (disch := omega) only [fn_158, ↓LCb L, ↓LStb L, ↓LVb L hv, ↓hasBb L V I.2.1, ↓hasTb L hv C.2.1 I.1, ↓hasPb L hv C.2.1 I.1, ↓c146b L V I.2.1, LC L, LSt L, LV L hv, h, eq_self, Nat.le_refl, Nat.lt_irrefl, some_if, Option.bind_some, Option.bind_none, Option.some.injEq, ↓reduceIte, reduceCtorEq, Bool.false_eq_true, Bool.true_eq_false, not_true_eq_false, not_false_eq_true, cmb0, cmb1, Nat.reduceAdd, Nat.reduceMul, Nat.reduceSub, Nat.add_zero, Bool.not_eq_true, Bool.not_eq_false, Nat.reduceEqDiff, Nat.reduceLeDiff, Nat.reduceLT, Int32.reduceLT, Int32.reduceLE, iin_nI, iin_lit, iin_m1, tn_nI, tn_lit, nI_lm, nI_ml, nI_al, nI_la, nI_add, pk_mul, nI_le_l, nI_l_le, nI_lt_l, nI_l_lt, nI_eq_l, nI_l_eq, nI_eqP, nI_leP, nI_ltP, nI_m1, m1_nI, nI_ll, m1_l, l_m1]
    · simp (disch := omega) only [fn_248, ↓LMb L1, ↓mBoxb L1 M1 I.2.1, ↓mWhob L1 M1 I.1, ↓mThingb L1 M1 I.1, ↓mAheadb L1 M1 I.2.1, LM L1, h, eq_self, Nat.le_refl, Nat.lt_irrefl, some_if, Option.bind_some, Option.bind_none, Option.some.injEq, ↓reduceIte, reduceCtorEq, Bool.false_eq_true, Bool.true_eq_false, not_true_eq_false, not_false_eq_true, cmb0, cmb1, Nat.reduceAdd, Nat.reduceMul, Nat.reduceSub, Nat.add_zero, Bool.not_eq_true, Bool.not_eq_false, Nat.reduceEqDiff, Nat.reduceLeDiff, Nat.reduceLT, Int32.reduceLT, Int32.reduceLE, iin_nI, iin_lit, iin_m1, tn_nI, tn_lit, nI_lm, nI_ml, nI_al, nI_la, nI_add, pk_mul, nI_le_l, nI_l_le, nI_lt_l, nI_l_lt, nI_eq_l, nI_l_eq, nI_eqP, nI_leP, nI_ltP, nI_m1, m1_nI, nI_ll, m1_l, l_m1]
  obtain ⟨y, y1, F, y2, y3⟩ := c133 L hv C.2.1 V I hb
  obtain ⟨a, ha, ea⟩ := lka_le I hb (nT s) (Nat.le_refl _)
  obtain ⟨p, hp, ep⟩ := lk_le I hb ht (nR s)
  -- one is at most all
  have hpa : p ≤ a := by
    have h : ∀ n, n ≤ nT s → ∃ k, lka s b n = lN k ∧ k ≤ 100000000000000 * n ∧ (t < n → p ≤ k) := by
      intro n
      induction n with
      | zero => intro _; exact ⟨0, rfl, by omega, fun h => by omega⟩
      | succ n ih =>
        intro hn
        obtain ⟨k, e, l1, l2⟩ := ih (by omega)
        obtain ⟨q, hq, eq⟩ := lk_le I hb (show n < nT s by omega) (nR s)
        refine ⟨k + q, ?_, by omega, fun h => ?_⟩
        · show lka s b n + lk s b n (nR s) = _
          rw [e, eq, lN_add]
        · by_cases z : t = n
          · subst z
            have : p = q := (pk_lEQ (by omega) (by omega)).mp (ep.symm.trans eq)
            omega
          · have := l2 (by omega); omega
    obtain ⟨k, e, l1, l2⟩ := h (nT s) (Nat.le_refl _)
    have : a = k := (pk_lEQ (by omega) (by omega)).mp (ea.symm.trans e)
    rw [this]; exact l2 ht
  have cc : fn_158 2 (nI b) (nI t) w = (fn_134 y 43 (nI t)).bind fun v15 => some (v15, y) := by
    simp (disch := omega) only [fn_158, fn_158_30, ↓LCb L, ↓LStb L, ↓LVb L hv, ↓hasBb L V I.2.1, ↓hasTb L hv C.2.1 I.1, ↓hasPb L hv C.2.1 I.1, ↓c146b L V I.2.1, LC L, LSt L, LV L hv, y1, S2 F.1, ↓LCb F.1, LC F.1, eq_self, Nat.le_refl, Nat.lt_irrefl, some_if, Option.bind_some, Option.bind_none, Option.some.injEq, ↓reduceIte, reduceCtorEq, Bool.false_eq_true, Bool.true_eq_false, not_true_eq_false, not_false_eq_true, cmb0, cmb1, Nat.reduceAdd, Nat.reduceMul, Nat.reduceSub, Nat.add_zero, Bool.not_eq_true, Bool.not_eq_false, Nat.reduceEqDiff, Nat.reduceLeDiff, Nat.reduceLT, Int32.reduceLT, Int32.reduceLE, iin_nI, iin_lit, iin_m1, tn_nI, tn_lit, nI_lm, nI_ml, nI_al, nI_la, nI_add, pk_mul, nI_le_l, nI_l_le, nI_lt_l, nI_l_lt, nI_eq_l, nI_l_eq, nI_eqP, nI_leP, nI_ltP, nI_m1, m1_nI, nI_ll, m1_l, l_m1]
  by_cases a0 : a = 0
  · refine ok_ro (r := -1) g ⟨y, ?_, F⟩ (fun x L1 M1 _ => ?_)
    · rw [cc]
      have h1 : lka s b (nT s) ≤ 0 := by rw [ea, a0]; exact Int64.le_refl _
      simp (disch := omega) only [fn_134, LC F.1, y2, lgc_le, h1, eq_self, Nat.le_refl, Nat.lt_irrefl, some_if, Option.bind_some, Option.bind_none, Option.some.injEq, ↓reduceIte, reduceCtorEq, Bool.false_eq_true, Bool.true_eq_false, not_true_eq_false, not_false_eq_true, cmb0, cmb1, Nat.reduceAdd, Nat.reduceMul, Nat.reduceSub, Nat.add_zero, Bool.not_eq_true, Bool.not_eq_false, Nat.reduceEqDiff, Nat.reduceLeDiff, Nat.reduceLT, Int32.reduceLT, Int32.reduceLE, iin_nI, iin_lit, iin_m1, tn_nI, tn_lit, nI_lm, nI_ml, nI_al, nI_la, nI_add, pk_mul, nI_le_l, nI_l_le, nI_lt_l, nI_l_lt, nI_eq_l, nI_l_eq, nI_eqP, nI_leP, nI_ltP, nI_m1, m1_nI, nI_ll, m1_l, l_m1]
    · obtain ⟨z, z1, z2, z3, z4⟩ := m247 L1 M1 I hb
      refine ⟨z, ?_, z2⟩
      have h1 : lka s b (nT s) ≤ 0 := by rw [ea, a0]; exact Int64.le_refl _
      rw [decide_eq_false (fun q => q h1)] at z1
      simp (disch := omega) only [fn_248, ↓LMb L1, ↓mBoxb L1 M1 I.2.1, ↓mWhob L1 M1 I.1, ↓mThingb L1 M1 I.1, ↓mAheadb L1 M1 I.2.1, LM L1, z1, eq_self, Nat.le_refl, Nat.lt_irrefl, some_if, Option.bind_some, Option.bind_none, Option.some.injEq, ↓reduceIte, reduceCtorEq, Bool.false_eq_true, Bool.true_eq_false, not_true_eq_false, not_false_eq_true, cmb0, cmb1, Nat.reduceAdd, Nat.reduceMul, Nat.reduceSub, Nat.add_zero, Bool.not_eq_true, Bool.not_eq_false, Nat.reduceEqDiff, Nat.reduceLeDiff, Nat.reduceLT, Int32.reduceLT, Int32.reduceLE, iin_nI, iin_lit, iin_m1, tn_nI, tn_lit, nI_lm, nI_ml, nI_al, nI_la, nI_add, pk_mul, nI_le_l, nI_l_le, nI_lt_l, nI_l_lt, nI_eq_l, nI_l_eq, nI_eqP, nI_leP, nI_ltP, nI_m1, m1_nI, nI_ll, m1_l, l_m1]
  · have h1 : ¬ lka s b (nT s) ≤ 0 := by
      rw [ea, show (0 : Int64) = lN 0 from rfl, pk_lLE (by omega) (by omega)]; omega
    refine ok_ro (r := nI (dg a (0, p) 6).1) g ⟨y, ?_, F⟩ (fun x L1 M1 _ => ?_)
    · rw [cc, c134 F.1 (show t < 8 by omega) (by omega) (by omega) hpa (y2.trans ea) ((y3 t ht).trans ep)]; rfl
    · obtain ⟨z, z1, z2, z3, z4⟩ := m247 L1 M1 I hb
      refine ⟨z, ?_, z2⟩
      rw [decide_eq_true h1] at z1
      have e1 : cm_L z 96 50 = lN a := z3.trans ea
      have e2 : cm_L z 123 t = lN p := (z4 t ht).trans ep
      have e3 : fn_197 z (lN p) (lN a) 6 = some (lN (dg a (0, p) 6).1) := by
        rw [dg_cg (dg_one (p := p) (show 0 < a by omega)) 5]
        exact m197 z (k := 6) (by omega) (by omega) (by omega) (by omega)
      simp (disch := omega) only [fn_248, ↓LMb L1, ↓mBoxb L1 M1 I.2.1, ↓mWhob L1 M1 I.1, ↓mThingb L1 M1 I.1, ↓mAheadb L1 M1 I.2.1, LM L1, z1, S96 z2.1, ↓LMb z2.1, LM z2.1, e1, e2, e3, lN_i, eq_self, Nat.le_refl, Nat.lt_irrefl, some_if, Option.bind_some, Option.bind_none, Option.some.injEq, ↓reduceIte, reduceCtorEq, Bool.false_eq_true, Bool.true_eq_false, not_true_eq_false, not_false_eq_true, cmb0, cmb1, Nat.reduceAdd, Nat.reduceMul, Nat.reduceSub, Nat.add_zero, Bool.not_eq_true, Bool.not_eq_false, Nat.reduceEqDiff, Nat.reduceLeDiff, Nat.reduceLT, Int32.reduceLT, Int32.reduceLE, iin_nI, iin_lit, iin_m1, tn_nI, tn_lit, nI_lm, nI_ml, nI_al, nI_la, nI_add, pk_mul, nI_le_l, nI_l_le, nI_lt_l, nI_l_lt, nI_eq_l, nI_l_eq, nI_eqP, nI_leP, nI_ltP, nI_m1, m1_nI, nI_ll, m1_l, l_m1]
theorem w_mean (g : GG v c w s) (i : Int32) : OKW (fn_159 2 i) (fn_249 96 i) w := by
  obtain ⟨L, M, C, Z, I⟩ := id g
  have hv := L.1
  have V := C.2.2.1
  have hB := I.2.1.2.1
  have hT := I.1.1
  rcases iin_cs i (n := nB s) (by omega) with h | ⟨b, hb, rfl⟩
  · refine ok_ro (r := -1) g ⟨w, ?_, FC.rf L⟩ (fun x L1 M1 _ => ⟨x, ?_, FM.rf L1 M1⟩)
    · simp (disch := omega) only [fn_159, ↓LCb L, ↓LStb L, ↓LVb L hv, ↓hasBb L V I.2.1, ↓hasTb L hv C.2.1 I.1, ↓hasPb L hv C.2.1 I.1, ↓c146b L V I.2.1, LC L, LSt L, LV L hv, h, eq_self, Nat.le_refl, Nat.lt_irrefl, some_if, Option.bind_some, Option.bind_none, Option.some.injEq, ↓reduceIte, reduceCtorEq, Bool.false_eq_true, Bool.true_eq_false, not_true_eq_false, not_false_eq_true, cmb0, cmb1, Nat.reduceAdd, Nat.reduceMul, Nat.reduceSub, Nat.add_zero, Bool.not_eq_true, Bool.not_eq_false, Nat.reduceEqDiff, Nat.reduceLeDiff, Nat.reduceLT, Int32.reduceLT, Int32.reduceLE, iin_nI, iin_lit, iin_m1, tn_nI, tn_lit, nI_lm, nI_ml, nI_al, nI_la, nI_add, pk_mul, nI_le_l, nI_l_le, nI_lt_l, nI_l_lt, nI_eq_l, nI_l_eq, nI_eqP, nI_leP, nI_ltP, nI_m1, m1_nI, nI_ll, m1_l, l_m1]
    · simp (disch := omega) only [fn_249, ↓LMb L1, ↓mBoxb L1 M1 I.2.1, ↓mWhob L1 M1 I.1, ↓mThingb L1 M1 I.1, ↓mAheadb L1 M1 I.2.1, LM L1, h, eq_self, Nat.le_refl, Nat.lt_irrefl, some_if, Option.bind_some, Option.bind_none, Option.some.injEq, ↓reduceIte, reduceCtorEq, Bool.false_eq_true, Bool.true_eq_false, not_true_eq_false, not_false_eq_true, cmb0, cmb1, Nat.reduceAdd, Nat.reduceMul, Nat.reduceSub, Nat.add_zero, Bool.not_eq_true, Bool.not_eq_false, Nat.reduceEqDiff, Nat.reduceLeDiff, Nat.reduceLT, Int32.reduceLT, Int32.reduceLE, iin_nI, iin_lit, iin_m1, tn_nI, tn_lit, nI_lm, nI_ml, nI_al, nI_la, nI_add, pk_mul, nI_le_l, nI_l_le, nI_lt_l, nI_l_lt, nI_eq_l, nI_l_eq, nI_eqP, nI_leP, nI_ltP, nI_m1, m1_nI, nI_ll, m1_l, l_m1]
  obtain ⟨y, y1, F, y2, y3⟩ := c133 L hv C.2.1 V I hb
  obtain ⟨a, ha, ea⟩ := lka_le I hb (nT s) (Nat.le_refl _)
  have cc : fn_159 2 (nI b) w = (fn_135 y 43 v).bind fun v15 => some (v15, y) := by
    simp (disch := omega) only [fn_159, fn_159_16, ↓LCb L, ↓LStb L, ↓LVb L hv, ↓hasBb L V I.2.1, ↓hasTb L hv C.2.1 I.1, ↓hasPb L hv C.2.1 I.1, ↓c146b L V I.2.1, LC L, LSt L, LV L hv, y1, S2 F.1, ↓LCb F.1, LC F.1, eq_self, Nat.le_refl, Nat.lt_irrefl, some_if, Option.bind_some, Option.bind_none, Option.some.injEq, ↓reduceIte, reduceCtorEq, Bool.false_eq_true, Bool.true_eq_false, not_true_eq_false, not_false_eq_true, cmb0, cmb1, Nat.reduceAdd, Nat.reduceMul, Nat.reduceSub, Nat.add_zero, Bool.not_eq_true, Bool.not_eq_false, Nat.reduceEqDiff, Nat.reduceLeDiff, Nat.reduceLT, Int32.reduceLT, Int32.reduceLE, iin_nI, iin_lit, iin_m1, tn_nI, tn_lit, nI_lm, nI_ml, nI_al, nI_la, nI_add, pk_mul, nI_le_l, nI_l_le, nI_lt_l, nI_l_lt, nI_eq_l, nI_l_eq, nI_eqP, nI_leP, nI_ltP, nI_m1, m1_nI, nI_ll, m1_l, l_m1]
  by_cases a0 : a = 0
  · have h1 : lka s b (nT s) ≤ 0 := by rw [ea, a0]; exact Int64.le_refl _
    have h2 : ¬ 0 < lka s b (nT s) := by rw [Int64.not_lt]; exact h1
    refine ok_ro (r := -1) g ⟨y, ?_, F⟩ (fun x L1 M1 _ => ?_)
    · rw [cc]
      simp (disch := omega) only [fn_135, LC F.1, y2, lgc_gt, h2, eq_self, Nat.le_refl, Nat.lt_irrefl, some_if, Option.bind_some, Option.bind_none, Option.some.injEq, ↓reduceIte, reduceCtorEq, Bool.false_eq_true, Bool.true_eq_false, not_true_eq_false, not_false_eq_true, cmb0, cmb1, Nat.reduceAdd, Nat.reduceMul, Nat.reduceSub, Nat.add_zero, Bool.not_eq_true, Bool.not_eq_false, Nat.reduceEqDiff, Nat.reduceLeDiff, Nat.reduceLT, Int32.reduceLT, Int32.reduceLE, iin_nI, iin_lit, iin_m1, tn_nI, tn_lit, nI_lm, nI_ml, nI_al, nI_la, nI_add, pk_mul, nI_le_l, nI_l_le, nI_lt_l, nI_l_lt, nI_eq_l, nI_l_eq, nI_eqP, nI_leP, nI_ltP, nI_m1, m1_nI, nI_ll, m1_l, l_m1]
    · obtain ⟨z, z1, z2, z3, z4⟩ := m247 L1 M1 I hb
      refine ⟨z, ?_, z2⟩
      rw [decide_eq_false (fun q => q h1)] at z1
      simp (disch := omega) only [fn_249, ↓LMb L1, ↓mBoxb L1 M1 I.2.1, ↓mWhob L1 M1 I.1, ↓mThingb L1 M1 I.1, ↓mAheadb L1 M1 I.2.1, LM L1, z1, eq_self, Nat.le_refl, Nat.lt_irrefl, some_if, Option.bind_some, Option.bind_none, Option.some.injEq, ↓reduceIte, reduceCtorEq, Bool.false_eq_true, Bool.true_eq_false, not_true_eq_false, not_false_eq_true, cmb0, cmb1, Nat.reduceAdd, Nat.reduceMul, Nat.reduceSub, Nat.add_zero, Bool.not_eq_true, Bool.not_eq_false, Nat.reduceEqDiff, Nat.reduceLeDiff, Nat.reduceLT, Int32.reduceLT, Int32.reduceLE, iin_nI, iin_lit, iin_m1, tn_nI, tn_lit, nI_lm, nI_ml, nI_al, nI_la, nI_add, pk_mul, nI_le_l, nI_l_le, nI_lt_l, nI_l_lt, nI_eq_l, nI_l_eq, nI_eqP, nI_leP, nI_ltP, nI_m1, m1_nI, nI_ll, m1_l, l_m1]
  -- the worth of all, as numbers
  have wr : ∀ t, t < nT s → ∃ k, k ≤ 999 ∧ wo s t 5 = nI k := by
    intro t ht
    obtain ⟨⟨x, hx, ex⟩, -, -, ⟨d, hd, ed⟩⟩ := I.1.2.2.2.2.1 t ht
    unfold wo
    rw [ex, ed, show (5 : Int32) = nI 5 from rfl, pk_mul]
    by_cases q : d * 5 < x
    · rw [pk_sub (by omega), if_pos (show (0 : Int32) < nI (x - d * 5) from nI_lt (a := 0) (by omega) (by omega))]
      exact ⟨x - d * 5, by omega, rfl⟩
    · refine ⟨0, by omega, ?_⟩
      rw [if_neg]
      · rfl
      · rw [Int32.not_lt]
        by_cases e : x = d * 5
        · rw [e, Int32.sub_self]; exact Int32.le_refl _
        · exact Int32.le_of_lt (pk_sneg (by omega) (by omega))
  have sm : ∀ n, n ≤ nT s → ∃ k, k ≤ 99900000000000000 * n ∧ fup (fun t z => z + (wo s t 5).toInt64 * lk s b t (nR s)) 0 n = lN k := by
    intro n
    induction n with
    | zero => intro _; exact ⟨0, by omega, rfl⟩
    | succ n ih =>
      intro hn
      obtain ⟨k, hk, e⟩ := ih (by omega)
      obtain ⟨x, hx, ex⟩ := wr n (by omega)
      obtain ⟨q, hq, eq⟩ := lk_le I hb (show n < nT s by omega) (nR s)
      refine ⟨k + x * q, ?_, ?_⟩
      · have := Nat.mul_le_mul hx hq; omega
      · show fup _ 0 n + (wo s n 5).toInt64 * lk s b n (nR s) = _
        rw [e, ex, eq, nI_l (by omega), lN_mul, lN_add]
  obtain ⟨S0, hS, eS⟩ := sm (nT s) (Nat.le_refl _)
  have h1 : ¬ lka s b (nT s) ≤ 0 := by
    rw [ea, show (0 : Int64) = lN 0 from rfl, pk_lLE (by omega) (by omega)]; omega
  have h2 : 0 < lka s b (nT s) := by rw [← Int64.not_le]; exact h1
  have h0 : ¬ lN a = 0 := by
    rw [show (0 : Int64) = lN 0 from rfl, pk_lEQ (by omega) (by omega)]; omega
  have hS2 : S0 < 9223372036854775808 := by omega
  refine ok_ro (r := nI (dg a (S0 / a, S0 % a) 2).1) g ⟨y, ?_, F⟩ (fun x L1 M1 _ => ?_)
  · have lp : fn_135_11 y 43 v = fn_135_60 y 43 (lN S0) := by
      rw [← eS]
      refine up_f (fun m t z => fn_135_16 y m 43 v z (nI t)) (nT s) (fun t z => z + (wo s t 5).toInt64 * lk s b t (nR s)) 0 _ (by omega) (fun m t z ht => ?_) (fun m => ?_)
      · have ht' : ¬ nT s ≤ t := by omega
        have ht2 : ¬ 8 ≤ t := by omega
        have e44 := y3 t ht
        have VV := F.V C.2.1 hv
        simp (disch := omega) only [fn_135_16, ↓LCb F.1, ↓LVb F.1 hv, LC F.1, LV F.1 hv, VV.1, hT.1, ht', ht2, c6i F.1 hv VV I.1 ht, e44, Int64.mul_comm (lk s b t (nR s)), eq_self, Nat.le_refl, Nat.lt_irrefl, some_if, Option.bind_some, Option.bind_none, Option.some.injEq, ↓reduceIte, reduceCtorEq, Bool.false_eq_true, Bool.true_eq_false, not_true_eq_false, not_false_eq_true, cmb0, cmb1, Nat.reduceAdd, Nat.reduceMul, Nat.reduceSub, Nat.add_zero, Bool.not_eq_true, Bool.not_eq_false, Nat.reduceEqDiff, Nat.reduceLeDiff, Nat.reduceLT, Int32.reduceLT, Int32.reduceLE, iin_nI, iin_lit, iin_m1, tn_nI, tn_lit, nI_lm, nI_ml, nI_al, nI_la, nI_add, pk_mul, nI_le_l, nI_l_le, nI_lt_l, nI_l_lt, nI_eq_l, nI_l_eq, nI_eqP, nI_leP, nI_ltP, nI_m1, m1_nI, nI_ll, m1_l, l_m1]
      · have VV := F.V C.2.1 hv
        simp (disch := omega) only [fn_135_16, ↓LVb F.1 hv, LV F.1 hv, VV.1, hT.1, eq_self, Nat.le_refl, Nat.lt_irrefl, some_if, Option.bind_some, Option.bind_none, Option.some.injEq, ↓reduceIte, reduceCtorEq, Bool.false_eq_true, Bool.true_eq_false, not_true_eq_false, not_false_eq_true, cmb0, cmb1, Nat.reduceAdd, Nat.reduceMul, Nat.reduceSub, Nat.add_zero, Bool.not_eq_true, Bool.not_eq_false, Nat.reduceEqDiff, Nat.reduceLeDiff, Nat.reduceLT, Int32.reduceLT, Int32.reduceLE, iin_nI, iin_lit, iin_m1, tn_nI, tn_lit, nI_lm, nI_ml, nI_al, nI_la, nI_add, pk_mul, nI_le_l, nI_l_le, nI_lt_l, nI_l_lt, nI_eq_l, nI_l_eq, nI_eqP, nI_leP, nI_ltP, nI_m1, m1_nI, nI_ll, m1_l, l_m1]
    have e60 : fn_135_60 y 43 (lN S0) = some (nI (dg a (S0 / a, S0 % a) 2).1) := by
      have e1 : cm_L y 43 2 = lN a := y2.trans ea
      have hm := Nat.mod_lt S0 (show 0 < a by omega)
      simp (disch := omega) only [fn_135_60, LC F.1, e1, h0, eq_self, Nat.le_refl, Nat.lt_irrefl, some_if, Option.bind_some, Option.bind_none, Option.some.injEq, ↓reduceIte, reduceCtorEq, Bool.false_eq_true, Bool.true_eq_false, not_true_eq_false, not_false_eq_true, cmb0, cmb1, Nat.reduceAdd, Nat.reduceMul, Nat.reduceSub, Nat.add_zero, Bool.not_eq_true, Bool.not_eq_false, Nat.reduceEqDiff, Nat.reduceLeDiff, Nat.reduceLT, Int32.reduceLT, Int32.reduceLE, iin_nI, iin_lit, iin_m1, tn_nI, tn_lit, nI_lm, nI_ml, nI_al, nI_la, nI_add, pk_mul, nI_le_l, nI_l_le, nI_lt_l, nI_l_lt, nI_eq_l, nI_l_eq, nI_eqP, nI_leP, nI_ltP, nI_m1, m1_nI, nI_ll, m1_l, l_m1]
      rw [pk_lRem hS2 (by omega) (by omega), pk_lDiv hS2 (by omega) (by omega), show (100 : Int64) = lN 100 from rfl, lN_mul, lN_mul, pk_lDiv (by omega) (by omega) (by omega), lN_add, lN_i, dg_two (by omega)]
    rw [cc]
    simp (disch := omega) only [fn_135, LC F.1, y2, lgc_gt, h2, lp, e60, eq_self, Nat.le_refl, Nat.lt_irrefl, some_if, Option.bind_some, Option.bind_none, Option.some.injEq, ↓reduceIte, reduceCtorEq, Bool.false_eq_true, Bool.true_eq_false, not_true_eq_false, not_false_eq_true, cmb0, cmb1, Nat.reduceAdd, Nat.reduceMul, Nat.reduceSub, Nat.add_zero, Bool.not_eq_true, Bool.not_eq_false, Nat.reduceEqDiff, Nat.reduceLeDiff, Nat.reduceLT, Int32.reduceLT, Int32.reduceLE, iin_nI, iin_lit, iin_m1, tn_nI, tn_lit, nI_lm, nI_ml, nI_al, nI_la, nI_add, pk_mul, nI_le_l, nI_l_le, nI_lt_l, nI_l_lt, nI_eq_l, nI_l_eq, nI_eqP, nI_leP, nI_ltP, nI_m1, m1_nI, nI_ll, m1_l, l_m1]
  · obtain ⟨z, z1, z2, z3, z4⟩ := m247 L1 M1 I hb
    refine ⟨z, ?_, z2⟩
    rw [decide_eq_true h1] at z1
    have lp : fn_249_18 96 z = fn_249_57 96 (lN S0) z := by
      rw [← eS]
      refine up_f (fun m t q => fn_249_23 m 96 q (nI t) z) (nT s) (fun t z => z + (wo s t 5).toInt64 * lk s b t (nR s)) 0 _ (by omega) (fun m t q ht => ?_) (fun m => ?_)
      · have ht' : ¬ nT s ≤ t := by omega
        have e123 := z4 t ht
        simp (disch := omega) only [fn_249_23, ↓LMb z2.1, LM z2.1, RM z2.2.1, hT.1, ht', m222 z2.1 z2.2.1 (show t < 8 by omega), e123, eq_self, Nat.le_refl, Nat.lt_irrefl, some_if, Option.bind_some, Option.bind_none, Option.some.injEq, ↓reduceIte, reduceCtorEq, Bool.false_eq_true, Bool.true_eq_false, not_true_eq_false, not_false_eq_true, cmb0, cmb1, Nat.reduceAdd, Nat.reduceMul, Nat.reduceSub, Nat.add_zero, Bool.not_eq_true, Bool.not_eq_false, Nat.reduceEqDiff, Nat.reduceLeDiff, Nat.reduceLT, Int32.reduceLT, Int32.reduceLE, iin_nI, iin_lit, iin_m1, tn_nI, tn_lit, nI_lm, nI_ml, nI_al, nI_la, nI_add, pk_mul, nI_le_l, nI_l_le, nI_lt_l, nI_l_lt, nI_eq_l, nI_l_eq, nI_eqP, nI_leP, nI_ltP, nI_m1, m1_nI, nI_ll, m1_l, l_m1]
      · simp (disch := omega) only [fn_249_23, ↓LMb z2.1, LM z2.1, RM z2.2.1, hT.1, eq_self, Nat.le_refl, Nat.lt_irrefl, some_if, Option.bind_some, Option.bind_none, Option.some.injEq, ↓reduceIte, reduceCtorEq, Bool.false_eq_true, Bool.true_eq_false, not_true_eq_false, not_false_eq_true, cmb0, cmb1, Nat.reduceAdd, Nat.reduceMul, Nat.reduceSub, Nat.add_zero, Bool.not_eq_true, Bool.not_eq_false, Nat.reduceEqDiff, Nat.reduceLeDiff, Nat.reduceLT, Int32.reduceLT, Int32.reduceLE, iin_nI, iin_lit, iin_m1, tn_nI, tn_lit, nI_lm, nI_ml, nI_al, nI_la, nI_add, pk_mul, nI_le_l, nI_l_le, nI_lt_l, nI_l_lt, nI_eq_l, nI_l_eq, nI_eqP, nI_leP, nI_ltP, nI_m1, m1_nI, nI_ll, m1_l, l_m1]
    have e1 : cm_L z 96 50 = lN a := z3.trans ea
    have e3 : fn_197 z (lN S0) (lN a) 2 = some (lN (dg a (S0 / a, S0 % a) 2).1) := m197 z (k := 2) (by omega) (by omega) hS2 (by omega)
    simp (disch := omega) only [fn_249, fn_249_57, ↓LMb L1, ↓mBoxb L1 M1 I.2.1, ↓mWhob L1 M1 I.1, ↓mThingb L1 M1 I.1, ↓mAheadb L1 M1 I.2.1, LM L1, z1, lp, S96 z2.1, e1, e3, lN_i, eq_self, Nat.le_refl, Nat.lt_irrefl, some_if, Option.bind_some, Option.bind_none, Option.some.injEq, ↓reduceIte, reduceCtorEq, Bool.false_eq_true, Bool.true_eq_false, not_true_eq_false, not_false_eq_true, cmb0, cmb1, Nat.reduceAdd, Nat.reduceMul, Nat.reduceSub, Nat.add_zero, Bool.not_eq_true, Bool.not_eq_false, Nat.reduceEqDiff, Nat.reduceLeDiff, Nat.reduceLT, Int32.reduceLT, Int32.reduceLE, iin_nI, iin_lit, iin_m1, tn_nI, tn_lit, nI_lm, nI_ml, nI_al, nI_la, nI_add, pk_mul, nI_le_l, nI_l_le, nI_lt_l, nI_l_lt, nI_eq_l, nI_l_eq, nI_eqP, nI_leP, nI_ltP, nI_m1, m1_nI, nI_ll, m1_l, l_m1]
end THINK3
