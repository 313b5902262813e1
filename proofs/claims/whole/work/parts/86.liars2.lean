/-! liars: the reference and the call -/
section LIARS2
variable {v c u n m l p q d : Nat} {w w' : cm_W} {s s' : St} {M : Mk}
theorem m288 (L : Lay v c w) (R : RelM w s) (I : InvV s) (hp : p < nP s) (hm : m < 6) (T0 : (mko s p m).top (nT s) ≠ 0) (x : Int32) : fn_288 w 96 (nI p) (nI m) (enc ((mko s p m).top (nT s))) x (nI d) = some (liC (mko s p m) ((mko s p m).top (nT s)) d x) := by
  have hT := I.1
  have hP := I.2.1
  have O := mko_ok I hp hm
  have hD := mko_D (m := m) I hp
  have tl : (mko s p m).top (nT s) ≤ nT s := top_le (M := mko s p m) (nT s)
  have bp : 0 < liB (mko s p m) ((mko s p m).top (nT s)) x (nT s) := liB_pos O T0 x
  have bl := liB_le hD ((mko s p m).top (nT s)) x (nT s)
  have al := liA_le O hD ((mko s p m).top (nT s)) x (nT s) (Nat.le_refl _)
  unfold liC liT
  show _ = some (liOk (mko s p m) ((mko s p m).top (nT s)) x (nI (liA (mko s p m) ((mko s p m).top (nT s)) x (nT s) / liB (mko s p m) ((mko s p m).top (nT s)) x (nT s)) - nI d) (nT s))
  generalize hTT : (mko s p m).top (nT s) = T at *
  have sh : ∀ k, k < nT s → fn_228 w 96 (nI p) (nI k) = some (nI ((mko s p m).D k)) := fun k hk => by
    have d : (mko s p m).D k = tn (s 107 (8 * p + k)) := if_pos hk
    rw [d]
    exact (m228 L R (p := p) (t := k) (by omega) (by omega)).trans (congrArg some (sh_n I hp hk).1)
  have wo1 : ∀ k, k < nT s → fn_222 w 96 (nI k) (nI m) = some (nI (wn s m k)) := fun k hk => (m222 L R (t := k) (by omega) (nI m)).trans (congrArg some (wo_n I hk hm).1)
  have first : fn_288 w 96 (nI p) (nI m) (enc T) x (nI d) = fn_288_75 w 96 (nI p) (nI m) (enc T) x (nI d) (nI (liA (mko s p m) T x (nT s))) (nI (liB (mko s p m) T x (nT s))) := by
    refine up_0 (fun n k (a : Int32 × Int32) => fn_288_9 w n 96 (nI p) (nI m) (enc T) x (nI d) a.1 a.2 (nI k)) (nT s) (fun k a => a = (nI (liA (mko s p m) T x k), nI (liB (mko s p m) T x k))) (fun o => o = _) ((0 : Int32), (0 : Int32)) (by omega) rfl (fun n k a hk ha => Or.inr ⟨_, rfl, ?_⟩) (fun n a ha => ?_)
    · subst ha
      dsimp only
      have hk' : ¬ nT s ≤ k := by omega
      have eq1 := enc_eq (k := k) (T := T) (by omega) (by omega)
      have b6 := b196 w x (k := k) (by omega)
      have e8 := sh k hk
      have e2 := wo1 k hk
      have sA : liA (mko s p m) T x (k + 1) = liA (mko s p m) T x k + if exf T x k = true then (mko s p m).D k * wn s m k else 0 := rfl
      have sB : liB (mko s p m) T x (k + 1) = liB (mko s p m) T x k + if exf T x k = true then (mko s p m).D k else 0 := rfl
      rw [sA, sB]
      by_cases z1 : k + 1 = T
      · have ee : exf T x k = true := by unfold exf; rw [decide_eq_true z1]; rfl
        rw [if_pos ee, if_pos ee]
        simp (disch := omega) only [fn_288_9, fn_288_37, fn_288_69, ↓LMb L, LM L, RM R, hT.1, hk', eq1, z1, e8, e2, eq_self, Nat.le_refl, Nat.lt_irrefl, some_if, Option.bind_some, Option.bind_none, Option.some.injEq, ↓reduceIte, reduceCtorEq, Bool.false_eq_true, Bool.true_eq_false, not_true_eq_false, not_false_eq_true, cmb0, cmb1, Nat.reduceAdd, Nat.reduceMul, Nat.reduceSub, Nat.add_zero, Bool.not_eq_true, Bool.not_eq_false, Nat.reduceEqDiff, Nat.reduceLeDiff, Nat.reduceLT, Int32.reduceLT, Int32.reduceLE, iin_nI, iin_lit, iin_m1, tn_nI, tn_lit, nI_lm, nI_ml, nI_al, nI_la, nI_add, pk_mul, nI_le_l, nI_l_le, nI_lt_l, nI_l_lt, nI_eq_l, nI_l_eq, nI_eqP, nI_leP, nI_ltP, nI_m1, m1_nI, nI_ll, m1_l, l_m1]
      · cases z2 : bit x k
        · have ee : ¬ exf T x k = true := by unfold exf; rw [decide_eq_false z1, z2]; decide
          rw [if_neg ee, if_neg ee]
          rw [z2] at b6
          simp (disch := omega) only [fn_288_9, fn_288_69, ↓LMb L, LM L, RM R, hT.1, hk', eq1, z1, b6, eq_self, Nat.le_refl, Nat.lt_irrefl, some_if, Option.bind_some, Option.bind_none, Option.some.injEq, ↓reduceIte, reduceCtorEq, Bool.false_eq_true, Bool.true_eq_false, not_true_eq_false, not_false_eq_true, cmb0, cmb1, Nat.reduceAdd, Nat.reduceMul, Nat.reduceSub, Nat.add_zero, Bool.not_eq_true, Bool.not_eq_false, Nat.reduceEqDiff, Nat.reduceLeDiff, Nat.reduceLT, Int32.reduceLT, Int32.reduceLE, iin_nI, iin_lit, iin_m1, tn_nI, tn_lit, nI_lm, nI_ml, nI_al, nI_la, nI_add, pk_mul, nI_le_l, nI_l_le, nI_lt_l, nI_l_lt, nI_eq_l, nI_l_eq, nI_eqP, nI_leP, nI_ltP, nI_m1, m1_nI, nI_ll, m1_l, l_m1]
        · have ee : exf T x k = true := by unfold exf; rw [z2, Bool.or_true]
          rw [if_pos ee, if_pos ee]
          rw [z2] at b6
          simp (disch := omega) only [fn_288_9, fn_288_37, fn_288_69, ↓LMb L, LM L, RM R, hT.1, hk', eq1, z1, b6, e8, e2, eq_self, Nat.le_refl, Nat.lt_irrefl, some_if, Option.bind_some, Option.bind_none, Option.some.injEq, ↓reduceIte, reduceCtorEq, Bool.false_eq_true, Bool.true_eq_false, not_true_eq_false, not_false_eq_true, cmb0, cmb1, Nat.reduceAdd, Nat.reduceMul, Nat.reduceSub, Nat.add_zero, Bool.not_eq_true, Bool.not_eq_false, Nat.reduceEqDiff, Nat.reduceLeDiff, Nat.reduceLT, Int32.reduceLT, Int32.reduceLE, iin_nI, iin_lit, iin_m1, tn_nI, tn_lit, nI_lm, nI_ml, nI_al, nI_la, nI_add, pk_mul, nI_le_l, nI_l_le, nI_lt_l, nI_l_lt, nI_eq_l, nI_l_eq, nI_eqP, nI_leP, nI_ltP, nI_m1, m1_nI, nI_ll, m1_l, l_m1]
    · subst ha
      simp (disch := omega) only [fn_288_9, LM L, RM R, hT.1, eq_self, Nat.le_refl, Nat.lt_irrefl, some_if, Option.bind_some, Option.bind_none, Option.some.injEq, ↓reduceIte, reduceCtorEq, Bool.false_eq_true, Bool.true_eq_false, not_true_eq_false, not_false_eq_true, cmb0, cmb1, Nat.reduceAdd, Nat.reduceMul, Nat.reduceSub, Nat.add_zero, Bool.not_eq_true, Bool.not_eq_false, Nat.reduceEqDiff, Nat.reduceLeDiff, Nat.reduceLT, Int32.reduceLT, Int32.reduceLE, iin_nI, iin_lit, iin_m1, tn_nI, tn_lit, nI_lm, nI_ml, nI_al, nI_la, nI_add, pk_mul, nI_le_l, nI_l_le, nI_lt_l, nI_l_lt, nI_eq_l, nI_l_eq, nI_eqP, nI_leP, nI_ltP, nI_m1, m1_nI, nI_ll, m1_l, l_m1]
  rw [first]
  have nz : ¬ liB (mko s p m) T x (nT s) = 0 := by omega
  have e75 : fn_288_75 w 96 (nI p) (nI m) (enc T) x (nI d) (nI (liA (mko s p m) T x (nT s))) (nI (liB (mko s p m) T x (nT s))) = fn_288_91 w cm_N 96 (nI p) (nI m) (enc T) x (nI (liA (mko s p m) T x (nT s) / liB (mko s p m) T x (nT s)) - nI d) 1 0 := by
    have dv := pk_div (a := liA (mko s p m) T x (nT s)) (d := liB (mko s p m) T x (nT s)) (by omega) (by omega) (by omega)
    simp (disch := omega) only [fn_288_75, nz, dv, eq_self, Nat.le_refl, Nat.lt_irrefl, some_if, Option.bind_some, Option.bind_none, Option.some.injEq, ↓reduceIte, reduceCtorEq, Bool.false_eq_true, Bool.true_eq_false, not_true_eq_false, not_false_eq_true, cmb0, cmb1, Nat.reduceAdd, Nat.reduceMul, Nat.reduceSub, Nat.add_zero, Bool.not_eq_true, Bool.not_eq_false, Nat.reduceEqDiff, Nat.reduceLeDiff, Nat.reduceLT, Int32.reduceLT, Int32.reduceLE, iin_nI, iin_lit, iin_m1, tn_nI, tn_lit, nI_lm, nI_ml, nI_al, nI_la, nI_add, pk_mul, nI_le_l, nI_l_le, nI_lt_l, nI_l_lt, nI_eq_l, nI_l_eq, nI_eqP, nI_leP, nI_ltP, nI_m1, m1_nI, nI_ll, m1_l, l_m1]
  rw [e75]
  generalize nI (liA (mko s p m) T x (nT s) / liB (mko s p m) T x (nT s)) - nI d = th
  refine up_0 (fun n k (a : Int32) => fn_288_91 w n 96 (nI p) (nI m) (enc T) x th a (nI k)) (nT s) (fun k a => a = if liOk (mko s p m) T x th k = true then 1 else 0) (fun o => o = _) (1 : Int32) (by omega) rfl (fun n k a hk ha => Or.inr ⟨_, rfl, ?_⟩) (fun n a ha => ?_)
  · subst ha
    have hk' : ¬ nT s ≤ k := by omega
    have eq1 := enc_eq (k := k) (T := T) (by omega) (by omega)
    have b6 := b196 w x (k := k) (by omega)
    have e8 := sh k hk
    have e2 := wo1 k hk
    have hd := hD k
    have st : liOk (mko s p m) T x th (k + 1) = (liOk (mko s p m) T x th k && (decide ((mko s p m).D k = 0) || decide (k + 1 = T) || (bit x k != decide (th ≤ nI (wn s m k))))) := rfl
    rw [st]
    by_cases d0 : (mko s p m).D k = 0
    · rw [decide_eq_true d0, Bool.true_or, Bool.true_or, Bool.and_true]
      simp (disch := omega) only [fn_288_91, fn_288_155, ↓LMb L, LM L, RM R, hT.1, hk', e8, d0, eq_self, Nat.le_refl, Nat.lt_irrefl, some_if, Option.bind_some, Option.bind_none, Option.some.injEq, ↓reduceIte, reduceCtorEq, Bool.false_eq_true, Bool.true_eq_false, not_true_eq_false, not_false_eq_true, cmb0, cmb1, Nat.reduceAdd, Nat.reduceMul, Nat.reduceSub, Nat.add_zero, Bool.not_eq_true, Bool.not_eq_false, Nat.reduceEqDiff, Nat.reduceLeDiff, Nat.reduceLT, Int32.reduceLT, Int32.reduceLE, iin_nI, iin_lit, iin_m1, tn_nI, tn_lit, nI_lm, nI_ml, nI_al, nI_la, nI_add, pk_mul, nI_le_l, nI_l_le, nI_lt_l, nI_l_lt, nI_eq_l, nI_l_eq, nI_eqP, nI_leP, nI_ltP, nI_m1, m1_nI, nI_ll, m1_l, l_m1]
    have dp : ¬ (mko s p m).D k ≤ 0 := by omega
    by_cases z1 : k + 1 = T
    · rw [decide_eq_true z1, Bool.or_true, Bool.true_or, Bool.and_true]
      simp (disch := omega) only [fn_288_91, fn_288_155, ↓LMb L, LM L, RM R, hT.1, hk', e8, dp, eq1, z1, eq_self, Nat.le_refl, Nat.lt_irrefl, some_if, Option.bind_some, Option.bind_none, Option.some.injEq, ↓reduceIte, reduceCtorEq, Bool.false_eq_true, Bool.true_eq_false, not_true_eq_false, not_false_eq_true, cmb0, cmb1, Nat.reduceAdd, Nat.reduceMul, Nat.reduceSub, Nat.add_zero, Bool.not_eq_true, Bool.not_eq_false, Nat.reduceEqDiff, Nat.reduceLeDiff, Nat.reduceLT, Int32.reduceLT, Int32.reduceLE, iin_nI, iin_lit, iin_m1, tn_nI, tn_lit, nI_lm, nI_ml, nI_al, nI_la, nI_add, pk_mul, nI_le_l, nI_l_le, nI_lt_l, nI_l_lt, nI_eq_l, nI_l_eq, nI_eqP, nI_leP, nI_ltP, nI_m1, m1_nI, nI_ll, m1_l, l_m1]
    rw [decide_eq_false d0, decide_eq_false z1, Bool.false_or, Bool.false_or]
    cases liOk (mko s p m) T x th k
    · simp (disch := omega) only [fn_288_91, fn_288_152, fn_288_155, ↓LMb L, LM L, RM R, hT.1, hk', e8, dp, eq1, z1, Bool.false_and, eq_self, Nat.le_refl, Nat.lt_irrefl, some_if, Option.bind_some, Option.bind_none, Option.some.injEq, ↓reduceIte, reduceCtorEq, Bool.false_eq_true, Bool.true_eq_false, not_true_eq_false, not_false_eq_true, cmb0, cmb1, Nat.reduceAdd, Nat.reduceMul, Nat.reduceSub, Nat.add_zero, Bool.not_eq_true, Bool.not_eq_false, Nat.reduceEqDiff, Nat.reduceLeDiff, Nat.reduceLT, Int32.reduceLT, Int32.reduceLE, iin_nI, iin_lit, iin_m1, tn_nI, tn_lit, nI_lm, nI_ml, nI_al, nI_la, nI_add, pk_mul, nI_le_l, nI_l_le, nI_lt_l, nI_l_lt, nI_eq_l, nI_l_eq, nI_eqP, nI_leP, nI_ltP, nI_m1, m1_nI, nI_ll, m1_l, l_m1]
    · have n01 : ((0 : Int32) = 1) = False := by simp
      have n10 : ((1 : Int32) = 0) = False := by simp
      have c1 : cm_b true = 1 := rfl
      have x1 : (true != false) = true := rfl
      have x2 : (false != true) = true := rfl
      have x3 : (true != true) = false := rfl
      have x4 : (false != false) = false := rfl
      have c0 : cm_b false = 0 := rfl
      cases z : bit x k <;> by_cases t : th ≤ nI (wn s m k) <;> rw [z] at b6 <;> simp (disch := omega) only [fn_288_91, fn_288_137, fn_288_152, fn_288_155, ↓LMb L, LM L, RM R, hT.1, hk', e8, dp, eq1, z1, e2, t, b6, n01, n10, c0, c1, decide_true, decide_false, Bool.true_and, x1, x2, x3, x4, eq_self, Nat.le_refl, Nat.lt_irrefl, some_if, Option.bind_some, Option.bind_none, Option.some.injEq, ↓reduceIte, reduceCtorEq, Bool.false_eq_true, Bool.true_eq_false, not_true_eq_false, not_false_eq_true, cmb0, cmb1, Nat.reduceAdd, Nat.reduceMul, Nat.reduceSub, Nat.add_zero, Bool.not_eq_true, Bool.not_eq_false, Nat.reduceEqDiff, Nat.reduceLeDiff, Nat.reduceLT, Int32.reduceLT, Int32.reduceLE, iin_nI, iin_lit, iin_m1, tn_nI, tn_lit, nI_lm, nI_ml, nI_al, nI_la, nI_add, pk_mul, nI_le_l, nI_l_le, nI_lt_l, nI_l_lt, nI_eq_l, nI_l_eq, nI_eqP, nI_leP, nI_ltP, nI_m1, m1_nI, nI_ll, m1_l, l_m1]
  · subst ha
    cases liOk (mko s p m) T x th (nT s) <;> simp (disch := omega) only [fn_288_91, LM L, RM R, hT.1, true_or, or_true, decide_true, decide_false, eq_self, Nat.le_refl, Nat.lt_irrefl, some_if, Option.bind_some, Option.bind_none, Option.some.injEq, ↓reduceIte, reduceCtorEq, Bool.false_eq_true, Bool.true_eq_false, not_true_eq_false, not_false_eq_true, cmb0, cmb1, Nat.reduceAdd, Nat.reduceMul, Nat.reduceSub, Nat.add_zero, Bool.not_eq_true, Bool.not_eq_false, Nat.reduceEqDiff, Nat.reduceLeDiff, Nat.reduceLT, Int32.reduceLT, Int32.reduceLE, iin_nI, iin_lit, iin_m1, tn_nI, tn_lit, nI_lm, nI_ml, nI_al, nI_la, nI_add, pk_mul, nI_le_l, nI_l_le, nI_lt_l, nI_l_lt, nI_eq_l, nI_l_eq, nI_eqP, nI_leP, nI_ltP, nI_m1, m1_nI, nI_ll, m1_l, l_m1]
end LIARS2
