/-! fill: the call -/
section FILL2
variable {v c u n m l p q d : Nat} {w w' : cm_W} {s s' : St} {M : Mk}
theorem w_fill (g : GG v c w s) (i1 i2 i3 i4 : Int32) : OKW (fn_187 2 i1 i2 i3 i4) (fn_292 96 i1 i2 i3 i4) w := by
  obtain ⟨L, R, C, Z, I⟩ := id g
  have hv := L.1
  have V := C.2.1
  have hT := I.1.1
  have hP := I.1.2.1
  have e01 : ∀ x, fn_194 x i4 (0 : Int32) (1 : Int32) = some (cm_iin i4 2) := fun x => isIn_lit x i4 1 (by decide)
  rcases iin_cs i2 (n := 4) (by omega) with h | ⟨l, hl, rfl⟩
  · refine ok_bad g ?_ (fun x L1 M1 => ?_)
    · simp (disch := omega) only [fn_187, claw, h, eq_self, Nat.le_refl, Nat.lt_irrefl, some_if, Option.bind_some, Option.bind_none, Option.some.injEq, ↓reduceIte, reduceCtorEq, Bool.false_eq_true, Bool.true_eq_false, not_true_eq_false, not_false_eq_true, cmb0, cmb1, Nat.reduceAdd, Nat.reduceMul, Nat.reduceSub, Nat.add_zero, Bool.not_eq_true, Bool.not_eq_false, Nat.reduceEqDiff, Nat.reduceLeDiff, Nat.reduceLT, Int32.reduceLT, Int32.reduceLE, iin_nI, iin_lit, iin_m1, tn_nI, tn_lit, nI_lm, nI_ml, nI_al, nI_la, nI_add, pk_mul, nI_le_l, nI_l_le, nI_lt_l, nI_l_lt, nI_eq_l, nI_l_eq, nI_eqP, nI_leP, nI_ltP, nI_m1, m1_nI, nI_ll, m1_l, l_m1]
    · cases h2 : cm_iin i1 (nP s) <;> simp (disch := omega) only [fn_292, LM L1, mWho L1 M1 I.1, mlaw, h, h2, eq_self, Nat.le_refl, Nat.lt_irrefl, some_if, Option.bind_some, Option.bind_none, Option.some.injEq, ↓reduceIte, reduceCtorEq, Bool.false_eq_true, Bool.true_eq_false, not_true_eq_false, not_false_eq_true, cmb0, cmb1, Nat.reduceAdd, Nat.reduceMul, Nat.reduceSub, Nat.add_zero, Bool.not_eq_true, Bool.not_eq_false, Nat.reduceEqDiff, Nat.reduceLeDiff, Nat.reduceLT, Int32.reduceLT, Int32.reduceLE, iin_nI, iin_lit, iin_m1, tn_nI, tn_lit, nI_lm, nI_ml, nI_al, nI_la, nI_add, pk_mul, nI_le_l, nI_l_le, nI_lt_l, nI_l_lt, nI_eq_l, nI_l_eq, nI_eqP, nI_leP, nI_ltP, nI_m1, m1_nI, nI_ll, m1_l, l_m1]
  rcases iin_cs i3 (n := 6) (by omega) with h | ⟨m, hm, rfl⟩
  · refine ok_bad g ?_ (fun x L1 M1 => ?_)
    · simp (disch := omega) only [fn_187, claw, bmon, h, eq_self, Nat.le_refl, Nat.lt_irrefl, some_if, Option.bind_some, Option.bind_none, Option.some.injEq, ↓reduceIte, reduceCtorEq, Bool.false_eq_true, Bool.true_eq_false, not_true_eq_false, not_false_eq_true, cmb0, cmb1, Nat.reduceAdd, Nat.reduceMul, Nat.reduceSub, Nat.add_zero, Bool.not_eq_true, Bool.not_eq_false, Nat.reduceEqDiff, Nat.reduceLeDiff, Nat.reduceLT, Int32.reduceLT, Int32.reduceLE, iin_nI, iin_lit, iin_m1, tn_nI, tn_lit, nI_lm, nI_ml, nI_al, nI_la, nI_add, pk_mul, nI_le_l, nI_l_le, nI_lt_l, nI_l_lt, nI_eq_l, nI_l_eq, nI_eqP, nI_leP, nI_ltP, nI_m1, m1_nI, nI_ll, m1_l, l_m1]
    · cases h2 : cm_iin i1 (nP s) <;> simp (disch := omega) only [fn_292, LM L1, mWho L1 M1 I.1, mlaw, mmon (a := 0) _ L1, h, h2, eq_self, Nat.le_refl, Nat.lt_irrefl, some_if, Option.bind_some, Option.bind_none, Option.some.injEq, ↓reduceIte, reduceCtorEq, Bool.false_eq_true, Bool.true_eq_false, not_true_eq_false, not_false_eq_true, cmb0, cmb1, Nat.reduceAdd, Nat.reduceMul, Nat.reduceSub, Nat.add_zero, Bool.not_eq_true, Bool.not_eq_false, Nat.reduceEqDiff, Nat.reduceLeDiff, Nat.reduceLT, Int32.reduceLT, Int32.reduceLE, iin_nI, iin_lit, iin_m1, tn_nI, tn_lit, nI_lm, nI_ml, nI_al, nI_la, nI_add, pk_mul, nI_le_l, nI_l_le, nI_lt_l, nI_l_lt, nI_eq_l, nI_l_eq, nI_eqP, nI_leP, nI_ltP, nI_m1, m1_nI, nI_ll, m1_l, l_m1]
  rcases iin_cs i1 (n := nP s) (by omega) with h | ⟨p, hp, rfl⟩
  · refine ok_bad g ?_ (fun x L1 M1 => ?_)
    · have e0 : fn_187 2 i1 (nI l) (nI m) i4 w = fn_187_25 cm_N 2 i1 (nI l) (nI m) i4 (-1) (-1) 0 w := by
        simp (disch := omega) only [fn_187, fn_187_16, claw, bmon, eq_self, Nat.le_refl, Nat.lt_irrefl, some_if, Option.bind_some, Option.bind_none, Option.some.injEq, ↓reduceIte, reduceCtorEq, Bool.false_eq_true, Bool.true_eq_false, not_true_eq_false, not_false_eq_true, cmb0, cmb1, Nat.reduceAdd, Nat.reduceMul, Nat.reduceSub, Nat.add_zero, Bool.not_eq_true, Bool.not_eq_false, Nat.reduceEqDiff, Nat.reduceLeDiff, Nat.reduceLT, Int32.reduceLT, Int32.reduceLE, iin_nI, iin_lit, iin_m1, tn_nI, tn_lit, nI_lm, nI_ml, nI_al, nI_la, nI_add, pk_mul, nI_le_l, nI_l_le, nI_lt_l, nI_l_lt, nI_eq_l, nI_l_eq, nI_eqP, nI_leP, nI_ltP, nI_m1, m1_nI, nI_ll, m1_l, l_m1]
      rw [e0]
      refine up_0 (fun n k (_ : Unit) => fn_187_25 n 2 i1 (nI l) (nI m) i4 (-1) (-1) (nI k) w) (nT s) (fun _ _ => True) (fun o => o = some (-1, w)) () (by omega) trivial (fun n k a hk _ => Or.inr ⟨(), trivial, ?_⟩) (fun n a _ => ?_)
      · have hk' : ¬ nT s ≤ k := by omega
        have mm1 : (-1 : Int32) ≤ -1 := by decide
        simp (disch := omega) only [fn_187_25, fn_187_90, ↓LCb L, ↓LVb L hv, LC L, LV L hv, V.1, hT.1, hk', c8p L hv V I.1 h, mm1, eq_self, Nat.le_refl, Nat.lt_irrefl, some_if, Option.bind_some, Option.bind_none, Option.some.injEq, ↓reduceIte, reduceCtorEq, Bool.false_eq_true, Bool.true_eq_false, not_true_eq_false, not_false_eq_true, cmb0, cmb1, Nat.reduceAdd, Nat.reduceMul, Nat.reduceSub, Nat.add_zero, Bool.not_eq_true, Bool.not_eq_false, Nat.reduceEqDiff, Nat.reduceLeDiff, Nat.reduceLT, Int32.reduceLT, Int32.reduceLE, iin_nI, iin_lit, iin_m1, tn_nI, tn_lit, nI_lm, nI_ml, nI_al, nI_la, nI_add, pk_mul, nI_le_l, nI_l_le, nI_lt_l, nI_l_lt, nI_eq_l, nI_l_eq, nI_eqP, nI_leP, nI_ltP, nI_m1, m1_nI, nI_ll, m1_l, l_m1]
      · by_cases a0 : i4 = 0 <;> by_cases a1 : i4 = 1 <;> simp (disch := omega) only [fn_187_25, fn_187_96, fn_187_106, ↓LCb L, ↓LVb L hv, LC L, LV L hv, V.1, hT.1, a0, a1, eq_self, Nat.le_refl, Nat.lt_irrefl, some_if, Option.bind_some, Option.bind_none, Option.some.injEq, ↓reduceIte, reduceCtorEq, Bool.false_eq_true, Bool.true_eq_false, not_true_eq_false, not_false_eq_true, cmb0, cmb1, Nat.reduceAdd, Nat.reduceMul, Nat.reduceSub, Nat.add_zero, Bool.not_eq_true, Bool.not_eq_false, Nat.reduceEqDiff, Nat.reduceLeDiff, Nat.reduceLT, Int32.reduceLT, Int32.reduceLE, iin_nI, iin_lit, iin_m1, tn_nI, tn_lit, nI_lm, nI_ml, nI_al, nI_la, nI_add, pk_mul, nI_le_l, nI_l_le, nI_lt_l, nI_l_lt, nI_eq_l, nI_l_eq, nI_eqP, nI_leP, nI_ltP, nI_m1, m1_nI, nI_ll, m1_l, l_m1]
    · simp (disch := omega) only [fn_292, LM L1, mWho L1 M1 I.1, h, eq_self, Nat.le_refl, Nat.lt_irrefl, some_if, Option.bind_some, Option.bind_none, Option.some.injEq, ↓reduceIte, reduceCtorEq, Bool.false_eq_true, Bool.true_eq_false, not_true_eq_false, not_false_eq_true, cmb0, cmb1, Nat.reduceAdd, Nat.reduceMul, Nat.reduceSub, Nat.add_zero, Bool.not_eq_true, Bool.not_eq_false, Nat.reduceEqDiff, Nat.reduceLeDiff, Nat.reduceLT, Int32.reduceLT, Int32.reduceLE, iin_nI, iin_lit, iin_m1, tn_nI, tn_lit, nI_lm, nI_ml, nI_al, nI_la, nI_add, pk_mul, nI_le_l, nI_l_le, nI_lt_l, nI_l_lt, nI_eq_l, nI_l_eq, nI_eqP, nI_leP, nI_ltP, nI_m1, m1_nI, nI_ll, m1_l, l_m1]
  have fb := fun k => flv_lt (s := s) (l := l) (p := p) (m := m) k
  have cl : ∃ y, fn_187 2 (nI p) (nI l) (nI m) i4 w = fn_187_96 i4 (enc (flt s l p m (nT s))) (if flt s l p m (nT s) = 0 then -1 else nI (flv s l p m (flt s l p m (nT s) - 1))) y ∧ FC v c w y := by
    have e0 : fn_187 2 (nI p) (nI l) (nI m) i4 w = fn_187_25 cm_N 2 (nI p) (nI l) (nI m) i4 (-1) (-1) 0 w := by
      simp (disch := omega) only [fn_187, fn_187_16, claw, bmon, eq_self, Nat.le_refl, Nat.lt_irrefl, some_if, Option.bind_some, Option.bind_none, Option.some.injEq, ↓reduceIte, reduceCtorEq, Bool.false_eq_true, Bool.true_eq_false, not_true_eq_false, not_false_eq_true, cmb0, cmb1, Nat.reduceAdd, Nat.reduceMul, Nat.reduceSub, Nat.add_zero, Bool.not_eq_true, Bool.not_eq_false, Nat.reduceEqDiff, Nat.reduceLeDiff, Nat.reduceLT, Int32.reduceLT, Int32.reduceLE, iin_nI, iin_lit, iin_m1, tn_nI, tn_lit, nI_lm, nI_ml, nI_al, nI_la, nI_add, pk_mul, nI_le_l, nI_l_le, nI_lt_l, nI_l_lt, nI_eq_l, nI_l_eq, nI_eqP, nI_leP, nI_ltP, nI_m1, m1_nI, nI_ll, m1_l, l_m1]
    rw [e0]
    refine up_0 (fun n k (a : (Int32 × Int32) × cm_W) => fn_187_25 n 2 (nI p) (nI l) (nI m) i4 a.1.1 a.1.2 (nI k) a.2) (nT s) (fun k a => FC v c w a.2 ∧ a.1 = (enc (flt s l p m k), if flt s l p m k = 0 then -1 else nI (flv s l p m (flt s l p m k - 1)))) (fun o => ∃ y, o = fn_187_96 i4 (enc (flt s l p m (nT s))) (if flt s l p m (nT s) = 0 then -1 else nI (flv s l p m (flt s l p m (nT s) - 1))) y ∧ FC v c w y) ((-1, -1), w) (by omega) ⟨FC.rf L, rfl⟩ (fun n k a hk ha => Or.inr ?_) (fun n a ha => ?_)
    · obtain ⟨a1, a⟩ := a
      obtain ⟨F, rfl⟩ := ha
      dsimp only at F ⊢
      have LL := F.1
      have VV := F.V V hv
      have hk' : ¬ nT s ≤ k := by omega
      obtain ⟨es, hs⟩ := sh_n I.1 hp hk
      have e8 := (c8 LL hv VV I.1 hp hk).trans (congrArg some es)
      have st : flt s l p m (k + 1) = if tn (s 107 (8 * p + k)) = 0 then flt s l p m k else if flt s l p m k = 0 then k + 1 else if flv s l p m k ≤ flv s l p m (flt s l p m k - 1) then flt s l p m k else k + 1 := rfl
      by_cases d0 : tn (s 107 (8 * p + k)) = 0
      · rw [if_pos d0] at st
        refine ⟨((enc (flt s l p m (k + 1)), if flt s l p m (k + 1) = 0 then -1 else nI (flv s l p m (flt s l p m (k + 1) - 1))), a), ⟨F, rfl⟩, ?_⟩
        rw [st]
        have ge : (-1 : Int32) ≤ if flt s l p m k = 0 then -1 else nI (flv s l p m (flt s l p m k - 1)) := by
          split
          · decide
          · have : ∀ k : Fin 1000, (-1 : Int32) ≤ nI k.1 := by decide +kernel
            exact this ⟨_, fb _⟩
        generalize (if flt s l p m k = 0 then (-1 : Int32) else nI (flv s l p m (flt s l p m k - 1))) = vv at *
        simp (disch := omega) only [fn_187_25, fn_187_90, ↓LCb LL, ↓LVb LL hv, LC LL, LV LL hv, VV.1, hT.1, hk', e8, d0, ge, eq_self, Nat.le_refl, Nat.lt_irrefl, some_if, Option.bind_some, Option.bind_none, Option.some.injEq, ↓reduceIte, reduceCtorEq, Bool.false_eq_true, Bool.true_eq_false, not_true_eq_false, not_false_eq_true, cmb0, cmb1, Nat.reduceAdd, Nat.reduceMul, Nat.reduceSub, Nat.add_zero, Bool.not_eq_true, Bool.not_eq_false, Nat.reduceEqDiff, Nat.reduceLeDiff, Nat.reduceLT, Int32.reduceLT, Int32.reduceLE, iin_nI, iin_lit, iin_m1, tn_nI, tn_lit, nI_lm, nI_ml, nI_al, nI_la, nI_add, pk_mul, nI_le_l, nI_l_le, nI_lt_l, nI_l_lt, nI_eq_l, nI_l_eq, nI_eqP, nI_leP, nI_ltP, nI_m1, m1_nI, nI_ll, m1_l, l_m1]
      · rw [if_neg d0] at st
        obtain ⟨y, y1, F2⟩ := c53 (p := p) LL hv VV I.1 hl hm hk
        have fk := fb k
        refine ⟨((enc (flt s l p m (k + 1)), if flt s l p m (k + 1) = 0 then -1 else nI (flv s l p m (flt s l p m (k + 1) - 1))), y), ⟨F.tr F2, rfl⟩, ?_⟩
        by_cases z : flt s l p m k = 0
        · rw [if_pos z] at st
          have nl : ¬ nI (flv s l p m k) ≤ -1 := by
            have : ∀ k : Fin 1000, ¬ nI k.1 ≤ (-1 : Int32) := by decide +kernel
            exact this ⟨_, fk⟩
          rw [st, if_pos z, if_neg (Nat.succ_ne_zero k), enc_s, Nat.add_sub_cancel]
          simp (disch := omega) only [fn_187_25, fn_187_57, fn_187_90, ↓LCb LL, ↓LVb LL hv, LC LL, LV LL hv, VV.1, hT.1, hk', e8, d0, y1, nl, eq_self, Nat.le_refl, Nat.lt_irrefl, some_if, Option.bind_some, Option.bind_none, Option.some.injEq, ↓reduceIte, reduceCtorEq, Bool.false_eq_true, Bool.true_eq_false, not_true_eq_false, not_false_eq_true, cmb0, cmb1, Nat.reduceAdd, Nat.reduceMul, Nat.reduceSub, Nat.add_zero, Bool.not_eq_true, Bool.not_eq_false, Nat.reduceEqDiff, Nat.reduceLeDiff, Nat.reduceLT, Int32.reduceLT, Int32.reduceLE, iin_nI, iin_lit, iin_m1, tn_nI, tn_lit, nI_lm, nI_ml, nI_al, nI_la, nI_add, pk_mul, nI_le_l, nI_l_le, nI_lt_l, nI_l_lt, nI_eq_l, nI_l_eq, nI_eqP, nI_leP, nI_ltP, nI_m1, m1_nI, nI_ll, m1_l, l_m1]
        · rw [if_neg z] at st
          have fk2 := fb (flt s l p m k - 1)
          by_cases z4 : flv s l p m k ≤ flv s l p m (flt s l p m k - 1)
          · rw [if_pos z4] at st
            rw [st, if_neg z]
            simp (disch := omega) only [fn_187_25, fn_187_57, fn_187_90, ↓LCb LL, ↓LVb LL hv, LC LL, LV LL hv, VV.1, hT.1, hk', e8, d0, y1, z4, eq_self, Nat.le_refl, Nat.lt_irrefl, some_if, Option.bind_some, Option.bind_none, Option.some.injEq, ↓reduceIte, reduceCtorEq, Bool.false_eq_true, Bool.true_eq_false, not_true_eq_false, not_false_eq_true, cmb0, cmb1, Nat.reduceAdd, Nat.reduceMul, Nat.reduceSub, Nat.add_zero, Bool.not_eq_true, Bool.not_eq_false, Nat.reduceEqDiff, Nat.reduceLeDiff, Nat.reduceLT, Int32.reduceLT, Int32.reduceLE, iin_nI, iin_lit, iin_m1, tn_nI, tn_lit, nI_lm, nI_ml, nI_al, nI_la, nI_add, pk_mul, nI_le_l, nI_l_le, nI_lt_l, nI_l_lt, nI_eq_l, nI_l_eq, nI_eqP, nI_leP, nI_ltP, nI_m1, m1_nI, nI_ll, m1_l, l_m1]
          · rw [if_neg z4] at st
            rw [st, if_neg z, if_neg (Nat.succ_ne_zero k), enc_s, Nat.add_sub_cancel]
            simp (disch := omega) only [fn_187_25, fn_187_57, fn_187_90, ↓LCb LL, ↓LVb LL hv, LC LL, LV LL hv, VV.1, hT.1, hk', e8, d0, y1, z4, eq_self, Nat.le_refl, Nat.lt_irrefl, some_if, Option.bind_some, Option.bind_none, Option.some.injEq, ↓reduceIte, reduceCtorEq, Bool.false_eq_true, Bool.true_eq_false, not_true_eq_false, not_false_eq_true, cmb0, cmb1, Nat.reduceAdd, Nat.reduceMul, Nat.reduceSub, Nat.add_zero, Bool.not_eq_true, Bool.not_eq_false, Nat.reduceEqDiff, Nat.reduceLeDiff, Nat.reduceLT, Int32.reduceLT, Int32.reduceLE, iin_nI, iin_lit, iin_m1, tn_nI, tn_lit, nI_lm, nI_ml, nI_al, nI_la, nI_add, pk_mul, nI_le_l, nI_l_le, nI_lt_l, nI_l_lt, nI_eq_l, nI_l_eq, nI_eqP, nI_leP, nI_ltP, nI_m1, m1_nI, nI_ll, m1_l, l_m1]
    · obtain ⟨a1, a⟩ := a
      obtain ⟨F, rfl⟩ := ha
      dsimp only at F ⊢
      have VV := F.V V hv
      refine ⟨a, ?_, F⟩
      generalize (if flt s l p m (nT s) = 0 then (-1 : Int32) else nI (flv s l p m (flt s l p m (nT s) - 1))) = vv
      simp (disch := omega) only [fn_187_25, ↓LCb F.1, ↓LVb F.1 hv, LC F.1, LV F.1 hv, VV.1, hT.1, eq_self, Nat.le_refl, Nat.lt_irrefl, some_if, Option.bind_some, Option.bind_none, Option.some.injEq, ↓reduceIte, reduceCtorEq, Bool.false_eq_true, Bool.true_eq_false, not_true_eq_false, not_false_eq_true, cmb0, cmb1, Nat.reduceAdd, Nat.reduceMul, Nat.reduceSub, Nat.add_zero, Bool.not_eq_true, Bool.not_eq_false, Nat.reduceEqDiff, Nat.reduceLeDiff, Nat.reduceLT, Int32.reduceLT, Int32.reduceLE, iin_nI, iin_lit, iin_m1, tn_nI, tn_lit, nI_lm, nI_ml, nI_al, nI_la, nI_add, pk_mul, nI_le_l, nI_l_le, nI_lt_l, nI_l_lt, nI_eq_l, nI_l_eq, nI_eqP, nI_leP, nI_ltP, nI_m1, m1_nI, nI_ll, m1_l, l_m1]
  have mf : ∀ x, Lay v c x → RelM x s → cm_iin i4 2 = true → ∃ y, fn_292 96 (nI p) (nI l) (nI m) i4 x = fn_292_144 i4 (enc (flt s l p m (nT s))) (if flt s l p m (nT s) = 0 then 0 else nI (flv s l p m (flt s l p m (nT s) - 1))) y ∧ FM v c x y s := by
    intro x L1 M1 h4
    have e0 : fn_292 96 (nI p) (nI l) (nI m) i4 x = fn_292_43 cm_N 96 (nI p) (nI l) (nI m) i4 (-1) 0 0 x := by
      simp (disch := omega) only [fn_292, fn_292_34, LM L1, mWho L1 M1 I.1, mlaw, mmon (a := 0) _ L1, e01, h4, eq_self, Nat.le_refl, Nat.lt_irrefl, some_if, Option.bind_some, Option.bind_none, Option.some.injEq, ↓reduceIte, reduceCtorEq, Bool.false_eq_true, Bool.true_eq_false, not_true_eq_false, not_false_eq_true, cmb0, cmb1, Nat.reduceAdd, Nat.reduceMul, Nat.reduceSub, Nat.add_zero, Bool.not_eq_true, Bool.not_eq_false, Nat.reduceEqDiff, Nat.reduceLeDiff, Nat.reduceLT, Int32.reduceLT, Int32.reduceLE, iin_nI, iin_lit, iin_m1, tn_nI, tn_lit, nI_lm, nI_ml, nI_al, nI_la, nI_add, pk_mul, nI_le_l, nI_l_le, nI_lt_l, nI_l_lt, nI_eq_l, nI_l_eq, nI_eqP, nI_leP, nI_ltP, nI_m1, m1_nI, nI_ll, m1_l, l_m1]
    rw [e0]
    refine up_0 (fun n k (a : (Int32 × Int32) × cm_W) => fn_292_43 n 96 (nI p) (nI l) (nI m) i4 a.1.1 a.1.2 (nI k) a.2) (nT s) (fun k a => FM v c x a.2 s ∧ a.1 = (enc (flt s l p m k), if flt s l p m k = 0 then 0 else nI (flv s l p m (flt s l p m k - 1)))) (fun o => ∃ y, o = fn_292_144 i4 (enc (flt s l p m (nT s))) (if flt s l p m (nT s) = 0 then 0 else nI (flv s l p m (flt s l p m (nT s) - 1))) y ∧ FM v c x y s) ((-1, 0), x) (by omega) ⟨FM.rf L1 M1, rfl⟩ (fun n k a hk ha => Or.inr ?_) (fun n a ha => ?_)
    · obtain ⟨a1, a⟩ := a
      obtain ⟨F, rfl⟩ := ha
      dsimp only at F ⊢
      have LL := F.1
      have MM := F.2.1
      have hk' : ¬ nT s ≤ k := by omega
      obtain ⟨es, hs⟩ := sh_n I.1 hp hk
      have e8 := (m228 LL MM (p := p) (t := k) (by omega) (by omega)).trans (congrArg some es)
      have st : flt s l p m (k + 1) = if tn (s 107 (8 * p + k)) = 0 then flt s l p m k else if flt s l p m k = 0 then k + 1 else if flv s l p m k ≤ flv s l p m (flt s l p m k - 1) then flt s l p m k else k + 1 := rfl
      by_cases d0 : tn (s 107 (8 * p + k)) = 0
      · rw [if_pos d0] at st
        refine ⟨((enc (flt s l p m (k + 1)), if flt s l p m (k + 1) = 0 then 0 else nI (flv s l p m (flt s l p m (k + 1) - 1))), a), ⟨F, rfl⟩, ?_⟩
        rw [st]
        generalize (if flt s l p m k = 0 then (0 : Int32) else nI (flv s l p m (flt s l p m k - 1))) = vv at *
        simp (disch := omega) only [fn_292_43, fn_292_138, ↓LMb LL, LM LL, RM MM, hT.1, hk', e8, d0, eq_self, Nat.le_refl, Nat.lt_irrefl, some_if, Option.bind_some, Option.bind_none, Option.some.injEq, ↓reduceIte, reduceCtorEq, Bool.false_eq_true, Bool.true_eq_false, not_true_eq_false, not_false_eq_true, cmb0, cmb1, Nat.reduceAdd, Nat.reduceMul, Nat.reduceSub, Nat.add_zero, Bool.not_eq_true, Bool.not_eq_false, Nat.reduceEqDiff, Nat.reduceLeDiff, Nat.reduceLT, Int32.reduceLT, Int32.reduceLE, iin_nI, iin_lit, iin_m1, tn_nI, tn_lit, nI_lm, nI_ml, nI_al, nI_la, nI_add, pk_mul, nI_le_l, nI_l_le, nI_lt_l, nI_l_lt, nI_eq_l, nI_l_eq, nI_eqP, nI_leP, nI_ltP, nI_m1, m1_nI, nI_ll, m1_l, l_m1]
      · rw [if_neg d0] at st
        have hl' : l < 2 ∨ l < 4 ∧ ∃ t0, t0 < nT s ∧ nI k = nI t0 := Or.inr ⟨hl, k, hk, rfl⟩
        have O := mkt_ok I.1 (l := l) (m := m) (i := nI p) (j := nI k) hm
        obtain ⟨z1, b1, G1, -, -, b2⟩ := m269 LL MM I.1 (i := nI p) hl'
        obtain ⟨z2, d1, G2, -, d4⟩ := m272 G1.1 G1.2.1 I.1 (D := dmp s l (nI p) (nI k) (nP s)) b2 O hm
        rw [← mkt_mm] at d1 d4
        have G := (F.tr G1).tr G2
        have fk := fb k
        have fk2 := fb (flt s l p m k - 1)
        have kl := flt_le (s := s) (l := l) (p := p) (m := m) k
        have m1 := enc_m1 (T := flt s l p m k) (by omega)
        refine ⟨((enc (flt s l p m (k + 1)), if flt s l p m (k + 1) = 0 then 0 else nI (flv s l p m (flt s l p m (k + 1) - 1))), z2), ⟨G, rfl⟩, ?_⟩
        -- with the value in hand
        have v111 : flv s l p m k = 0 → fn_292_111 (fn_292_43 n) 96 (nI p) (nI l) (nI m) i4 (enc (flt s l p m k)) (if flt s l p m k = 0 then 0 else nI (flv s l p m (flt s l p m k - 1))) (nI k) z2 = fn_292_43 n 96 (nI p) (nI l) (nI m) i4 (enc (flt s l p m (k + 1))) (if flt s l p m (k + 1) = 0 then 0 else nI (flv s l p m (flt s l p m (k + 1) - 1))) (nI (k + 1)) z2 := by
          intro f0
          by_cases z : flt s l p m k = 0
          · rw [if_pos z] at st
            rw [st, if_pos z, if_neg (Nat.succ_ne_zero k), enc_s, Nat.add_sub_cancel, f0, z, enc_0]
            simp (disch := omega) only [fn_292_111, fn_292_130, fn_292_138, eq_self, Nat.le_refl, Nat.lt_irrefl, some_if, Option.bind_some, Option.bind_none, Option.some.injEq, ↓reduceIte, reduceCtorEq, Bool.false_eq_true, Bool.true_eq_false, not_true_eq_false, not_false_eq_true, cmb0, cmb1, Nat.reduceAdd, Nat.reduceMul, Nat.reduceSub, Nat.add_zero, Bool.not_eq_true, Bool.not_eq_false, Nat.reduceEqDiff, Nat.reduceLeDiff, Nat.reduceLT, Int32.reduceLT, Int32.reduceLE, iin_nI, iin_lit, iin_m1, tn_nI, tn_lit, nI_lm, nI_ml, nI_al, nI_la, nI_add, pk_mul, nI_le_l, nI_l_le, nI_lt_l, nI_l_lt, nI_eq_l, nI_l_eq, nI_eqP, nI_leP, nI_ltP, nI_m1, m1_nI, nI_ll, m1_l, l_m1]
            rfl
          · rw [if_neg z, if_pos (show flv s l p m k ≤ flv s l p m (flt s l p m k - 1) by omega)] at st
            rw [st, if_neg z]
            have nl : ¬ nI (flv s l p m (flt s l p m k - 1)) < 0 := nI_pos (by omega)
            simp (disch := omega) only [fn_292_111, fn_292_130, fn_292_138, m1, z, nl, eq_self, Nat.le_refl, Nat.lt_irrefl, some_if, Option.bind_some, Option.bind_none, Option.some.injEq, ↓reduceIte, reduceCtorEq, Bool.false_eq_true, Bool.true_eq_false, not_true_eq_false, not_false_eq_true, cmb0, cmb1, Nat.reduceAdd, Nat.reduceMul, Nat.reduceSub, Nat.add_zero, Bool.not_eq_true, Bool.not_eq_false, Nat.reduceEqDiff, Nat.reduceLeDiff, Nat.reduceLT, Int32.reduceLT, Int32.reduceLE, iin_nI, iin_lit, iin_m1, tn_nI, tn_lit, nI_lm, nI_ml, nI_al, nI_la, nI_add, pk_mul, nI_le_l, nI_l_le, nI_lt_l, nI_l_lt, nI_eq_l, nI_l_eq, nI_eqP, nI_leP, nI_ltP, nI_m1, m1_nI, nI_ll, m1_l, l_m1]
        have e65 : fn_292_43 (n + 1) 96 (nI p) (nI l) (nI m) i4 (enc (flt s l p m k)) (if flt s l p m k = 0 then 0 else nI (flv s l p m (flt s l p m k - 1))) (nI k) a = fn_292_65 (fn_292_43 n) 96 (nI p) (nI l) (nI m) i4 (enc (flt s l p m k)) (if flt s l p m k = 0 then 0 else nI (flv s l p m (flt s l p m k - 1))) (nI k) a := by
          generalize (if flt s l p m k = 0 then (0 : Int32) else nI (flv s l p m (flt s l p m k - 1))) = vv
          simp (disch := omega) only [fn_292_43, ↓LMb LL, LM LL, RM MM, hT.1, hk', e8, d0, eq_self, Nat.le_refl, Nat.lt_irrefl, some_if, Option.bind_some, Option.bind_none, Option.some.injEq, ↓reduceIte, reduceCtorEq, Bool.false_eq_true, Bool.true_eq_false, not_true_eq_false, not_false_eq_true, cmb0, cmb1, Nat.reduceAdd, Nat.reduceMul, Nat.reduceSub, Nat.add_zero, Bool.not_eq_true, Bool.not_eq_false, Nat.reduceEqDiff, Nat.reduceLeDiff, Nat.reduceLT, Int32.reduceLT, Int32.reduceLE, iin_nI, iin_lit, iin_m1, tn_nI, tn_lit, nI_lm, nI_ml, nI_al, nI_la, nI_add, pk_mul, nI_le_l, nI_l_le, nI_lt_l, nI_l_lt, nI_eq_l, nI_l_eq, nI_eqP, nI_leP, nI_ltP, nI_m1, m1_nI, nI_ll, m1_l, l_m1]
        show fn_292_43 (n + 1) 96 (nI p) (nI l) (nI m) i4 (enc (flt s l p m k)) (if flt s l p m k = 0 then 0 else nI (flv s l p m (flt s l p m k - 1))) (nI k) a = _
        rw [e65]
        have rl : (mkt s l (nI p) (nI k) m).rest ≤ 1000 := (mkt s l (nI p) (nI k) m).scan_le 1000
        by_cases zr : (mkt s l (nI p) (nI k) m).rest = 0
        · have r1 : rp (mkt s l (nI p) (nI k) m) = -1 := if_pos zr
          have f0 : flv s l p m k = 0 := if_neg (fun h => h.1 zr)
          rw [r1] at d1
          have v := v111 f0
          generalize (if flt s l p m k = 0 then (0 : Int32) else nI (flv s l p m (flt s l p m k - 1))) = vv at *
          simp (disch := omega) only [fn_292_65, LM LL, b1, LM G1.1, d1, v, eq_self, Nat.le_refl, Nat.lt_irrefl, some_if, Option.bind_some, Option.bind_none, Option.some.injEq, ↓reduceIte, reduceCtorEq, Bool.false_eq_true, Bool.true_eq_false, not_true_eq_false, not_false_eq_true, cmb0, cmb1, Nat.reduceAdd, Nat.reduceMul, Nat.reduceSub, Nat.add_zero, Bool.not_eq_true, Bool.not_eq_false, Nat.reduceEqDiff, Nat.reduceLeDiff, Nat.reduceLT, Int32.reduceLT, Int32.reduceLE, iin_nI, iin_lit, iin_m1, tn_nI, tn_lit, nI_lm, nI_ml, nI_al, nI_la, nI_add, pk_mul, nI_le_l, nI_l_le, nI_lt_l, nI_l_lt, nI_eq_l, nI_l_eq, nI_eqP, nI_leP, nI_ltP, nI_m1, m1_nI, nI_ll, m1_l, l_m1]
        · have r1 : rp (mkt s l (nI p) (nI k) m) = nI ((mkt s l (nI p) (nI k) m).rest - 1) := if_neg zr
          rw [r1] at d1
          have e6 := m196s z2 (mkt s l (nI p) (nI k) m) O (k := k) hk
          rw [← d4] at e6
          by_cases zs : (mkt s l (nI p) (nI k) m).rest ≠ 0 ∧ (mkt s l (nI p) (nI k) m).sold ((mkt s l (nI p) (nI k) m).rest - 1) k = true
          · rw [decide_eq_true zs] at e6
            have fv : flv s l p m k = (mkt s l (nI p) (nI k) m).rest - 1 - kn s m k := if_pos zs
            have le : kn s m k ≤ (mkt s l (nI p) (nI k) m).rest - 1 := (of_decide_eq_true zs.2).2
            have sb : nI ((mkt s l (nI p) (nI k) m).rest - 1) - nI (kn s m k) = nI (flv s l p m k) := by rw [pk_sub le, fv]
            have e3 := (m223 G.1 G.2.1 (t := k) (by omega) (nI m)).trans (congrArg some (ko_n I.1 hk hm))
            have n1 : ¬ nI ((mkt s l (nI p) (nI k) m).rest - 1) = -1 := by rw [nI_m1 (by omega)]; exact id
            generalize nI ((mkt s l (nI p) (nI k) m).rest - 1) = rr at *
            by_cases z : flt s l p m k = 0
            · rw [if_pos z] at st
              rw [st, if_pos z, if_neg (Nat.succ_ne_zero k), enc_s, Nat.add_sub_cancel, z, enc_0]
              simp (disch := omega) only [fn_292_65, fn_292_130, fn_292_138, LM LL, b1, LM G1.1, d1, n1, LM G.1, e6, e3, sb, eq_self, Nat.le_refl, Nat.lt_irrefl, some_if, Option.bind_some, Option.bind_none, Option.some.injEq, ↓reduceIte, reduceCtorEq, Bool.false_eq_true, Bool.true_eq_false, not_true_eq_false, not_false_eq_true, cmb0, cmb1, Nat.reduceAdd, Nat.reduceMul, Nat.reduceSub, Nat.add_zero, Bool.not_eq_true, Bool.not_eq_false, Nat.reduceEqDiff, Nat.reduceLeDiff, Nat.reduceLT, Int32.reduceLT, Int32.reduceLE, iin_nI, iin_lit, iin_m1, tn_nI, tn_lit, nI_lm, nI_ml, nI_al, nI_la, nI_add, pk_mul, nI_le_l, nI_l_le, nI_lt_l, nI_l_lt, nI_eq_l, nI_l_eq, nI_eqP, nI_leP, nI_ltP, nI_m1, m1_nI, nI_ll, m1_l, l_m1]
            · rw [if_neg z] at st
              by_cases z4 : flv s l p m k ≤ flv s l p m (flt s l p m k - 1)
              · have z5 : ¬ flv s l p m (flt s l p m k - 1) < flv s l p m k := by omega
                rw [if_pos z4] at st
                rw [st, if_neg z]
                simp (disch := omega) only [fn_292_65, fn_292_130, fn_292_138, LM LL, b1, LM G1.1, d1, n1, LM G.1, e6, e3, sb, m1, z, z5, eq_self, Nat.le_refl, Nat.lt_irrefl, some_if, Option.bind_some, Option.bind_none, Option.some.injEq, ↓reduceIte, reduceCtorEq, Bool.false_eq_true, Bool.true_eq_false, not_true_eq_false, not_false_eq_true, cmb0, cmb1, Nat.reduceAdd, Nat.reduceMul, Nat.reduceSub, Nat.add_zero, Bool.not_eq_true, Bool.not_eq_false, Nat.reduceEqDiff, Nat.reduceLeDiff, Nat.reduceLT, Int32.reduceLT, Int32.reduceLE, iin_nI, iin_lit, iin_m1, tn_nI, tn_lit, nI_lm, nI_ml, nI_al, nI_la, nI_add, pk_mul, nI_le_l, nI_l_le, nI_lt_l, nI_l_lt, nI_eq_l, nI_l_eq, nI_eqP, nI_leP, nI_ltP, nI_m1, m1_nI, nI_ll, m1_l, l_m1]
              · have z5 : flv s l p m (flt s l p m k - 1) < flv s l p m k := by omega
                rw [if_neg z4] at st
                rw [st, if_neg z, if_neg (Nat.succ_ne_zero k), enc_s, Nat.add_sub_cancel]
                simp (disch := omega) only [fn_292_65, fn_292_130, fn_292_138, LM LL, b1, LM G1.1, d1, n1, LM G.1, e6, e3, sb, m1, z, z5, eq_self, Nat.le_refl, Nat.lt_irrefl, some_if, Option.bind_some, Option.bind_none, Option.some.injEq, ↓reduceIte, reduceCtorEq, Bool.false_eq_true, Bool.true_eq_false, not_true_eq_false, not_false_eq_true, cmb0, cmb1, Nat.reduceAdd, Nat.reduceMul, Nat.reduceSub, Nat.add_zero, Bool.not_eq_true, Bool.not_eq_false, Nat.reduceEqDiff, Nat.reduceLeDiff, Nat.reduceLT, Int32.reduceLT, Int32.reduceLE, iin_nI, iin_lit, iin_m1, tn_nI, tn_lit, nI_lm, nI_ml, nI_al, nI_la, nI_add, pk_mul, nI_le_l, nI_l_le, nI_lt_l, nI_l_lt, nI_eq_l, nI_l_eq, nI_eqP, nI_leP, nI_ltP, nI_m1, m1_nI, nI_ll, m1_l, l_m1]
          · rw [decide_eq_false zs] at e6
            have f0 : flv s l p m k = 0 := if_neg zs
            have v := v111 f0
            have n1 : ¬ nI ((mkt s l (nI p) (nI k) m).rest - 1) = -1 := by rw [nI_m1 (by omega)]; exact id
            generalize nI ((mkt s l (nI p) (nI k) m).rest - 1) = rr at *
            generalize (if flt s l p m k = 0 then (0 : Int32) else nI (flv s l p m (flt s l p m k - 1))) = vv at *
            simp (disch := omega) only [fn_292_65, LM LL, b1, LM G1.1, d1, n1, LM G.1, e6, v, eq_self, Nat.le_refl, Nat.lt_irrefl, some_if, Option.bind_some, Option.bind_none, Option.some.injEq, ↓reduceIte, reduceCtorEq, Bool.false_eq_true, Bool.true_eq_false, not_true_eq_false, not_false_eq_true, cmb0, cmb1, Nat.reduceAdd, Nat.reduceMul, Nat.reduceSub, Nat.add_zero, Bool.not_eq_true, Bool.not_eq_false, Nat.reduceEqDiff, Nat.reduceLeDiff, Nat.reduceLT, Int32.reduceLT, Int32.reduceLE, iin_nI, iin_lit, iin_m1, tn_nI, tn_lit, nI_lm, nI_ml, nI_al, nI_la, nI_add, pk_mul, nI_le_l, nI_l_le, nI_lt_l, nI_l_lt, nI_eq_l, nI_l_eq, nI_eqP, nI_leP, nI_ltP, nI_m1, m1_nI, nI_ll, m1_l, l_m1]
    · obtain ⟨a1, a⟩ := a
      obtain ⟨F, rfl⟩ := ha
      dsimp only at F ⊢
      refine ⟨a, ?_, F⟩
      generalize (if flt s l p m (nT s) = 0 then (0 : Int32) else nI (flv s l p m (flt s l p m (nT s) - 1))) = vv
      simp (disch := omega) only [fn_292_43, ↓LMb F.1, LM F.1, RM F.2.1, hT.1, eq_self, Nat.le_refl, Nat.lt_irrefl, some_if, Option.bind_some, Option.bind_none, Option.some.injEq, ↓reduceIte, reduceCtorEq, Bool.false_eq_true, Bool.true_eq_false, not_true_eq_false, not_false_eq_true, cmb0, cmb1, Nat.reduceAdd, Nat.reduceMul, Nat.reduceSub, Nat.add_zero, Bool.not_eq_true, Bool.not_eq_false, Nat.reduceEqDiff, Nat.reduceLeDiff, Nat.reduceLT, Int32.reduceLT, Int32.reduceLE, iin_nI, iin_lit, iin_m1, tn_nI, tn_lit, nI_lm, nI_ml, nI_al, nI_la, nI_add, pk_mul, nI_le_l, nI_l_le, nI_lt_l, nI_l_lt, nI_eq_l, nI_l_eq, nI_eqP, nI_leP, nI_ltP, nI_m1, m1_nI, nI_ll, m1_l, l_m1]
  obtain ⟨y, y1, F⟩ := cl
  have tl := flt_le (s := s) (l := l) (p := p) (m := m) (nT s)
  have m1 := enc_m1 (T := flt s l p m (nT s)) (by omega)
  by_cases i0 : i4 = 0
  · subst i0
    refine ok_ro (c' := c) (r := enc (flt s l p m (nT s))) g ⟨y, ?_, F⟩ (fun x L1 M1 _ => ?_)
    · rw [y1]
      simp (disch := omega) only [fn_187_96, eq_self, Nat.le_refl, Nat.lt_irrefl, some_if, Option.bind_some, Option.bind_none, Option.some.injEq, ↓reduceIte, reduceCtorEq, Bool.false_eq_true, Bool.true_eq_false, not_true_eq_false, not_false_eq_true, cmb0, cmb1, Nat.reduceAdd, Nat.reduceMul, Nat.reduceSub, Nat.add_zero, Bool.not_eq_true, Bool.not_eq_false, Nat.reduceEqDiff, Nat.reduceLeDiff, Nat.reduceLT, Int32.reduceLT, Int32.reduceLE, iin_nI, iin_lit, iin_m1, tn_nI, tn_lit, nI_lm, nI_ml, nI_al, nI_la, nI_add, pk_mul, nI_le_l, nI_l_le, nI_lt_l, nI_l_lt, nI_eq_l, nI_l_eq, nI_eqP, nI_leP, nI_ltP, nI_m1, m1_nI, nI_ll, m1_l, l_m1]
    · obtain ⟨z, e, G⟩ := mf x L1 M1 (by decide +kernel)
      refine ⟨z, ?_, G⟩
      rw [e]
      by_cases q : flt s l p m (nT s) = 0
      · rw [q, enc_0]
        simp (disch := omega) only [fn_292_144, eq_self, Nat.le_refl, Nat.lt_irrefl, some_if, Option.bind_some, Option.bind_none, Option.some.injEq, ↓reduceIte, reduceCtorEq, Bool.false_eq_true, Bool.true_eq_false, not_true_eq_false, not_false_eq_true, cmb0, cmb1, Nat.reduceAdd, Nat.reduceMul, Nat.reduceSub, Nat.add_zero, Bool.not_eq_true, Bool.not_eq_false, Nat.reduceEqDiff, Nat.reduceLeDiff, Nat.reduceLT, Int32.reduceLT, Int32.reduceLE, iin_nI, iin_lit, iin_m1, tn_nI, tn_lit, nI_lm, nI_ml, nI_al, nI_la, nI_add, pk_mul, nI_le_l, nI_l_le, nI_lt_l, nI_l_lt, nI_eq_l, nI_l_eq, nI_eqP, nI_leP, nI_ltP, nI_m1, m1_nI, nI_ll, m1_l, l_m1]
      · simp (disch := omega) only [fn_292_144, m1, q, eq_self, Nat.le_refl, Nat.lt_irrefl, some_if, Option.bind_some, Option.bind_none, Option.some.injEq, ↓reduceIte, reduceCtorEq, Bool.false_eq_true, Bool.true_eq_false, not_true_eq_false, not_false_eq_true, cmb0, cmb1, Nat.reduceAdd, Nat.reduceMul, Nat.reduceSub, Nat.add_zero, Bool.not_eq_true, Bool.not_eq_false, Nat.reduceEqDiff, Nat.reduceLeDiff, Nat.reduceLT, Int32.reduceLT, Int32.reduceLE, iin_nI, iin_lit, iin_m1, tn_nI, tn_lit, nI_lm, nI_ml, nI_al, nI_la, nI_add, pk_mul, nI_le_l, nI_l_le, nI_lt_l, nI_l_lt, nI_eq_l, nI_l_eq, nI_eqP, nI_leP, nI_ltP, nI_m1, m1_nI, nI_ll, m1_l, l_m1]
  by_cases i1 : i4 = 1
  · subst i1
    refine ok_ro (c' := c) (r := if flt s l p m (nT s) = 0 then -1 else nI (flv s l p m (flt s l p m (nT s) - 1))) g ⟨y, ?_, F⟩ (fun x L1 M1 _ => ?_)
    · rw [y1]
      simp (disch := omega) only [fn_187_96, fn_187_106, eq_self, Nat.le_refl, Nat.lt_irrefl, some_if, Option.bind_some, Option.bind_none, Option.some.injEq, ↓reduceIte, reduceCtorEq, Bool.false_eq_true, Bool.true_eq_false, not_true_eq_false, not_false_eq_true, cmb0, cmb1, Nat.reduceAdd, Nat.reduceMul, Nat.reduceSub, Nat.add_zero, Bool.not_eq_true, Bool.not_eq_false, Nat.reduceEqDiff, Nat.reduceLeDiff, Nat.reduceLT, Int32.reduceLT, Int32.reduceLE, iin_nI, iin_lit, iin_m1, tn_nI, tn_lit, nI_lm, nI_ml, nI_al, nI_la, nI_add, pk_mul, nI_le_l, nI_l_le, nI_lt_l, nI_l_lt, nI_eq_l, nI_l_eq, nI_eqP, nI_leP, nI_ltP, nI_m1, m1_nI, nI_ll, m1_l, l_m1]
    · obtain ⟨z, e, G⟩ := mf x L1 M1 (by decide +kernel)
      refine ⟨z, ?_, G⟩
      rw [e]
      by_cases q : flt s l p m (nT s) = 0
      · rw [q, enc_0]
        simp (disch := omega) only [fn_292_144, eq_self, Nat.le_refl, Nat.lt_irrefl, some_if, Option.bind_some, Option.bind_none, Option.some.injEq, ↓reduceIte, reduceCtorEq, Bool.false_eq_true, Bool.true_eq_false, not_true_eq_false, not_false_eq_true, cmb0, cmb1, Nat.reduceAdd, Nat.reduceMul, Nat.reduceSub, Nat.add_zero, Bool.not_eq_true, Bool.not_eq_false, Nat.reduceEqDiff, Nat.reduceLeDiff, Nat.reduceLT, Int32.reduceLT, Int32.reduceLE, iin_nI, iin_lit, iin_m1, tn_nI, tn_lit, nI_lm, nI_ml, nI_al, nI_la, nI_add, pk_mul, nI_le_l, nI_l_le, nI_lt_l, nI_l_lt, nI_eq_l, nI_l_eq, nI_eqP, nI_leP, nI_ltP, nI_m1, m1_nI, nI_ll, m1_l, l_m1]
      · simp (disch := omega) only [fn_292_144, m1, q, eq_self, Nat.le_refl, Nat.lt_irrefl, some_if, Option.bind_some, Option.bind_none, Option.some.injEq, ↓reduceIte, reduceCtorEq, Bool.false_eq_true, Bool.true_eq_false, not_true_eq_false, not_false_eq_true, cmb0, cmb1, Nat.reduceAdd, Nat.reduceMul, Nat.reduceSub, Nat.add_zero, Bool.not_eq_true, Bool.not_eq_false, Nat.reduceEqDiff, Nat.reduceLeDiff, Nat.reduceLT, Int32.reduceLT, Int32.reduceLE, iin_nI, iin_lit, iin_m1, tn_nI, tn_lit, nI_lm, nI_ml, nI_al, nI_la, nI_add, pk_mul, nI_le_l, nI_l_le, nI_lt_l, nI_l_lt, nI_eq_l, nI_l_eq, nI_eqP, nI_leP, nI_ltP, nI_m1, m1_nI, nI_ll, m1_l, l_m1]
  have h2 : cm_iin i4 2 = false := by
    rcases iin_cs i4 (n := 2) (by omega) with h | ⟨a, ha, e⟩
    · exact h
    · rcases (show a = 0 ∨ a = 1 by omega) with rfl | rfl
      · exact absurd e i0
      · exact absurd e i1
  refine ok_ro (c' := c) (r := -1) g ⟨y, ?_, F⟩ (fun x L1 M1 _ => ⟨x, ?_, FM.rf L1 M1⟩)
  · rw [y1]
    simp (disch := omega) only [fn_187_96, fn_187_106, i0, i1, eq_self, Nat.le_refl, Nat.lt_irrefl, some_if, Option.bind_some, Option.bind_none, Option.some.injEq, ↓reduceIte, reduceCtorEq, Bool.false_eq_true, Bool.true_eq_false, not_true_eq_false, not_false_eq_true, cmb0, cmb1, Nat.reduceAdd, Nat.reduceMul, Nat.reduceSub, Nat.add_zero, Bool.not_eq_true, Bool.not_eq_false, Nat.reduceEqDiff, Nat.reduceLeDiff, Nat.reduceLT, Int32.reduceLT, Int32.reduceLE, iin_nI, iin_lit, iin_m1, tn_nI, tn_lit, nI_lm, nI_ml, nI_al, nI_la, nI_add, pk_mul, nI_le_l, nI_l_le, nI_lt_l, nI_l_lt, nI_eq_l, nI_l_eq, nI_eqP, nI_leP, nI_ltP, nI_m1, m1_nI, nI_ll, m1_l, l_m1]
  · simp (disch := omega) only [fn_292, LM L1, mWho L1 M1 I.1, mlaw, mmon (a := 0) _ L1, e01, h2, eq_self, Nat.le_refl, Nat.lt_irrefl, some_if, Option.bind_some, Option.bind_none, Option.some.injEq, ↓reduceIte, reduceCtorEq, Bool.false_eq_true, Bool.true_eq_false, not_true_eq_false, not_false_eq_true, cmb0, cmb1, Nat.reduceAdd, Nat.reduceMul, Nat.reduceSub, Nat.add_zero, Bool.not_eq_true, Bool.not_eq_false, Nat.reduceEqDiff, Nat.reduceLeDiff, Nat.reduceLT, Int32.reduceLT, Int32.reduceLE, iin_nI, iin_lit, iin_m1, tn_nI, tn_lit, nI_lm, nI_ml, nI_al, nI_la, nI_add, pk_mul, nI_le_l, nI_l_le, nI_lt_l, nI_l_lt, nI_eq_l, nI_l_eq, nI_eqP, nI_leP, nI_ltP, nI_m1, m1_nI, nI_ll, m1_l, l_m1]
end FILL2
