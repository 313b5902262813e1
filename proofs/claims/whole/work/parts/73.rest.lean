/-! rest -/
section REST
variable {v c u n m : Nat} {w w' : cm_W} {s s' : St} {D : Nat → Nat}
theorem ok_bad {X Mf : cm_W → Option (Int32 × cm_W)} (g : GG v c w s) (h1 : X w = some (-1, w)) (h2 : ∀ x, Lay v c x → RelM x s → Mf x = some (-1, x)) : OKW X Mf w := ok_ro (r := -1) g ⟨w, h1, FC.rf g.1⟩ (fun x L1 M1 _ => ⟨x, h2 x L1 M1, FM.rf L1 M1⟩)
theorem c_mkt (L : Lay v c w) (hv : v = 10 ∨ v = 20) (V : VilC w v s) (I : InvV s) {l : Nat} {i j : Int32} (hl : l < 2 ∨ l < 4 ∧ ∃ t0, t0 < nT s ∧ j = nI t0) (hm : m < 6) : ∃ y1 y, fn_32 51 v (nI m) w = some y1 ∧ FC v c w y1 ∧ fn_36 51 v (nI l) i j y1 = some y ∧ FC v c w y ∧ MkC y (mkt s l i j m) := by
  obtain ⟨y1, a1, F1, h1⟩ := c32 L hv V I hm
  obtain ⟨y2, a2, F2, i2, h2⟩ := c36 F1.1 hv (F1.V V hv) I (i := i) (j := j) hl
  refine ⟨y1, y2, a1, F1, a2, F1.tr F2, fun t ht => h2 t ht, fun t ht => ?_⟩
  rw [i2]
  exact h1 t ht
theorem rp_m1 (M : Mk) : (rp M = -1) = (M.rest = 0) := by
  have := M.scan_le 1000
  unfold rp
  by_cases z : M.rest = 0
  · rw [if_pos z]; exact propext ⟨fun _ => z, fun _ => rfl⟩
  · rw [if_neg z, nI_m1 (by unfold Mk.rest; omega)]
    exact propext ⟨False.elim, z⟩
theorem w_rest (g : GG v c w s) (i1 i2 i3 i4 i5 : Int32) : OKW (fn_173 2 i1 i2 i3 i4 i5) (fn_273 96 i1 i2 i3 i4 i5) w := by
  obtain ⟨L, M, C, Z, I⟩ := id g
  have hv := L.1
  have V := C.2.1
  have S := C.2.2.1
  have hT := I.1.1
  have hP := I.1.2.1
  have e1 : ∀ x, fn_194 x i5 (0 : Int32) (1 : Int32) = some (cm_iin i5 2) := fun x => isIn_lit x i5 1 (by decide)
  have mW := fun x L1 M1 => mWho (v := v) (c := c) (w := x) (s := s) L1 M1 I.1
  have mT := fun x L1 M1 => mThing (v := v) (c := c) (w := x) (s := s) L1 M1 I.1
  rcases iin_cs i1 (n := 4) (by omega) with h | ⟨l, hl, rfl⟩
  · refine ok_bad g ?_ (fun x L1 M1 => ?_)
    · simp (disch := omega) only [fn_173, claw, h, eq_self, Nat.le_refl, Nat.lt_irrefl, some_if, Option.bind_some, Option.bind_none, Option.some.injEq, ↓reduceIte, reduceCtorEq, Bool.false_eq_true, Bool.true_eq_false, not_true_eq_false, not_false_eq_true, cmb0, cmb1, Nat.reduceAdd, Nat.reduceMul, Nat.reduceSub, Nat.add_zero, Bool.not_eq_true, Bool.not_eq_false, Nat.reduceEqDiff, Nat.reduceLeDiff, Nat.reduceLT, Int32.reduceLT, Int32.reduceLE, iin_nI, iin_lit, iin_m1, tn_nI, tn_lit, nI_lm, nI_ml, nI_al, nI_la, nI_add, pk_mul, nI_le_l, nI_l_le, nI_lt_l, nI_l_lt, nI_eq_l, nI_l_eq, nI_eqP, nI_leP, nI_ltP, nI_m1, m1_nI, nI_ll, m1_l, l_m1]
    · simp (disch := omega) only [fn_273, mlaw, h, eq_self, Nat.le_refl, Nat.lt_irrefl, some_if, Option.bind_some, Option.bind_none, Option.some.injEq, ↓reduceIte, reduceCtorEq, Bool.false_eq_true, Bool.true_eq_false, not_true_eq_false, not_false_eq_true, cmb0, cmb1, Nat.reduceAdd, Nat.reduceMul, Nat.reduceSub, Nat.add_zero, Bool.not_eq_true, Bool.not_eq_false, Nat.reduceEqDiff, Nat.reduceLeDiff, Nat.reduceLT, Int32.reduceLT, Int32.reduceLE, iin_nI, iin_lit, iin_m1, tn_nI, tn_lit, nI_lm, nI_ml, nI_al, nI_la, nI_add, pk_mul, nI_le_l, nI_l_le, nI_lt_l, nI_l_lt, nI_eq_l, nI_l_eq, nI_eqP, nI_leP, nI_ltP, nI_m1, m1_nI, nI_ll, m1_l, l_m1]
  rcases iin_cs i4 (n := 6) (by omega) with h | ⟨m, hm, rfl⟩
  · refine ok_bad g ?_ (fun x L1 M1 => ?_)
    · simp (disch := omega) only [fn_173, claw, bmon, h, eq_self, Nat.le_refl, Nat.lt_irrefl, some_if, Option.bind_some, Option.bind_none, Option.some.injEq, ↓reduceIte, reduceCtorEq, Bool.false_eq_true, Bool.true_eq_false, not_true_eq_false, not_false_eq_true, cmb0, cmb1, Nat.reduceAdd, Nat.reduceMul, Nat.reduceSub, Nat.add_zero, Bool.not_eq_true, Bool.not_eq_false, Nat.reduceEqDiff, Nat.reduceLeDiff, Nat.reduceLT, Int32.reduceLT, Int32.reduceLE, iin_nI, iin_lit, iin_m1, tn_nI, tn_lit, nI_lm, nI_ml, nI_al, nI_la, nI_add, pk_mul, nI_le_l, nI_l_le, nI_lt_l, nI_l_lt, nI_eq_l, nI_l_eq, nI_eqP, nI_leP, nI_ltP, nI_m1, m1_nI, nI_ll, m1_l, l_m1]
    · cases h2 : cm_iin i2 (nP s) <;> cases h3 : cm_iin i3 (nT s) <;> simp (disch := omega) only [fn_273, mlaw, mW x L1 M1, mT x L1 M1, mmon (a := 0) _ L1, LM L1, h, h2, h3, eq_self, Nat.le_refl, Nat.lt_irrefl, some_if, Option.bind_some, Option.bind_none, Option.some.injEq, ↓reduceIte, reduceCtorEq, Bool.false_eq_true, Bool.true_eq_false, not_true_eq_false, not_false_eq_true, cmb0, cmb1, Nat.reduceAdd, Nat.reduceMul, Nat.reduceSub, Nat.add_zero, Bool.not_eq_true, Bool.not_eq_false, Nat.reduceEqDiff, Nat.reduceLeDiff, Nat.reduceLT, Int32.reduceLT, Int32.reduceLE, iin_nI, iin_lit, iin_m1, tn_nI, tn_lit, nI_lm, nI_ml, nI_al, nI_la, nI_add, pk_mul, nI_le_l, nI_l_le, nI_lt_l, nI_l_lt, nI_eq_l, nI_l_eq, nI_eqP, nI_leP, nI_ltP, nI_m1, m1_nI, nI_ll, m1_l, l_m1]
  rcases iin_cs i2 (n := nP s) (by omega) with h | ⟨p, hp, rfl⟩
  · refine ok_bad g ?_ (fun x L1 M1 => ?_)
    · simp (disch := omega) only [fn_173, claw, bmon, h, ↓LCb L, LC L, LV L hv, c8p L hv V I.1 h, eq_self, Nat.le_refl, Nat.lt_irrefl, some_if, Option.bind_some, Option.bind_none, Option.some.injEq, ↓reduceIte, reduceCtorEq, Bool.false_eq_true, Bool.true_eq_false, not_true_eq_false, not_false_eq_true, cmb0, cmb1, Nat.reduceAdd, Nat.reduceMul, Nat.reduceSub, Nat.add_zero, Bool.not_eq_true, Bool.not_eq_false, Nat.reduceEqDiff, Nat.reduceLeDiff, Nat.reduceLT, Int32.reduceLT, Int32.reduceLE, iin_nI, iin_lit, iin_m1, tn_nI, tn_lit, nI_lm, nI_ml, nI_al, nI_la, nI_add, pk_mul, nI_le_l, nI_l_le, nI_lt_l, nI_l_lt, nI_eq_l, nI_l_eq, nI_eqP, nI_leP, nI_ltP, nI_m1, m1_nI, nI_ll, m1_l, l_m1]
    · simp (disch := omega) only [fn_273, mlaw, mW x L1 M1, LM L1, h, eq_self, Nat.le_refl, Nat.lt_irrefl, some_if, Option.bind_some, Option.bind_none, Option.some.injEq, ↓reduceIte, reduceCtorEq, Bool.false_eq_true, Bool.true_eq_false, not_true_eq_false, not_false_eq_true, cmb0, cmb1, Nat.reduceAdd, Nat.reduceMul, Nat.reduceSub, Nat.add_zero, Bool.not_eq_true, Bool.not_eq_false, Nat.reduceEqDiff, Nat.reduceLeDiff, Nat.reduceLT, Int32.reduceLT, Int32.reduceLE, iin_nI, iin_lit, iin_m1, tn_nI, tn_lit, nI_lm, nI_ml, nI_al, nI_la, nI_add, pk_mul, nI_le_l, nI_l_le, nI_lt_l, nI_l_lt, nI_eq_l, nI_l_eq, nI_eqP, nI_leP, nI_ltP, nI_m1, m1_nI, nI_ll, m1_l, l_m1]
  rcases iin_cs i3 (n := nT s) (by omega) with h | ⟨t, ht, rfl⟩
  · refine ok_bad g ?_ (fun x L1 M1 => ?_)
    · simp (disch := omega) only [fn_173, claw, bmon, h, ↓LCb L, LC L, LV L hv, c8t L hv V I.1 h, eq_self, Nat.le_refl, Nat.lt_irrefl, some_if, Option.bind_some, Option.bind_none, Option.some.injEq, ↓reduceIte, reduceCtorEq, Bool.false_eq_true, Bool.true_eq_false, not_true_eq_false, not_false_eq_true, cmb0, cmb1, Nat.reduceAdd, Nat.reduceMul, Nat.reduceSub, Nat.add_zero, Bool.not_eq_true, Bool.not_eq_false, Nat.reduceEqDiff, Nat.reduceLeDiff, Nat.reduceLT, Int32.reduceLT, Int32.reduceLE, iin_nI, iin_lit, iin_m1, tn_nI, tn_lit, nI_lm, nI_ml, nI_al, nI_la, nI_add, pk_mul, nI_le_l, nI_l_le, nI_lt_l, nI_l_lt, nI_eq_l, nI_l_eq, nI_eqP, nI_leP, nI_ltP, nI_m1, m1_nI, nI_ll, m1_l, l_m1]
    · simp (disch := omega) only [fn_273, mlaw, mW x L1 M1, mT x L1 M1, LM L1, h, eq_self, Nat.le_refl, Nat.lt_irrefl, some_if, Option.bind_some, Option.bind_none, Option.some.injEq, ↓reduceIte, reduceCtorEq, Bool.false_eq_true, Bool.true_eq_false, not_true_eq_false, not_false_eq_true, cmb0, cmb1, Nat.reduceAdd, Nat.reduceMul, Nat.reduceSub, Nat.add_zero, Bool.not_eq_true, Bool.not_eq_false, Nat.reduceEqDiff, Nat.reduceLeDiff, Nat.reduceLT, Int32.reduceLT, Int32.reduceLE, iin_nI, iin_lit, iin_m1, tn_nI, tn_lit, nI_lm, nI_ml, nI_al, nI_la, nI_add, pk_mul, nI_le_l, nI_l_le, nI_lt_l, nI_l_lt, nI_eq_l, nI_l_eq, nI_eqP, nI_leP, nI_ltP, nI_m1, m1_nI, nI_ll, m1_l, l_m1]
  obtain ⟨es, hs⟩ := sh_n I.1 hp ht
  have e8 := (c8 L hv V I.1 hp ht).trans (congrArg some es)
  have m8 := fun x (L1 : Lay v c x) M1 => (m228 (s := s) L1 M1 (p := p) (t := t) (by omega) (by omega)).trans (congrArg some es)
  by_cases z : tn (s 107 (8 * p + t)) = 0
  · refine ok_bad g ?_ (fun x L1 M1 => ?_)
    · simp (disch := omega) only [fn_173, claw, bmon, ↓LCb L, LC L, LV L hv, e8, z, eq_self, Nat.le_refl, Nat.lt_irrefl, some_if, Option.bind_some, Option.bind_none, Option.some.injEq, ↓reduceIte, reduceCtorEq, Bool.false_eq_true, Bool.true_eq_false, not_true_eq_false, not_false_eq_true, cmb0, cmb1, Nat.reduceAdd, Nat.reduceMul, Nat.reduceSub, Nat.add_zero, Bool.not_eq_true, Bool.not_eq_false, Nat.reduceEqDiff, Nat.reduceLeDiff, Nat.reduceLT, Int32.reduceLT, Int32.reduceLE, iin_nI, iin_lit, iin_m1, tn_nI, tn_lit, nI_lm, nI_ml, nI_al, nI_la, nI_add, pk_mul, nI_le_l, nI_l_le, nI_lt_l, nI_l_lt, nI_eq_l, nI_l_eq, nI_eqP, nI_leP, nI_ltP, nI_m1, m1_nI, nI_ll, m1_l, l_m1]
    · cases h5 : cm_iin i5 2 <;> simp (disch := omega) only [fn_273, mlaw, mW x L1 M1, mT x L1 M1, mmon (a := 0) _ L1, LM L1, e1, m8 x L1 M1, z, h5, eq_self, Nat.le_refl, Nat.lt_irrefl, some_if, Option.bind_some, Option.bind_none, Option.some.injEq, ↓reduceIte, reduceCtorEq, Bool.false_eq_true, Bool.true_eq_false, not_true_eq_false, not_false_eq_true, cmb0, cmb1, Nat.reduceAdd, Nat.reduceMul, Nat.reduceSub, Nat.add_zero, Bool.not_eq_true, Bool.not_eq_false, Nat.reduceEqDiff, Nat.reduceLeDiff, Nat.reduceLT, Int32.reduceLT, Int32.reduceLE, iin_nI, iin_lit, iin_m1, tn_nI, tn_lit, nI_lm, nI_ml, nI_al, nI_la, nI_add, pk_mul, nI_le_l, nI_l_le, nI_lt_l, nI_l_lt, nI_eq_l, nI_l_eq, nI_eqP, nI_leP, nI_ltP, nI_m1, m1_nI, nI_ll, m1_l, l_m1]
  have hl' : l < 2 ∨ l < 4 ∧ ∃ t0, t0 < nT s ∧ nI t = nI t0 := Or.inr ⟨hl, t, ht, rfl⟩
  have O := mkt_ok I.1 (l := l) (m := m) (i := nI p) (j := nI t) hm
  obtain ⟨y1, y, a1, F1, a2, F, K⟩ := c_mkt L hv V I.1 (i := nI p) hl' hm
  have a3 := c40 F.1 K O
  have cc : fn_173 2 (nI l) (nI p) (nI t) (nI m) i5 w = if ¬ rp (mkt s l (nI p) (nI t) m) = -1 then fn_173_73 2 i5 (rp (mkt s l (nI p) (nI t) m)) y else some (-1, y) := by
    simp (disch := omega) only [fn_173, fn_173_29, claw, bmon, ↓LCb L, LC L, LV L hv, e8, z, a1, ↓LCb F1.1, LC F1.1, a2, ↓LCb F.1, LC F.1, a3, eq_self, Nat.le_refl, Nat.lt_irrefl, some_if, Option.bind_some, Option.bind_none, Option.some.injEq, ↓reduceIte, reduceCtorEq, Bool.false_eq_true, Bool.true_eq_false, not_true_eq_false, not_false_eq_true, cmb0, cmb1, Nat.reduceAdd, Nat.reduceMul, Nat.reduceSub, Nat.add_zero, Bool.not_eq_true, Bool.not_eq_false, Nat.reduceEqDiff, Nat.reduceLeDiff, Nat.reduceLT, Int32.reduceLT, Int32.reduceLE, iin_nI, iin_lit, iin_m1, tn_nI, tn_lit, nI_lm, nI_ml, nI_al, nI_la, nI_add, pk_mul, nI_le_l, nI_l_le, nI_lt_l, nI_l_lt, nI_eq_l, nI_l_eq, nI_eqP, nI_leP, nI_ltP, nI_m1, m1_nI, nI_ll, m1_l, l_m1]
  have rm : ∀ x, Lay v c x → RelM x s → ∃ y, fn_273_52 96 (nI l) (nI p) (nI t) (nI m) i5 x = (if rp (mkt s l (nI p) (nI t) m) = -1 then some (-1, y) else if ¬ i5 = 0 then some (smk (mkt s l (nI p) (nI t) m) (mkt s l (nI p) (nI t) m).rest, y) else some (rp (mkt s l (nI p) (nI t) m), y)) ∧ FM v c x y s := by
    intro x L1 M1
    obtain ⟨z1, b1, G1, -, -, b2⟩ := m269 L1 M1 I.1 (i := nI p) hl'
    obtain ⟨z2, b3, G2, -, b4⟩ := m272 G1.1 G1.2.1 I.1 (D := dmp s l (nI p) (nI t) (nP s)) b2 O hm
    rw [← mkt_mm] at b3 b4
    refine ⟨z2, ?_, G1.tr G2⟩
    by_cases q : rp (mkt s l (nI p) (nI t) m) = -1
    · simp (disch := omega) only [fn_273_52, LM L1, b1, LM G1.1, b3, q, eq_self, Nat.le_refl, Nat.lt_irrefl, some_if, Option.bind_some, Option.bind_none, Option.some.injEq, ↓reduceIte, reduceCtorEq, Bool.false_eq_true, Bool.true_eq_false, not_true_eq_false, not_false_eq_true, cmb0, cmb1, Nat.reduceAdd, Nat.reduceMul, Nat.reduceSub, Nat.add_zero, Bool.not_eq_true, Bool.not_eq_false, Nat.reduceEqDiff, Nat.reduceLeDiff, Nat.reduceLT, Int32.reduceLT, Int32.reduceLE, iin_nI, iin_lit, iin_m1, tn_nI, tn_lit, nI_lm, nI_ml, nI_al, nI_la, nI_add, pk_mul, nI_le_l, nI_l_le, nI_lt_l, nI_l_lt, nI_eq_l, nI_l_eq, nI_eqP, nI_leP, nI_ltP, nI_m1, m1_nI, nI_ll, m1_l, l_m1]
    · by_cases q5 : i5 = 0 <;> simp (disch := omega) only [fn_273_52, fn_273_83, LM L1, b1, LM G1.1, LM G2.1, b3, b4, q, q5, eq_self, Nat.le_refl, Nat.lt_irrefl, some_if, Option.bind_some, Option.bind_none, Option.some.injEq, ↓reduceIte, reduceCtorEq, Bool.false_eq_true, Bool.true_eq_false, not_true_eq_false, not_false_eq_true, cmb0, cmb1, Nat.reduceAdd, Nat.reduceMul, Nat.reduceSub, Nat.add_zero, Bool.not_eq_true, Bool.not_eq_false, Nat.reduceEqDiff, Nat.reduceLeDiff, Nat.reduceLT, Int32.reduceLT, Int32.reduceLE, iin_nI, iin_lit, iin_m1, tn_nI, tn_lit, nI_lm, nI_ml, nI_al, nI_la, nI_add, pk_mul, nI_le_l, nI_l_le, nI_lt_l, nI_l_lt, nI_eq_l, nI_l_eq, nI_eqP, nI_leP, nI_ltP, nI_m1, m1_nI, nI_ll, m1_l, l_m1]
  have mg : ∀ x, Lay v c x → RelM x s → fn_273 96 (nI l) (nI p) (nI t) (nI m) i5 x = if cm_iin i5 2 = true then fn_273_52 96 (nI l) (nI p) (nI t) (nI m) i5 x else some (-1, x) := fun x L1 M1 => by
    cases h5 : cm_iin i5 2 <;> simp (disch := omega) only [fn_273, mlaw, mW x L1 M1, mT x L1 M1, mmon (a := 0) _ L1, LM L1, e1, m8 x L1 M1, z, h5, eq_self, Nat.le_refl, Nat.lt_irrefl, some_if, Option.bind_some, Option.bind_none, Option.some.injEq, ↓reduceIte, reduceCtorEq, Bool.false_eq_true, Bool.true_eq_false, not_true_eq_false, not_false_eq_true, cmb0, cmb1, Nat.reduceAdd, Nat.reduceMul, Nat.reduceSub, Nat.add_zero, Bool.not_eq_true, Bool.not_eq_false, Nat.reduceEqDiff, Nat.reduceLeDiff, Nat.reduceLT, Int32.reduceLT, Int32.reduceLE, iin_nI, iin_lit, iin_m1, tn_nI, tn_lit, nI_lm, nI_ml, nI_al, nI_la, nI_add, pk_mul, nI_le_l, nI_l_le, nI_lt_l, nI_l_lt, nI_eq_l, nI_l_eq, nI_eqP, nI_leP, nI_ltP, nI_m1, m1_nI, nI_ll, m1_l, l_m1]
  by_cases r0 : rp (mkt s l (nI p) (nI t) m) = -1
  · refine ok_ro (r := -1) g ⟨y, ?_, F⟩ (fun x L1 M1 _ => ?_)
    · rw [cc, if_neg (fun h => h r0)]
    · obtain ⟨z1, b1, b2⟩ := rm x L1 M1
      rw [mg x L1 M1]
      rw [if_pos r0] at b1
      by_cases h5 : cm_iin i5 2 = true
      · exact ⟨z1, by rw [if_pos h5, b1], b2⟩
      · exact ⟨x, by rw [if_neg h5], FM.rf L1 M1⟩
  have r1 : (mkt s l (nI p) (nI t) m).rest ≠ 0 := fun h => r0 ((rp_m1 _).mpr h)
  by_cases i0 : i5 = 0
  · subst i0
    refine ok_ro (r := rp (mkt s l (nI p) (nI t) m)) g ⟨y, ?_, F⟩ (fun x L1 M1 _ => ?_)
    · rw [cc, if_pos r0]
      simp (disch := omega) only [fn_173_73, eq_self, Nat.le_refl, Nat.lt_irrefl, some_if, Option.bind_some, Option.bind_none, Option.some.injEq, ↓reduceIte, reduceCtorEq, Bool.false_eq_true, Bool.true_eq_false, not_true_eq_false, not_false_eq_true, cmb0, cmb1, Nat.reduceAdd, Nat.reduceMul, Nat.reduceSub, Nat.add_zero, Bool.not_eq_true, Bool.not_eq_false, Nat.reduceEqDiff, Nat.reduceLeDiff, Nat.reduceLT, Int32.reduceLT, Int32.reduceLE, iin_nI, iin_lit, iin_m1, tn_nI, tn_lit, nI_lm, nI_ml, nI_al, nI_la, nI_add, pk_mul, nI_le_l, nI_l_le, nI_lt_l, nI_l_lt, nI_eq_l, nI_l_eq, nI_eqP, nI_leP, nI_ltP, nI_m1, m1_nI, nI_ll, m1_l, l_m1]
    · obtain ⟨z1, b1, b2⟩ := rm x L1 M1
      rw [if_neg r0, if_neg (fun h => h rfl)] at b1
      exact ⟨z1, by rw [mg x L1 M1, if_pos (by decide +kernel), b1], b2⟩
  by_cases i1 : i5 = 1
  · subst i1
    refine ok_ro (r := smk (mkt s l (nI p) (nI t) m) (mkt s l (nI p) (nI t) m).rest) g ⟨y, ?_, F⟩ (fun x L1 M1 _ => ?_)
    · rw [cc, if_pos r0]
      have rl := (mkt s l (nI p) (nI t) m).scan_le 1000
      have e41 := c41 F.1 K O (q := (mkt s l (nI p) (nI t) m).rest - 1) (by unfold Mk.rest at r1 ⊢; omega)
      unfold rp smk
      rw [if_neg r1, if_neg r1]
      simp (disch := omega) only [fn_173_73, fn_173_83, ↓LCb F.1, LC F.1, e41, eq_self, Nat.le_refl, Nat.lt_irrefl, some_if, Option.bind_some, Option.bind_none, Option.some.injEq, ↓reduceIte, reduceCtorEq, Bool.false_eq_true, Bool.true_eq_false, not_true_eq_false, not_false_eq_true, cmb0, cmb1, Nat.reduceAdd, Nat.reduceMul, Nat.reduceSub, Nat.add_zero, Bool.not_eq_true, Bool.not_eq_false, Nat.reduceEqDiff, Nat.reduceLeDiff, Nat.reduceLT, Int32.reduceLT, Int32.reduceLE, iin_nI, iin_lit, iin_m1, tn_nI, tn_lit, nI_lm, nI_ml, nI_al, nI_la, nI_add, pk_mul, nI_le_l, nI_l_le, nI_lt_l, nI_l_lt, nI_eq_l, nI_l_eq, nI_eqP, nI_leP, nI_ltP, nI_m1, m1_nI, nI_ll, m1_l, l_m1]
    · obtain ⟨z1, b1, b2⟩ := rm x L1 M1
      rw [if_neg r0, if_pos (by decide +kernel)] at b1
      exact ⟨z1, by rw [mg x L1 M1, if_pos (by decide +kernel), b1], b2⟩
  · have h2 : ¬ cm_iin i5 2 = true := by
      rcases iin_cs i5 (n := 2) (by omega) with h | ⟨a, ha, e⟩
      · rw [h]; decide
      · rcases (show a = 0 ∨ a = 1 by omega) with rfl | rfl
        · exact absurd e i0
        · exact absurd e i1
    refine ok_ro (r := -1) g ⟨y, ?_, F⟩ (fun x L1 M1 _ => ⟨x, ?_, FM.rf L1 M1⟩)
    · rw [cc, if_pos r0]
      simp (disch := omega) only [fn_173_73, fn_173_83, i0, i1, eq_self, Nat.le_refl, Nat.lt_irrefl, some_if, Option.bind_some, Option.bind_none, Option.some.injEq, ↓reduceIte, reduceCtorEq, Bool.false_eq_true, Bool.true_eq_false, not_true_eq_false, not_false_eq_true, cmb0, cmb1, Nat.reduceAdd, Nat.reduceMul, Nat.reduceSub, Nat.add_zero, Bool.not_eq_true, Bool.not_eq_false, Nat.reduceEqDiff, Nat.reduceLeDiff, Nat.reduceLT, Int32.reduceLT, Int32.reduceLE, iin_nI, iin_lit, iin_m1, tn_nI, tn_lit, nI_lm, nI_ml, nI_al, nI_la, nI_add, pk_mul, nI_le_l, nI_l_le, nI_lt_l, nI_l_lt, nI_eq_l, nI_l_eq, nI_eqP, nI_leP, nI_ltP, nI_m1, m1_nI, nI_ll, m1_l, l_m1]
    · rw [mg x L1 M1, if_neg h2]
end REST
