/-! name: the call -/
section NAME2
variable {v c u n m l p q d : Nat} {w w' : cm_W} {s s' : St} {M : Mk}
theorem c43 (L : Lay v c w) (hv : v = 10 ∨ v = 20) (V : VilC w v s) (I : InvV s) : ∃ y, fn_43 51 v 0 w = some (rp0 s 0, y) ∧ FC v c w y := by
  have O := mkt_ok I (l := 0) (m := 0) (i := -1) (j := -1) (by omega)
  obtain ⟨y1, y, a1, F1, a2, F, K⟩ := c_mkt L hv V I (l := 0) (m := 0) (i := -1) (j := -1) (Or.inl (by omega)) (by omega)
  have a1 : fn_32 51 v 0 w = some y1 := a1
  have a2 : fn_36 51 v 0 (-1) (-1) y1 = some y := a2
  have a3 := c40 F.1 K O
  refine ⟨y, ?_, F⟩
  unfold rp0
  simp (disch := omega) only [fn_43, LC L, a1, LC F1.1, a2, LC F.1, a3, eq_self, Nat.le_refl, Nat.lt_irrefl, some_if, Option.bind_some, Option.bind_none, Option.some.injEq, ↓reduceIte, reduceCtorEq, Bool.false_eq_true, Bool.true_eq_false, not_true_eq_false, not_false_eq_true, cmb0, cmb1, Nat.reduceAdd, Nat.reduceMul, Nat.reduceSub, Nat.add_zero, Bool.not_eq_true, Bool.not_eq_false, Nat.reduceEqDiff, Nat.reduceLeDiff, Nat.reduceLT, Int32.reduceLT, Int32.reduceLE, iin_nI, iin_lit, iin_m1, tn_nI, tn_lit, nI_lm, nI_ml, nI_al, nI_la, nI_add, pk_mul, nI_le_l, nI_l_le, nI_lt_l, nI_l_lt, nI_eq_l, nI_l_eq, nI_eqP, nI_leP, nI_ltP, nI_m1, m1_nI, nI_ll, m1_l, l_m1]
theorem rp0_n (I : InvV s) (hp : p < nP s) (h1 : 0 < nT s) : ∃ k, k < 1000 ∧ rp0 s 0 = nI k := by
  have hT := I.1
  obtain ⟨-, -, h3⟩ := I.2.2.2.2.2.1 p hp
  obtain ⟨t, ht, h4⟩ := h3 h1
  obtain ⟨e, h5⟩ := sh_n I hp ht
  obtain ⟨-, h6, h7⟩ := shs_n I hp
  have mp : 0 < mil s p t := by
    unfold mil
    have a1 : tn (s 107 (8 * p + t)) ≠ 0 := fun z => h4 (by rw [e, z]; rfl)
    exact Nat.div_pos (by omega) (h7 h1)
  have dp : 0 < (mkt s 0 (-1) (-1) 0).D t := by
    show 0 < if t < nT s then dm s 0 (-1) (-1) t else 0
    rw [if_pos ht]
    refine sgm_pos (nP s) p hp ?_
    show 0 < if tog s 0 (-1) (-1) p t = true then mil s p t else 0
    rw [if_pos (show tog s 0 (-1) (-1) p t = true from rfl)]
    exact mp
  have r := Mk.rest_pos (mkt_ok I (l := 0) (m := 0) (i := -1) (j := -1) (by omega)) (t := t) ht dp
  have rl := (mkt s 0 (-1) (-1) 0).scan_le 1000
  unfold rp0 rp
  refine ⟨_, ?_, if_neg (by omega)⟩
  unfold Mk.rest at r ⊢
  omega
theorem w_name (g : GG v c w s) (i1 i2 i3 : Int32) : OKW (fn_186 2 i1 i2 i3) (fn_291 96 i1 i2 i3) w := by
  obtain ⟨L, R, C, Z, I⟩ := id g
  have hv := L.1
  have V := C.2.1
  have hT := I.1.1
  have hP := I.1.2.1
  have e01 : ∀ x, fn_194 x i3 (0 : Int32) (1 : Int32) = some (cm_iin i3 2) := fun x => isIn_lit x i3 1 (by decide)
  have e09 : ∀ x, fn_194 x i2 (0 : Int32) (9 : Int32) = some (cm_iin i2 10) := fun x => isIn_lit x i2 9 (by decide)
  rcases iin_cs i1 (n := nP s) (by omega) with h | ⟨p, hp, rfl⟩
  · refine ok_bad g ?_ (fun x L1 M1 => ?_)
    · simp (disch := omega) only [fn_186, fn_177, ↓LCb L, LC L, LV L hv, c10o L hv V I.1 h, eq_self, Nat.le_refl, Nat.lt_irrefl, some_if, Option.bind_some, Option.bind_none, Option.some.injEq, ↓reduceIte, reduceCtorEq, Bool.false_eq_true, Bool.true_eq_false, not_true_eq_false, not_false_eq_true, cmb0, cmb1, Nat.reduceAdd, Nat.reduceMul, Nat.reduceSub, Nat.add_zero, Bool.not_eq_true, Bool.not_eq_false, Nat.reduceEqDiff, Nat.reduceLeDiff, Nat.reduceLT, Int32.reduceLT, Int32.reduceLE, iin_nI, iin_lit, iin_m1, tn_nI, tn_lit, nI_lm, nI_ml, nI_al, nI_la, nI_add, pk_mul, nI_le_l, nI_l_le, nI_lt_l, nI_l_lt, nI_eq_l, nI_l_eq, nI_eqP, nI_leP, nI_ltP, nI_m1, m1_nI, nI_ll, m1_l, l_m1]
    · simp (disch := omega) only [fn_291, LM L1, mWho L1 M1 I.1, h, eq_self, Nat.le_refl, Nat.lt_irrefl, some_if, Option.bind_some, Option.bind_none, Option.some.injEq, ↓reduceIte, reduceCtorEq, Bool.false_eq_true, Bool.true_eq_false, not_true_eq_false, not_false_eq_true, cmb0, cmb1, Nat.reduceAdd, Nat.reduceMul, Nat.reduceSub, Nat.add_zero, Bool.not_eq_true, Bool.not_eq_false, Nat.reduceEqDiff, Nat.reduceLeDiff, Nat.reduceLT, Int32.reduceLT, Int32.reduceLE, iin_nI, iin_lit, iin_m1, tn_nI, tn_lit, nI_lm, nI_ml, nI_al, nI_la, nI_add, pk_mul, nI_le_l, nI_l_le, nI_lt_l, nI_l_lt, nI_eq_l, nI_l_eq, nI_eqP, nI_leP, nI_ltP, nI_m1, m1_nI, nI_ll, m1_l, l_m1]
  obtain ⟨es, hs, hs2⟩ := shs_n I.1 hp
  have e10 := (c10 L hv V I.1 hp).trans (congrArg some es)
  by_cases t0 : nT s = 0
  · have z : tn (shs s p) = 0 := by
      rw [shs_sg (m := 0) I.1 hp]
      show sgm _ (nT s) = 0
      rw [t0]; rfl
    refine ok_bad g ?_ (fun x L1 M1 => ?_)
    · simp (disch := omega) only [fn_186, fn_177, ↓LCb L, LC L, LV L hv, e10, z, eq_self, Nat.le_refl, Nat.lt_irrefl, some_if, Option.bind_some, Option.bind_none, Option.some.injEq, ↓reduceIte, reduceCtorEq, Bool.false_eq_true, Bool.true_eq_false, not_true_eq_false, not_false_eq_true, cmb0, cmb1, Nat.reduceAdd, Nat.reduceMul, Nat.reduceSub, Nat.add_zero, Bool.not_eq_true, Bool.not_eq_false, Nat.reduceEqDiff, Nat.reduceLeDiff, Nat.reduceLT, Int32.reduceLT, Int32.reduceLE, iin_nI, iin_lit, iin_m1, tn_nI, tn_lit, nI_lm, nI_ml, nI_al, nI_la, nI_add, pk_mul, nI_le_l, nI_l_le, nI_lt_l, nI_l_lt, nI_eq_l, nI_l_eq, nI_eqP, nI_leP, nI_ltP, nI_m1, m1_nI, nI_ll, m1_l, l_m1]
    · cases h2 : cm_iin i2 10 <;> cases h3 : cm_iin i3 2 <;> simp (disch := omega) only [fn_291, LM L1, RM M1, hT.1, mWho L1 M1 I.1, e09, e01, h2, h3, t0, eq_self, Nat.le_refl, Nat.lt_irrefl, some_if, Option.bind_some, Option.bind_none, Option.some.injEq, ↓reduceIte, reduceCtorEq, Bool.false_eq_true, Bool.true_eq_false, not_true_eq_false, not_false_eq_true, cmb0, cmb1, Nat.reduceAdd, Nat.reduceMul, Nat.reduceSub, Nat.add_zero, Bool.not_eq_true, Bool.not_eq_false, Nat.reduceEqDiff, Nat.reduceLeDiff, Nat.reduceLT, Int32.reduceLT, Int32.reduceLE, iin_nI, iin_lit, iin_m1, tn_nI, tn_lit, nI_lm, nI_ml, nI_al, nI_la, nI_add, pk_mul, nI_le_l, nI_l_le, nI_lt_l, nI_l_lt, nI_eq_l, nI_l_eq, nI_eqP, nI_leP, nI_ltP, nI_m1, m1_nI, nI_ll, m1_l, l_m1]
  have hs2 := hs2 (by omega)
  have z : ¬ tn (shs s p) ≤ 0 := by omega
  rcases iin_cs i2 (n := 10) (by omega) with h | ⟨d, hd, rfl⟩
  · refine ok_bad g ?_ (fun x L1 M1 => ?_)
    · rcases iin_f h (by omega) with h' | h'
      · simp (disch := omega) only [fn_186, fn_177, ↓LCb L, LC L, LV L hv, e10, z, h', eq_self, Nat.le_refl, Nat.lt_irrefl, some_if, Option.bind_some, Option.bind_none, Option.some.injEq, ↓reduceIte, reduceCtorEq, Bool.false_eq_true, Bool.true_eq_false, not_true_eq_false, not_false_eq_true, cmb0, cmb1, Nat.reduceAdd, Nat.reduceMul, Nat.reduceSub, Nat.add_zero, Bool.not_eq_true, Bool.not_eq_false, Nat.reduceEqDiff, Nat.reduceLeDiff, Nat.reduceLT, Int32.reduceLT, Int32.reduceLE, iin_nI, iin_lit, iin_m1, tn_nI, tn_lit, nI_lm, nI_ml, nI_al, nI_la, nI_add, pk_mul, nI_le_l, nI_l_le, nI_lt_l, nI_l_lt, nI_eq_l, nI_l_eq, nI_eqP, nI_leP, nI_ltP, nI_m1, m1_nI, nI_ll, m1_l, l_m1]
      · have h2 : ¬ i2 ≤ 9 := fun h3 => by
          have h4 : nI 10 ≤ nI 9 := Int32.le_trans h' h3
          have h5 := (nI_leI (a := 10) (b := 9) (by omega) (by omega)).mp h4
          omega
        by_cases h3 : i2 < 0 <;> simp (disch := omega) only [fn_186, fn_177, ↓LCb L, LC L, LV L hv, e10, z, h2, h3, eq_self, Nat.le_refl, Nat.lt_irrefl, some_if, Option.bind_some, Option.bind_none, Option.some.injEq, ↓reduceIte, reduceCtorEq, Bool.false_eq_true, Bool.true_eq_false, not_true_eq_false, not_false_eq_true, cmb0, cmb1, Nat.reduceAdd, Nat.reduceMul, Nat.reduceSub, Nat.add_zero, Bool.not_eq_true, Bool.not_eq_false, Nat.reduceEqDiff, Nat.reduceLeDiff, Nat.reduceLT, Int32.reduceLT, Int32.reduceLE, iin_nI, iin_lit, iin_m1, tn_nI, tn_lit, nI_lm, nI_ml, nI_al, nI_la, nI_add, pk_mul, nI_le_l, nI_l_le, nI_lt_l, nI_l_lt, nI_eq_l, nI_l_eq, nI_eqP, nI_leP, nI_ltP, nI_m1, m1_nI, nI_ll, m1_l, l_m1]
    · simp (disch := omega) only [fn_291, LM L1, mWho L1 M1 I.1, e09, h, eq_self, Nat.le_refl, Nat.lt_irrefl, some_if, Option.bind_some, Option.bind_none, Option.some.injEq, ↓reduceIte, reduceCtorEq, Bool.false_eq_true, Bool.true_eq_false, not_true_eq_false, not_false_eq_true, cmb0, cmb1, Nat.reduceAdd, Nat.reduceMul, Nat.reduceSub, Nat.add_zero, Bool.not_eq_true, Bool.not_eq_false, Nat.reduceEqDiff, Nat.reduceLeDiff, Nat.reduceLT, Int32.reduceLT, Int32.reduceLE, iin_nI, iin_lit, iin_m1, tn_nI, tn_lit, nI_lm, nI_ml, nI_al, nI_la, nI_add, pk_mul, nI_le_l, nI_l_le, nI_lt_l, nI_l_lt, nI_eq_l, nI_l_eq, nI_eqP, nI_leP, nI_ltP, nI_m1, m1_nI, nI_ll, m1_l, l_m1]
  obtain ⟨a, ha, ea⟩ := rpo_n I.1 (m := 0) hp (by omega) (by omega)
  obtain ⟨b, hb, eb⟩ := rp0_n I.1 hp (by omega)
  obtain ⟨y1, c1, F1⟩ := c42 L hv V I.1 (m := 0) (by omega) (nI p)
  have c1 : fn_42 51 v (nI p) 0 w = some (rpo s (nI p) 0, y1) := c1
  obtain ⟨y2, c2, F2⟩ := c43 F1.1 hv (F1.V V hv) I.1
  rw [ea] at c1
  rw [eb] at c2
  have F := F1.tr F2
  have mx := mx_sub (a := a) (b := b) (by omega) (by omega)
  obtain ⟨G, G0, GL, Gc, Gm⟩ := gcd_ok (x := 10 * (a - b)) (y := 10 - d) (by omega) (by omega) (by omega)
  have sb : ∀ x : Int32, x = nI 10 → x - nI d = nI (10 - d) := fun x hx => by rw [hx]; exact pk_sub (by omega)
  have sb := sb 10 rfl
  have gz : ¬ G = 0 := by omega
  have cc : fn_186 2 (nI p) (nI d) i3 w = if ¬ i3 = 0 then fn_186_86 i3 (nI (10 - d)) (nI G) y2 else some (nI (10 * (a - b)) / nI G, y2) := by
    have d9 : d ≤ 9 := by omega
    have d0 : ¬ d < 0 := Nat.not_lt_zero d
    simp (disch := omega) only [fn_186, fn_186_20, fn_177, ↓LCb L, LC L, LV L hv, e10, z, d9, d0, c1, ↓LCb F1.1, LC F1.1, c2, mx, sb, Gc, gz, eq_self, Nat.le_refl, Nat.lt_irrefl, some_if, Option.bind_some, Option.bind_none, Option.some.injEq, ↓reduceIte, reduceCtorEq, Bool.false_eq_true, Bool.true_eq_false, not_true_eq_false, not_false_eq_true, cmb0, cmb1, Nat.reduceAdd, Nat.reduceMul, Nat.reduceSub, Nat.add_zero, Bool.not_eq_true, Bool.not_eq_false, Nat.reduceEqDiff, Nat.reduceLeDiff, Nat.reduceLT, Int32.reduceLT, Int32.reduceLE, iin_nI, iin_lit, iin_m1, tn_nI, tn_lit, nI_lm, nI_ml, nI_al, nI_la, nI_add, pk_mul, nI_le_l, nI_l_le, nI_lt_l, nI_l_lt, nI_eq_l, nI_l_eq, nI_eqP, nI_leP, nI_ltP, nI_m1, m1_nI, nI_ll, m1_l, l_m1]
  have mm : ∀ x, Lay v c x → RelM x s → ∃ y, FM v c x y s ∧ fn_291 96 (nI p) (nI d) i3 x = if cm_iin i3 2 = true then fn_291_105 i3 (nI (10 * (a - b))) (nI (10 - d)) (nI G) y else some (-1, x) := by
    intro x L1 M1
    obtain ⟨z1, b1, G1⟩ := m280 L1 M1 I.1 (m := 0) (by omega) (nI p)
    have b1 : fn_280 96 (nI p) 0 x = some (rpo s (nI p) 0, z1) := b1
    obtain ⟨z2, b2, G2, -, b3, b4⟩ := m269 G1.1 G1.2.1 I.1 (l := 0) (i := 0) (j := 0) (Or.inl (by omega))
    have b2 : fn_269 96 0 0 0 z1 = some z2 := b2
    obtain ⟨z3, d1, G3, -⟩ := m272 G2.1 G2.2.1 I.1 (D := dmp s 0 0 0 (nP s)) b4 (mkt_ok I.1 (l := 0) (m := 0) (i := 0) (j := 0) (by omega)) (by omega)
    have e9 : mkt s 0 0 0 0 = mkt s 0 (-1) (-1) 0 := mkt_cg fun p t => (show tog s 0 0 0 p t = true from if_pos rfl).trans (show tog s 0 (-1) (-1) p t = true from if_pos rfl).symm
    rw [← mkt_mm, e9] at d1
    have d1 : fn_272 96 0 z2 = some (rp0 s 0, z3) := d1
    rw [ea] at b1
    rw [eb] at d1
    have nT0 : ¬ nT s = 0 := t0
    refine ⟨z3, (G1.tr G2).tr G3, ?_⟩
    cases h3 : cm_iin i3 2
    · simp (disch := omega) only [fn_291, LM L1, mWho L1 M1 I.1, e09, e01, h3, eq_self, Nat.le_refl, Nat.lt_irrefl, some_if, Option.bind_some, Option.bind_none, Option.some.injEq, ↓reduceIte, reduceCtorEq, Bool.false_eq_true, Bool.true_eq_false, not_true_eq_false, not_false_eq_true, cmb0, cmb1, Nat.reduceAdd, Nat.reduceMul, Nat.reduceSub, Nat.add_zero, Bool.not_eq_true, Bool.not_eq_false, Nat.reduceEqDiff, Nat.reduceLeDiff, Nat.reduceLT, Int32.reduceLT, Int32.reduceLE, iin_nI, iin_lit, iin_m1, tn_nI, tn_lit, nI_lm, nI_ml, nI_al, nI_la, nI_add, pk_mul, nI_le_l, nI_l_le, nI_lt_l, nI_l_lt, nI_eq_l, nI_l_eq, nI_eqP, nI_leP, nI_ltP, nI_m1, m1_nI, nI_ll, m1_l, l_m1]
    · have e36 : fn_291_36 96 (nI p) (nI d) i3 x = fn_291_82 cm_N i3 (nI (10 * (a - b))) (nI (10 - d)) (nI (10 * (a - b))) (nI (10 - d)) z3 := by
        unfold fn_291_36
        rw [if_pos (LM L1).1, bd b1]
        show (if cm_sh z1 96 = some (.inl 11) then (fn_269 96 0 0 0 z1).bind fun w10 => (if cm_sh w10 96 = some (.inl 11) then (fn_272 96 0 w10).bind fun v13 => fn_291_82 cm_N i3 ((10 : Int32) * (if (0 : Int32) < (nI a - v13.1) then (nI a - v13.1) else (0 : Int32))) ((10 : Int32) - nI d) ((10 : Int32) * (if (0 : Int32) < (nI a - v13.1) then (nI a - v13.1) else (0 : Int32))) ((10 : Int32) - nI d) v13.2 else none) else none) = _
        rw [if_pos (LM G1.1).1, bd b2, if_pos (LM G2.1).1, bd d1]
        show fn_291_82 cm_N i3 ((10 : Int32) * (if (0 : Int32) < (nI a - nI b) then (nI a - nI b) else (0 : Int32))) ((10 : Int32) - nI d) ((10 : Int32) * (if (0 : Int32) < (nI a - nI b) then (nI a - nI b) else (0 : Int32))) ((10 : Int32) - nI d) z3 = _
        rw [mx, sb, nI_lm]
      have e37 : fn_291 96 (nI p) (nI d) i3 x = fn_291_36 96 (nI p) (nI d) i3 x := by
        simp (disch := omega) only [fn_291, LM L1, RM M1, hT.1, mWho L1 M1 I.1, e09, e01, h3, nT0, eq_self, Nat.le_refl, Nat.lt_irrefl, some_if, Option.bind_some, Option.bind_none, Option.some.injEq, ↓reduceIte, reduceCtorEq, Bool.false_eq_true, Bool.true_eq_false, not_true_eq_false, not_false_eq_true, cmb0, cmb1, Nat.reduceAdd, Nat.reduceMul, Nat.reduceSub, Nat.add_zero, Bool.not_eq_true, Bool.not_eq_false, Nat.reduceEqDiff, Nat.reduceLeDiff, Nat.reduceLT, Int32.reduceLT, Int32.reduceLE, iin_nI, iin_lit, iin_m1, tn_nI, tn_lit, nI_lm, nI_ml, nI_al, nI_la, nI_add, pk_mul, nI_le_l, nI_l_le, nI_lt_l, nI_l_lt, nI_eq_l, nI_l_eq, nI_eqP, nI_leP, nI_ltP, nI_m1, m1_nI, nI_ll, m1_l, l_m1]
      rw [e37, e36, Gm, if_pos rfl]
  by_cases i0 : i3 = 0
  · subst i0
    refine ok_ro (c' := c) (r := nI (10 * (a - b)) / nI G) g ⟨y2, ?_, F⟩ (fun x L1 M1 _ => ?_)
    · rw [cc, if_neg (fun h => h rfl)]
    · obtain ⟨y, G1, e⟩ := mm x L1 M1
      refine ⟨y, ?_, G1⟩
      rw [e, if_pos (by decide +kernel)]
      simp (disch := omega) only [fn_291_105, gz, eq_self, Nat.le_refl, Nat.lt_irrefl, some_if, Option.bind_some, Option.bind_none, Option.some.injEq, ↓reduceIte, reduceCtorEq, Bool.false_eq_true, Bool.true_eq_false, not_true_eq_false, not_false_eq_true, cmb0, cmb1, Nat.reduceAdd, Nat.reduceMul, Nat.reduceSub, Nat.add_zero, Bool.not_eq_true, Bool.not_eq_false, Nat.reduceEqDiff, Nat.reduceLeDiff, Nat.reduceLT, Int32.reduceLT, Int32.reduceLE, iin_nI, iin_lit, iin_m1, tn_nI, tn_lit, nI_lm, nI_ml, nI_al, nI_la, nI_add, pk_mul, nI_le_l, nI_l_le, nI_lt_l, nI_l_lt, nI_eq_l, nI_l_eq, nI_eqP, nI_leP, nI_ltP, nI_m1, m1_nI, nI_ll, m1_l, l_m1]
  by_cases i1 : i3 = 1
  · subst i1
    refine ok_ro (c' := c) (r := nI (10 - d) / nI G) g ⟨y2, ?_, F⟩ (fun x L1 M1 _ => ?_)
    · rw [cc, if_pos i0]
      simp (disch := omega) only [fn_186_86, gz, eq_self, Nat.le_refl, Nat.lt_irrefl, some_if, Option.bind_some, Option.bind_none, Option.some.injEq, ↓reduceIte, reduceCtorEq, Bool.false_eq_true, Bool.true_eq_false, not_true_eq_false, not_false_eq_true, cmb0, cmb1, Nat.reduceAdd, Nat.reduceMul, Nat.reduceSub, Nat.add_zero, Bool.not_eq_true, Bool.not_eq_false, Nat.reduceEqDiff, Nat.reduceLeDiff, Nat.reduceLT, Int32.reduceLT, Int32.reduceLE, iin_nI, iin_lit, iin_m1, tn_nI, tn_lit, nI_lm, nI_ml, nI_al, nI_la, nI_add, pk_mul, nI_le_l, nI_l_le, nI_lt_l, nI_l_lt, nI_eq_l, nI_l_eq, nI_eqP, nI_leP, nI_ltP, nI_m1, m1_nI, nI_ll, m1_l, l_m1]
    · obtain ⟨y, G1, e⟩ := mm x L1 M1
      refine ⟨y, ?_, G1⟩
      rw [e, if_pos (by decide +kernel)]
      simp (disch := omega) only [fn_291_105, fn_291_117, gz, eq_self, Nat.le_refl, Nat.lt_irrefl, some_if, Option.bind_some, Option.bind_none, Option.some.injEq, ↓reduceIte, reduceCtorEq, Bool.false_eq_true, Bool.true_eq_false, not_true_eq_false, not_false_eq_true, cmb0, cmb1, Nat.reduceAdd, Nat.reduceMul, Nat.reduceSub, Nat.add_zero, Bool.not_eq_true, Bool.not_eq_false, Nat.reduceEqDiff, Nat.reduceLeDiff, Nat.reduceLT, Int32.reduceLT, Int32.reduceLE, iin_nI, iin_lit, iin_m1, tn_nI, tn_lit, nI_lm, nI_ml, nI_al, nI_la, nI_add, pk_mul, nI_le_l, nI_l_le, nI_lt_l, nI_l_lt, nI_eq_l, nI_l_eq, nI_eqP, nI_leP, nI_ltP, nI_m1, m1_nI, nI_ll, m1_l, l_m1]
  have h2 : ¬ cm_iin i3 2 = true := by
    rcases iin_cs i3 (n := 2) (by omega) with h | ⟨a, ha, e⟩
    · rw [h]; decide
    · rcases (show a = 0 ∨ a = 1 by omega) with rfl | rfl
      · exact absurd e i0
      · exact absurd e i1
  refine ok_ro (c' := c) (r := -1) g ⟨y2, ?_, F⟩ (fun x L1 M1 _ => ?_)
  · rw [cc, if_pos i0]
    simp (disch := omega) only [fn_186_86, i1, eq_self, Nat.le_refl, Nat.lt_irrefl, some_if, Option.bind_some, Option.bind_none, Option.some.injEq, ↓reduceIte, reduceCtorEq, Bool.false_eq_true, Bool.true_eq_false, not_true_eq_false, not_false_eq_true, cmb0, cmb1, Nat.reduceAdd, Nat.reduceMul, Nat.reduceSub, Nat.add_zero, Bool.not_eq_true, Bool.not_eq_false, Nat.reduceEqDiff, Nat.reduceLeDiff, Nat.reduceLT, Int32.reduceLT, Int32.reduceLE, iin_nI, iin_lit, iin_m1, tn_nI, tn_lit, nI_lm, nI_ml, nI_al, nI_la, nI_add, pk_mul, nI_le_l, nI_l_le, nI_lt_l, nI_l_lt, nI_eq_l, nI_l_eq, nI_eqP, nI_leP, nI_ltP, nI_m1, m1_nI, nI_ll, m1_l, l_m1]
  · obtain ⟨y, G1, e⟩ := mm x L1 M1
    exact ⟨x, by rw [e, if_neg h2], FM.rf L1 M1⟩
end NAME2
