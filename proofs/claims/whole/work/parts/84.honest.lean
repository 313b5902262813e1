/-! honest: the call -/
section HONEST
variable {v c u n m l p q : Nat} {w w' : cm_W} {s s' : St} {M : Mk}
theorem bit_0 (t : Nat) : bit 0 t = false := by
  unfold bit
  show (0#32).getLsbD t = false
  simp
/-- the least of the others is worth as much as the least of all, when there is another -/
theorem hon_eq (T0 : M.top M.n ≠ 0) : M.lst (exf 0 0) M.n ≠ 0 ∧ (M.lst (exf (M.top M.n) 0) M.n = 0 → M.U (M.lst (exf 0 0) M.n - 1) = M.U (M.top M.n - 1)) ∧ (M.lst (exf (M.top M.n) 0) M.n ≠ 0 → M.U (M.lst (exf 0 0) M.n - 1) = M.U (M.lst (exf (M.top M.n) 0) M.n - 1)) := by
  have x0 : ∀ t, exf 0 0 t = false := fun t => by
    unfold exf
    rw [bit_0, decide_eq_false (by omega)]; rfl
  have x1 : ∀ t, exf (M.top M.n) 0 t = decide (t + 1 = M.top M.n) := fun t => by
    unfold exf
    rw [bit_0, Bool.or_false]
  rcases top_sp (M := M) M.n with ⟨h, -⟩ | ⟨-, t1, t2⟩
  · exact absurd h T0
  have tl := top_le (M := M) M.n
  have bl := lst_le (M := M) (ex := exf 0 0) M.n
  have al := lst_le (M := M) (ex := exf (M.top M.n) 0) M.n
  rcases lst_sp (M := M) (ex := exf 0 0) M.n with ⟨h, h2⟩ | ⟨b0, b1, b2, b3⟩
  · rcases h2 (M.top M.n - 1) (by omega) with h | h
    · exact absurd h t1
    · rw [x0] at h; cases h
  refine ⟨b0, fun a0 => ?_, fun a0 => ?_⟩
  · rcases lst_sp (M := M) (ex := exf (M.top M.n) 0) M.n with ⟨-, h2⟩ | ⟨h, -⟩
    · rcases h2 (M.lst (exf 0 0) M.n - 1) (by omega) with h | h
      · exact absurd h b1
      · rw [x1] at h
        have := of_decide_eq_true h
        rw [show M.lst (exf 0 0) M.n - 1 = M.top M.n - 1 by omega]
    · exact absurd a0 h
  · rcases lst_sp (M := M) (ex := exf (M.top M.n) 0) M.n with ⟨h, -⟩ | ⟨-, a1, a2, a3⟩
    · exact absurd h a0
    have e1 := b3 _ (show M.lst (exf (M.top M.n) 0) M.n - 1 < M.n by omega) a1 (x0 _)
    by_cases z : M.lst (exf 0 0) M.n = M.top M.n
    · have := t2 _ (show M.lst (exf (M.top M.n) 0) M.n - 1 < M.n by omega) a1
      rw [z] at e1 ⊢
      omega
    · have := a3 _ (show M.lst (exf 0 0) M.n - 1 < M.n by omega) b1 (by rw [x1]; exact decide_eq_false (by omega))
      omega
theorem top_pos (I : InvV s) (hp : p < nP s) (h1 : 0 < nT s) : (mko s p m).top (nT s) ≠ 0 := by
  obtain ⟨-, -, h3⟩ := I.2.2.2.2.2.1 p hp
  obtain ⟨t, ht, h4⟩ := h3 h1
  obtain ⟨e, h5⟩ := sh_n I hp ht
  rcases top_sp (M := mko s p m) (nT s) with ⟨h, h2⟩ | ⟨h, -⟩
  · have := h2 t ht
    have d : (mko s p m).D t = tn (s 107 (8 * p + t)) := if_pos ht
    rw [d] at this
    exact absurd (by rw [e, this]; rfl) h4
  · exact h
theorem c90 (L : Lay v c w) (K : SayC w M) (O : M.Ok) (hD : ∀ t, M.D t ≤ 99) (T0 : M.top M.n ≠ 0) : fn_90 w 55 = some (nI (M.U (M.top M.n - 1)) - nI (M.U (M.lst (exf 0 0) M.n - 1))) := by
  have e := c89 L K O hD 0
  have et := K.2.2
  have hn := O.2.2.1
  have tl := top_le (M := M) M.n
  have al := lst_le (M := M) (ex := exf (M.top M.n) 0) M.n
  obtain ⟨-, h1, h2⟩ := hon_eq (M := M) T0
  by_cases z : M.lst (exf (M.top M.n) 0) M.n = 0
  · rw [h1 z, Int32.sub_self]
    rw [z] at e
    simp (disch := omega) only [fn_90, LC L, e, enc_0, eq_self, Nat.le_refl, Nat.lt_irrefl, some_if, Option.bind_some, Option.bind_none, Option.some.injEq, ↓reduceIte, reduceCtorEq, Bool.false_eq_true, Bool.true_eq_false, not_true_eq_false, not_false_eq_true, cmb0, cmb1, Nat.reduceAdd, Nat.reduceMul, Nat.reduceSub, Nat.add_zero, Bool.not_eq_true, Bool.not_eq_false, Nat.reduceEqDiff, Nat.reduceLeDiff, Nat.reduceLT, Int32.reduceLT, Int32.reduceLE, iin_nI, iin_lit, iin_m1, tn_nI, tn_lit, nI_lm, nI_ml, nI_al, nI_la, nI_add, pk_mul, nI_le_l, nI_l_le, nI_lt_l, nI_l_lt, nI_eq_l, nI_l_eq, nI_eqP, nI_leP, nI_ltP, nI_m1, m1_nI, nI_ll, m1_l, l_m1]
  · rw [h2 z]
    have e1 : enc (M.lst (exf (M.top M.n) 0) M.n) = nI (M.lst (exf (M.top M.n) 0) M.n - 1) := if_neg z
    have e2 : enc (M.top M.n) = nI (M.top M.n - 1) := if_neg T0
    rw [e1] at e
    rw [e2] at et
    have u1 := K.2.1 (M.lst (exf (M.top M.n) 0) M.n - 1) (by omega)
    have u2 := K.2.1 (M.top M.n - 1) (by omega)
    simp (disch := omega) only [fn_90, fn_90_23, ↓LCb L, LC L, e, et, u1, u2, eq_self, Nat.le_refl, Nat.lt_irrefl, some_if, Option.bind_some, Option.bind_none, Option.some.injEq, ↓reduceIte, reduceCtorEq, Bool.false_eq_true, Bool.true_eq_false, not_true_eq_false, not_false_eq_true, cmb0, cmb1, Nat.reduceAdd, Nat.reduceMul, Nat.reduceSub, Nat.add_zero, Bool.not_eq_true, Bool.not_eq_false, Nat.reduceEqDiff, Nat.reduceLeDiff, Nat.reduceLT, Int32.reduceLT, Int32.reduceLE, iin_nI, iin_lit, iin_m1, tn_nI, tn_lit, nI_lm, nI_ml, nI_al, nI_la, nI_add, pk_mul, nI_le_l, nI_l_le, nI_lt_l, nI_l_lt, nI_eq_l, nI_l_eq, nI_eqP, nI_leP, nI_ltP, nI_m1, m1_nI, nI_ll, m1_l, l_m1]
theorem w_honest (g : GG v c w s) (i1 i2 i3 : Int32) : OKW (fn_184 2 i1 i2 i3) (fun x => (fn_290 x 96 i1 i2 i3).map (fun r => (r, x))) w := by
  obtain ⟨L, M, C, Z, I⟩ := id g
  have hv := L.1
  have V := C.2.1
  have hT := I.1.1
  have hP := I.1.2.1
  have e01 : ∀ x, fn_194 x i3 (0 : Int32) (1 : Int32) = some (cm_iin i3 2) := fun x => isIn_lit x i3 1 (by decide)
  rcases iin_cs i1 (n := nP s) (by omega) with h | ⟨p, hp, rfl⟩
  · refine ok_bad g ?_ (fun x L1 M1 => ?_)
    · simp (disch := omega) only [fn_184, fn_177, ↓LCb L, LC L, LV L hv, c10o L hv V I.1 h, eq_self, Nat.le_refl, Nat.lt_irrefl, some_if, Option.bind_some, Option.bind_none, Option.some.injEq, ↓reduceIte, reduceCtorEq, Bool.false_eq_true, Bool.true_eq_false, not_true_eq_false, not_false_eq_true, cmb0, cmb1, Nat.reduceAdd, Nat.reduceMul, Nat.reduceSub, Nat.add_zero, Bool.not_eq_true, Bool.not_eq_false, Nat.reduceEqDiff, Nat.reduceLeDiff, Nat.reduceLT, Int32.reduceLT, Int32.reduceLE, iin_nI, iin_lit, iin_m1, tn_nI, tn_lit, nI_lm, nI_ml, nI_al, nI_la, nI_add, pk_mul, nI_le_l, nI_l_le, nI_lt_l, nI_l_lt, nI_eq_l, nI_l_eq, nI_eqP, nI_leP, nI_ltP, nI_m1, m1_nI, nI_ll, m1_l, l_m1]
    · simp (disch := omega) only [fn_290, LM L1, mWho L1 M1 I.1, h, Option.map_some, eq_self, Nat.le_refl, Nat.lt_irrefl, some_if, Option.bind_some, Option.bind_none, Option.some.injEq, ↓reduceIte, reduceCtorEq, Bool.false_eq_true, Bool.true_eq_false, not_true_eq_false, not_false_eq_true, cmb0, cmb1, Nat.reduceAdd, Nat.reduceMul, Nat.reduceSub, Nat.add_zero, Bool.not_eq_true, Bool.not_eq_false, Nat.reduceEqDiff, Nat.reduceLeDiff, Nat.reduceLT, Int32.reduceLT, Int32.reduceLE, iin_nI, iin_lit, iin_m1, tn_nI, tn_lit, nI_lm, nI_ml, nI_al, nI_la, nI_add, pk_mul, nI_le_l, nI_l_le, nI_lt_l, nI_l_lt, nI_eq_l, nI_l_eq, nI_eqP, nI_leP, nI_ltP, nI_m1, m1_nI, nI_ll, m1_l, l_m1]
  obtain ⟨es, hs, hs2⟩ := shs_n I.1 hp
  have e10 := (c10 L hv V I.1 hp).trans (congrArg some es)
  by_cases t0 : nT s = 0
  · have z : tn (shs s p) = 0 := by
      rw [shs_sg (m := 0) I.1 hp]
      show sgm _ (nT s) = 0
      rw [t0]; rfl
    refine ok_bad g ?_ (fun x L1 M1 => ?_)
    · simp (disch := omega) only [fn_184, fn_177, ↓LCb L, LC L, LV L hv, e10, z, eq_self, Nat.le_refl, Nat.lt_irrefl, some_if, Option.bind_some, Option.bind_none, Option.some.injEq, ↓reduceIte, reduceCtorEq, Bool.false_eq_true, Bool.true_eq_false, not_true_eq_false, not_false_eq_true, cmb0, cmb1, Nat.reduceAdd, Nat.reduceMul, Nat.reduceSub, Nat.add_zero, Bool.not_eq_true, Bool.not_eq_false, Nat.reduceEqDiff, Nat.reduceLeDiff, Nat.reduceLT, Int32.reduceLT, Int32.reduceLE, iin_nI, iin_lit, iin_m1, tn_nI, tn_lit, nI_lm, nI_ml, nI_al, nI_la, nI_add, pk_mul, nI_le_l, nI_l_le, nI_lt_l, nI_l_lt, nI_eq_l, nI_l_eq, nI_eqP, nI_leP, nI_ltP, nI_m1, m1_nI, nI_ll, m1_l, l_m1]
    · cases h2 : cm_iin i2 6 <;> cases h3 : cm_iin i3 2 <;> simp (disch := omega) only [fn_290, LM L1, RM M1, hT.1, mWho L1 M1 I.1, mmon (a := 0) _ L1, e01, h2, h3, t0, Option.map_some, eq_self, Nat.le_refl, Nat.lt_irrefl, some_if, Option.bind_some, Option.bind_none, Option.some.injEq, ↓reduceIte, reduceCtorEq, Bool.false_eq_true, Bool.true_eq_false, not_true_eq_false, not_false_eq_true, cmb0, cmb1, Nat.reduceAdd, Nat.reduceMul, Nat.reduceSub, Nat.add_zero, Bool.not_eq_true, Bool.not_eq_false, Nat.reduceEqDiff, Nat.reduceLeDiff, Nat.reduceLT, Int32.reduceLT, Int32.reduceLE, iin_nI, iin_lit, iin_m1, tn_nI, tn_lit, nI_lm, nI_ml, nI_al, nI_la, nI_add, pk_mul, nI_le_l, nI_l_le, nI_lt_l, nI_l_lt, nI_eq_l, nI_l_eq, nI_eqP, nI_leP, nI_ltP, nI_m1, m1_nI, nI_ll, m1_l, l_m1]
  have hs2 := hs2 (by omega)
  have z : ¬ tn (shs s p) ≤ 0 := by omega
  rcases iin_cs i2 (n := 6) (by omega) with h | ⟨m, hm, rfl⟩
  · refine ok_bad g ?_ (fun x L1 M1 => ?_)
    · simp (disch := omega) only [fn_184, fn_177, bmon, ↓LCb L, LC L, LV L hv, e10, z, h, eq_self, Nat.le_refl, Nat.lt_irrefl, some_if, Option.bind_some, Option.bind_none, Option.some.injEq, ↓reduceIte, reduceCtorEq, Bool.false_eq_true, Bool.true_eq_false, not_true_eq_false, not_false_eq_true, cmb0, cmb1, Nat.reduceAdd, Nat.reduceMul, Nat.reduceSub, Nat.add_zero, Bool.not_eq_true, Bool.not_eq_false, Nat.reduceEqDiff, Nat.reduceLeDiff, Nat.reduceLT, Int32.reduceLT, Int32.reduceLE, iin_nI, iin_lit, iin_m1, tn_nI, tn_lit, nI_lm, nI_ml, nI_al, nI_la, nI_add, pk_mul, nI_le_l, nI_l_le, nI_lt_l, nI_l_lt, nI_eq_l, nI_l_eq, nI_eqP, nI_leP, nI_ltP, nI_m1, m1_nI, nI_ll, m1_l, l_m1]
    · simp (disch := omega) only [fn_290, LM L1, mWho L1 M1 I.1, mmon (a := 0) _ L1, h, Option.map_some, eq_self, Nat.le_refl, Nat.lt_irrefl, some_if, Option.bind_some, Option.bind_none, Option.some.injEq, ↓reduceIte, reduceCtorEq, Bool.false_eq_true, Bool.true_eq_false, not_true_eq_false, not_false_eq_true, cmb0, cmb1, Nat.reduceAdd, Nat.reduceMul, Nat.reduceSub, Nat.add_zero, Bool.not_eq_true, Bool.not_eq_false, Nat.reduceEqDiff, Nat.reduceLeDiff, Nat.reduceLT, Int32.reduceLT, Int32.reduceLE, iin_nI, iin_lit, iin_m1, tn_nI, tn_lit, nI_lm, nI_ml, nI_al, nI_la, nI_add, pk_mul, nI_le_l, nI_l_le, nI_lt_l, nI_l_lt, nI_eq_l, nI_l_eq, nI_eqP, nI_leP, nI_ltP, nI_m1, m1_nI, nI_ll, m1_l, l_m1]
  obtain ⟨y, y1, F, K⟩ := c88 L hv V I.1 hp hm
  have O := mko_ok I.1 hp hm
  have T0 := top_pos (m := m) I.1 hp (by omega)
  have e2 : enc ((mko s p m).top (nT s)) = nI ((mko s p m).top (nT s) - 1) := if_neg T0
  have tl := top_le (M := mko s p m) (nT s)
  have bl := lst_le (M := mko s p m) (ex := exf 0 0) (nT s)
  obtain ⟨B0, -, -⟩ := hon_eq (M := mko s p m) T0
  have B0 : (mko s p m).lst (exf 0 0) (nT s) ≠ 0 := B0
  have e90 := c90 F.1 K O (mko_D I.1 hp) T0
  have cc : fn_184 2 (nI p) (nI m) i3 w = fn_184_17 2 (nI p) (nI m) i3 w := by
    simp (disch := omega) only [fn_184, fn_177, bmon, ↓LCb L, LC L, LV L hv, e10, z, eq_self, Nat.le_refl, Nat.lt_irrefl, some_if, Option.bind_some, Option.bind_none, Option.some.injEq, ↓reduceIte, reduceCtorEq, Bool.false_eq_true, Bool.true_eq_false, not_true_eq_false, not_false_eq_true, cmb0, cmb1, Nat.reduceAdd, Nat.reduceMul, Nat.reduceSub, Nat.add_zero, Bool.not_eq_true, Bool.not_eq_false, Nat.reduceEqDiff, Nat.reduceLeDiff, Nat.reduceLT, Int32.reduceLT, Int32.reduceLE, iin_nI, iin_lit, iin_m1, tn_nI, tn_lit, nI_lm, nI_ml, nI_al, nI_la, nI_add, pk_mul, nI_le_l, nI_l_le, nI_lt_l, nI_l_lt, nI_eq_l, nI_l_eq, nI_eqP, nI_leP, nI_ltP, nI_m1, m1_nI, nI_ll, m1_l, l_m1]
  have rf : ∀ x, Lay v c x → RelM x s → fn_290 x 96 (nI p) (nI m) i3 = if cm_iin i3 2 = true then (if ¬ i3 = 1 then some (nI (wn s m ((mko s p m).top (nT s) - 1)) - nI (wn s m ((mko s p m).lst (exf 0 0) (nT s) - 1))) else some (enc ((mko s p m).top (nT s)))) else some (-1) := by
    intro x L1 M1
    have nT0 : ¬ nT s = 0 := t0
    have f86 := (m286 L1 M1 I.1 hp hm).trans (congrArg some e2)
    have e3 : enc ((mko s p m).lst (exf 0 0) (nT s)) = nI ((mko s p m).lst (exf 0 0) (nT s) - 1) := if_neg B0
    have f87 : fn_287 x 96 (nI p) (nI m) (-1) 0 = some (nI ((mko s p m).lst (exf 0 0) (nT s) - 1)) := (m287 L1 M1 I.1 hp hm (T := 0) (by omega) 0).trans (congrArg some e3)
    have g1 := (m222 L1 M1 (t := (mko s p m).top (nT s) - 1) (by omega) (nI m)).trans (congrArg some (wo_n I.1 (by omega) hm).1)
    have g2 := (m222 L1 M1 (t := (mko s p m).lst (exf 0 0) (nT s) - 1) (by omega) (nI m)).trans (congrArg some (wo_n I.1 (by omega) hm).1)
    rw [e2]
    cases h3 : cm_iin i3 2
    · simp (disch := omega) only [fn_290, LM L1, mWho L1 M1 I.1, mmon (a := 0) _ L1, e01, h3, eq_self, Nat.le_refl, Nat.lt_irrefl, some_if, Option.bind_some, Option.bind_none, Option.some.injEq, ↓reduceIte, reduceCtorEq, Bool.false_eq_true, Bool.true_eq_false, not_true_eq_false, not_false_eq_true, cmb0, cmb1, Nat.reduceAdd, Nat.reduceMul, Nat.reduceSub, Nat.add_zero, Bool.not_eq_true, Bool.not_eq_false, Nat.reduceEqDiff, Nat.reduceLeDiff, Nat.reduceLT, Int32.reduceLT, Int32.reduceLE, iin_nI, iin_lit, iin_m1, tn_nI, tn_lit, nI_lm, nI_ml, nI_al, nI_la, nI_add, pk_mul, nI_le_l, nI_l_le, nI_lt_l, nI_l_lt, nI_eq_l, nI_l_eq, nI_eqP, nI_leP, nI_ltP, nI_m1, m1_nI, nI_ll, m1_l, l_m1]
    · by_cases q : i3 = 1
      · subst q
        simp (disch := omega) only [fn_290, fn_290_33, LM L1, RM M1, hT.1, mWho L1 M1 I.1, mmon (a := 0) _ L1, e01, nT0, f86, eq_self, Nat.le_refl, Nat.lt_irrefl, some_if, Option.bind_some, Option.bind_none, Option.some.injEq, ↓reduceIte, reduceCtorEq, Bool.false_eq_true, Bool.true_eq_false, not_true_eq_false, not_false_eq_true, cmb0, cmb1, Nat.reduceAdd, Nat.reduceMul, Nat.reduceSub, Nat.add_zero, Bool.not_eq_true, Bool.not_eq_false, Nat.reduceEqDiff, Nat.reduceLeDiff, Nat.reduceLT, Int32.reduceLT, Int32.reduceLE, iin_nI, iin_lit, iin_m1, tn_nI, tn_lit, nI_lm, nI_ml, nI_al, nI_la, nI_add, pk_mul, nI_le_l, nI_l_le, nI_lt_l, nI_l_lt, nI_eq_l, nI_l_eq, nI_eqP, nI_leP, nI_ltP, nI_m1, m1_nI, nI_ll, m1_l, l_m1]
      · simp (disch := omega) only [fn_290, fn_290_33, fn_290_51, LM L1, RM M1, hT.1, mWho L1 M1 I.1, mmon (a := 0) _ L1, e01, h3, nT0, q, f86, f87, g1, g2, eq_self, Nat.le_refl, Nat.lt_irrefl, some_if, Option.bind_some, Option.bind_none, Option.some.injEq, ↓reduceIte, reduceCtorEq, Bool.false_eq_true, Bool.true_eq_false, not_true_eq_false, not_false_eq_true, cmb0, cmb1, Nat.reduceAdd, Nat.reduceMul, Nat.reduceSub, Nat.add_zero, Bool.not_eq_true, Bool.not_eq_false, Nat.reduceEqDiff, Nat.reduceLeDiff, Nat.reduceLT, Int32.reduceLT, Int32.reduceLE, iin_nI, iin_lit, iin_m1, tn_nI, tn_lit, nI_lm, nI_ml, nI_al, nI_la, nI_add, pk_mul, nI_le_l, nI_l_le, nI_lt_l, nI_l_lt, nI_eq_l, nI_l_eq, nI_eqP, nI_leP, nI_ltP, nI_m1, m1_nI, nI_ll, m1_l, l_m1]
  by_cases i0 : i3 = 0
  · subst i0
    refine ok_ro (c' := c) (r := nI (wn s m ((mko s p m).top (nT s) - 1)) - nI (wn s m ((mko s p m).lst (exf 0 0) (nT s) - 1))) g ⟨y, ?_, F⟩ (fun x L1 M1 _ => ⟨x, ?_, FM.rf L1 M1⟩)
    · rw [cc]
      simp (disch := omega) only [fn_184_17, ↓LCb L, LC L, y1, ↓LCb F.1, LC F.1, e90, eq_self, Nat.le_refl, Nat.lt_irrefl, some_if, Option.bind_some, Option.bind_none, Option.some.injEq, ↓reduceIte, reduceCtorEq, Bool.false_eq_true, Bool.true_eq_false, not_true_eq_false, not_false_eq_true, cmb0, cmb1, Nat.reduceAdd, Nat.reduceMul, Nat.reduceSub, Nat.add_zero, Bool.not_eq_true, Bool.not_eq_false, Nat.reduceEqDiff, Nat.reduceLeDiff, Nat.reduceLT, Int32.reduceLT, Int32.reduceLE, iin_nI, iin_lit, iin_m1, tn_nI, tn_lit, nI_lm, nI_ml, nI_al, nI_la, nI_add, pk_mul, nI_le_l, nI_l_le, nI_lt_l, nI_l_lt, nI_eq_l, nI_l_eq, nI_eqP, nI_leP, nI_ltP, nI_m1, m1_nI, nI_ll, m1_l, l_m1]
      rfl
    · show (fn_290 x 96 (nI p) (nI m) 0).map _ = _
      rw [rf x L1 M1, if_pos (by decide +kernel), if_pos (by decide)]; rfl
  by_cases i1 : i3 = 1
  · subst i1
    refine ok_ro (c' := c) (r := enc ((mko s p m).top (nT s))) g ⟨y, ?_, F⟩ (fun x L1 M1 _ => ⟨x, ?_, FM.rf L1 M1⟩)
    · rw [cc]
      have et : cm_I y 55 2 = enc ((mko s p m).top (nT s)) := K.2.2
      simp (disch := omega) only [fn_184_17, fn_184_44, ↓LCb L, LC L, y1, ↓LCb F.1, LC F.1, et, eq_self, Nat.le_refl, Nat.lt_irrefl, some_if, Option.bind_some, Option.bind_none, Option.some.injEq, ↓reduceIte, reduceCtorEq, Bool.false_eq_true, Bool.true_eq_false, not_true_eq_false, not_false_eq_true, cmb0, cmb1, Nat.reduceAdd, Nat.reduceMul, Nat.reduceSub, Nat.add_zero, Bool.not_eq_true, Bool.not_eq_false, Nat.reduceEqDiff, Nat.reduceLeDiff, Nat.reduceLT, Int32.reduceLT, Int32.reduceLE, iin_nI, iin_lit, iin_m1, tn_nI, tn_lit, nI_lm, nI_ml, nI_al, nI_la, nI_add, pk_mul, nI_le_l, nI_l_le, nI_lt_l, nI_l_lt, nI_eq_l, nI_l_eq, nI_eqP, nI_leP, nI_ltP, nI_m1, m1_nI, nI_ll, m1_l, l_m1]
    · show (fn_290 x 96 (nI p) (nI m) 1).map _ = _
      rw [rf x L1 M1, if_pos (by decide +kernel), if_neg (fun h => h rfl)]; rfl
  have h2 : ¬ cm_iin i3 2 = true := by
    rcases iin_cs i3 (n := 2) (by omega) with h | ⟨a, ha, e⟩
    · rw [h]; decide
    · rcases (show a = 0 ∨ a = 1 by omega) with rfl | rfl
      · exact absurd e i0
      · exact absurd e i1
  refine ok_ro (c' := c) (r := -1) g ⟨y, ?_, F⟩ (fun x L1 M1 _ => ⟨x, ?_, FM.rf L1 M1⟩)
  · rw [cc]
    simp (disch := omega) only [fn_184_17, fn_184_44, ↓LCb L, LC L, y1, i0, i1, eq_self, Nat.le_refl, Nat.lt_irrefl, some_if, Option.bind_some, Option.bind_none, Option.some.injEq, ↓reduceIte, reduceCtorEq, Bool.false_eq_true, Bool.true_eq_false, not_true_eq_false, not_false_eq_true, cmb0, cmb1, Nat.reduceAdd, Nat.reduceMul, Nat.reduceSub, Nat.add_zero, Bool.not_eq_true, Bool.not_eq_false, Nat.reduceEqDiff, Nat.reduceLeDiff, Nat.reduceLT, Int32.reduceLT, Int32.reduceLE, iin_nI, iin_lit, iin_m1, tn_nI, tn_lit, nI_lm, nI_ml, nI_al, nI_la, nI_add, pk_mul, nI_le_l, nI_l_le, nI_lt_l, nI_l_lt, nI_eq_l, nI_l_eq, nI_eqP, nI_leP, nI_ltP, nI_m1, m1_nI, nI_ll, m1_l, l_m1]
  · show (fn_290 x 96 (nI p) (nI m) i3).map _ = _
    rw [rf x L1 M1, if_neg h2]; rfl
end HONEST
