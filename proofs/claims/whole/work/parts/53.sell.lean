/-! say, sign, sell -/
section SELL
variable {v c u n : Nat} {w w' : cm_W} {s s' : St}
theorem ok_ex {α : Type} {X Mf : cm_W → Option (α × cm_W)} {r : α} (g : GG v c w s)
    (h1 : ∃ w1, X w = some (r, w1) ∧ Lay v c w1 ∧ StC w1 30 s' ∧ (∀ a, a < 30 ∨ 41 ≤ a → ∀ j, cm_I w1 a j = cm_I w a j) ∧ cm_L w1 = cm_L w)
    (h2 : ∀ x, Lay v c x → RelM x s → ∃ y, Mf x = some (r, y) ∧ Lay v c y ∧ RelM y s' ∧ (∀ a, a < 96 → ∀ j, cm_I y a j = cm_I x a j) ∧ cm_L y = cm_L x)
    (hs : ∀ a k, sa a k = false → s' a k = s a k) (hI : InvS s') : OKW X Mf w := by
  obtain ⟨L, M, C, Z, I⟩ := g
  obtain ⟨w1, a1, a2, a3, a4, a5⟩ := h1
  obtain ⟨y, k1, k2, k3, k4, k5⟩ := h2 w1 a2 (M.fr fun a ha => a4 a (by omega))
  refine ⟨r, w1, y, v, c, s', a1, k1, k2, k3, (C.st L.1 a3 a4 hs).fr L.1 k4, ?_, I.st hI hs⟩
  exact Z.cg (by rw [k5, a5]) (by rw [k5, a5]) (fun i _ => by rw [k5, a5]) (fun i => by rw [k5, a5]) I.2.2.2.1.2 (by unfold nG; rw [hs 96 73 rfl])
theorem kn_p {b p : Nat} (hp : p < 12) : (if nI p = -1 then (0 : Int32) else if cm_iin (nI p) 12 = true ∧ (s 118 b >>> (nI p &&& 31)) &&& 1 = 1 then 1 else 0) = knv s b p ∧ (if nI p = -1 then (0 : Int32) else if (s 118 b >>> (nI p &&& 31)) &&& 1 = 1 then 1 else 0) = knv s b p := by
  have h1 : ¬ nI p = -1 := by rw [nI_m1 (by omega)]; exact id
  have h2 := iin_nI hp (show 12 ≤ 2147483648 by omega)
  rw [if_neg h1, if_neg h1, h2]
  unfold knv
  simp only [true_and, and_self]
theorem knv_rg (s : St) (b p : Nat) : rg (knv s b p) 2 := by
  unfold knv
  split
  · exact ⟨1, by omega, rfl⟩
  · exact ⟨0, by omega, rfl⟩
theorem w_say (g : GG v c w s) (i j : Int32) : OKW (fn_153 2 i j) (fn_240 96 i j) w := by
  obtain ⟨L, M, C, Z, I⟩ := id g
  have hv := L.1
  have V := C.2.2.1
  have hB := I.2.1.2.1
  have hM := I.2.1.1
  have hT := I.1.1
  have hP := I.1.2.1
  have hR := I.2.1.2.2.1
  have r1 : fn_153_35 2 w = some (false, cm_sI w 42 0 (cm_I w 42 0 + 1)) := by
    simp (disch := omega) only [fn_153_35, LC L, c148 L, eq_self, Nat.le_refl, Nat.lt_irrefl, some_if, Option.bind_some, Option.bind_none, Option.some.injEq, ↓reduceIte, reduceCtorEq, Bool.false_eq_true, Bool.true_eq_false, not_true_eq_false, not_false_eq_true, cmb0, cmb1, Nat.reduceAdd, Nat.reduceMul, Nat.reduceSub, Nat.add_zero, Bool.not_eq_true, Bool.not_eq_false, Nat.reduceEqDiff, Nat.reduceLeDiff, Nat.reduceLT, Int32.reduceLT, Int32.reduceLE, iin_nI, iin_lit, iin_m1, tn_nI, tn_lit, nI_lm, nI_ml, nI_al, nI_la, nI_add, pk_mul, nI_le_l, nI_l_le, nI_lt_l, nI_l_lt, nI_eq_l, nI_l_eq, nI_eqP, nI_leP, nI_ltP, nI_m1, m1_nI, nI_ll, m1_l, l_m1]
  have r2 : ∀ x, Lay v c x → fn_240_23 96 x = some (false, cm_sI x 97 0 (cm_I x 97 0 + 1)) := fun x L1 => by
    simp (disch := omega) only [fn_240_23, LM L1, m198 L1, eq_self, Nat.le_refl, Nat.lt_irrefl, some_if, Option.bind_some, Option.bind_none, Option.some.injEq, ↓reduceIte, reduceCtorEq, Bool.false_eq_true, Bool.true_eq_false, not_true_eq_false, not_false_eq_true, cmb0, cmb1, Nat.reduceAdd, Nat.reduceMul, Nat.reduceSub, Nat.add_zero, Bool.not_eq_true, Bool.not_eq_false, Nat.reduceEqDiff, Nat.reduceLeDiff, Nat.reduceLT, Int32.reduceLT, Int32.reduceLE, iin_nI, iin_lit, iin_m1, tn_nI, tn_lit, nI_lm, nI_ml, nI_al, nI_la, nI_add, pk_mul, nI_le_l, nI_l_le, nI_lt_l, nI_l_lt, nI_eq_l, nI_l_eq, nI_eqP, nI_leP, nI_ltP, nI_m1, m1_nI, nI_ll, m1_l, l_m1]
  by_cases h5 : 5 ≤ nM s
  · have h6 : ¬ nM s < 5 := by omega
    refine ok_ref (r := false) g 0 (by omega) ?_ (fun x L1 M1 _ => ?_)
    · simp (disch := omega) only [fn_153, ↓LCb L, ↓LStb L, ↓LVb L hv, ↓hasBb L V I.2.1, ↓hasTb L hv C.2.1 I.1, ↓hasPb L hv C.2.1 I.1, ↓c146b L V I.2.1, LC L, LSt L, LV L hv, h5, r1, decide_true, eq_self, Nat.le_refl, Nat.lt_irrefl, some_if, Option.bind_some, Option.bind_none, Option.some.injEq, ↓reduceIte, reduceCtorEq, Bool.false_eq_true, Bool.true_eq_false, not_true_eq_false, not_false_eq_true, cmb0, cmb1, Nat.reduceAdd, Nat.reduceMul, Nat.reduceSub, Nat.add_zero, Bool.not_eq_true, Bool.not_eq_false, Nat.reduceEqDiff, Nat.reduceLeDiff, Nat.reduceLT, Int32.reduceLT, Int32.reduceLE, iin_nI, iin_lit, iin_m1, tn_nI, tn_lit, nI_lm, nI_ml, nI_al, nI_la, nI_add, pk_mul, nI_le_l, nI_l_le, nI_lt_l, nI_l_lt, nI_eq_l, nI_l_eq, nI_eqP, nI_leP, nI_ltP, nI_m1, m1_nI, nI_ll, m1_l, l_m1]
    · cases h : cm_iin i (nB s) <;> cases h' : cm_iin j (nT s) <;> simp (disch := omega) only [fn_240, ↓LMb L1, ↓mBoxb L1 M1 I.2.1, ↓mWhob L1 M1 I.1, ↓mThingb L1 M1 I.1, ↓mAheadb L1 M1 I.2.1, LM L1, h, h', h6, r2 x L1, decide_false, eq_self, Nat.le_refl, Nat.lt_irrefl, some_if, Option.bind_some, Option.bind_none, Option.some.injEq, ↓reduceIte, reduceCtorEq, Bool.false_eq_true, Bool.true_eq_false, not_true_eq_false, not_false_eq_true, cmb0, cmb1, Nat.reduceAdd, Nat.reduceMul, Nat.reduceSub, Nat.add_zero, Bool.not_eq_true, Bool.not_eq_false, Nat.reduceEqDiff, Nat.reduceLeDiff, Nat.reduceLT, Int32.reduceLT, Int32.reduceLE, iin_nI, iin_lit, iin_m1, tn_nI, tn_lit, nI_lm, nI_ml, nI_al, nI_la, nI_add, pk_mul, nI_le_l, nI_l_le, nI_lt_l, nI_l_lt, nI_eq_l, nI_l_eq, nI_eqP, nI_leP, nI_ltP, nI_m1, m1_nI, nI_ll, m1_l, l_m1]
  have h6 : nM s < 5 := by omega
  rcases iin_cs i (n := nB s) (by omega) with h | ⟨b, hb, rfl⟩
  · refine ok_ref (r := false) g 0 (by omega) ?_ (fun x L1 M1 _ => ?_)
    · simp (disch := omega) only [fn_153, ↓LCb L, ↓LStb L, ↓LVb L hv, ↓hasBb L V I.2.1, ↓hasTb L hv C.2.1 I.1, ↓hasPb L hv C.2.1 I.1, ↓c146b L V I.2.1, LC L, LSt L, LV L hv, h5, h, r1, decide_false, eq_self, Nat.le_refl, Nat.lt_irrefl, some_if, Option.bind_some, Option.bind_none, Option.some.injEq, ↓reduceIte, reduceCtorEq, Bool.false_eq_true, Bool.true_eq_false, not_true_eq_false, not_false_eq_true, cmb0, cmb1, Nat.reduceAdd, Nat.reduceMul, Nat.reduceSub, Nat.add_zero, Bool.not_eq_true, Bool.not_eq_false, Nat.reduceEqDiff, Nat.reduceLeDiff, Nat.reduceLT, Int32.reduceLT, Int32.reduceLE, iin_nI, iin_lit, iin_m1, tn_nI, tn_lit, nI_lm, nI_ml, nI_al, nI_la, nI_add, pk_mul, nI_le_l, nI_l_le, nI_lt_l, nI_l_lt, nI_eq_l, nI_l_eq, nI_eqP, nI_leP, nI_ltP, nI_m1, m1_nI, nI_ll, m1_l, l_m1]
    · simp (disch := omega) only [fn_240, ↓LMb L1, ↓mBoxb L1 M1 I.2.1, ↓mWhob L1 M1 I.1, ↓mThingb L1 M1 I.1, ↓mAheadb L1 M1 I.2.1, LM L1, h, r2 x L1, eq_self, Nat.le_refl, Nat.lt_irrefl, some_if, Option.bind_some, Option.bind_none, Option.some.injEq, ↓reduceIte, reduceCtorEq, Bool.false_eq_true, Bool.true_eq_false, not_true_eq_false, not_false_eq_true, cmb0, cmb1, Nat.reduceAdd, Nat.reduceMul, Nat.reduceSub, Nat.add_zero, Bool.not_eq_true, Bool.not_eq_false, Nat.reduceEqDiff, Nat.reduceLeDiff, Nat.reduceLT, Int32.reduceLT, Int32.reduceLE, iin_nI, iin_lit, iin_m1, tn_nI, tn_lit, nI_lm, nI_ml, nI_al, nI_la, nI_add, pk_mul, nI_le_l, nI_l_le, nI_lt_l, nI_l_lt, nI_eq_l, nI_l_eq, nI_eqP, nI_leP, nI_ltP, nI_m1, m1_nI, nI_ll, m1_l, l_m1]
  rcases iin_cs j (n := nT s) (by omega) with h | ⟨t, ht, rfl⟩
  · refine ok_ref (r := false) g 0 (by omega) ?_ (fun x L1 M1 _ => ?_)
    · simp (disch := omega) only [fn_153, ↓LCb L, ↓LStb L, ↓LVb L hv, ↓hasBb L V I.2.1, ↓hasTb L hv C.2.1 I.1, ↓hasPb L hv C.2.1 I.1, ↓c146b L V I.2.1, LC L, LSt L, LV L hv, h5, h, r1, decide_false, eq_self, Nat.le_refl, Nat.lt_irrefl, some_if, Option.bind_some, Option.bind_none, Option.some.injEq, ↓reduceIte, reduceCtorEq, Bool.false_eq_true, Bool.true_eq_false, not_true_eq_false, not_false_eq_true, cmb0, cmb1, Nat.reduceAdd, Nat.reduceMul, Nat.reduceSub, Nat.add_zero, Bool.not_eq_true, Bool.not_eq_false, Nat.reduceEqDiff, Nat.reduceLeDiff, Nat.reduceLT, Int32.reduceLT, Int32.reduceLE, iin_nI, iin_lit, iin_m1, tn_nI, tn_lit, nI_lm, nI_ml, nI_al, nI_la, nI_add, pk_mul, nI_le_l, nI_l_le, nI_lt_l, nI_l_lt, nI_eq_l, nI_l_eq, nI_eqP, nI_leP, nI_ltP, nI_m1, m1_nI, nI_ll, m1_l, l_m1]
    · simp (disch := omega) only [fn_240, ↓LMb L1, ↓mBoxb L1 M1 I.2.1, ↓mWhob L1 M1 I.1, ↓mThingb L1 M1 I.1, ↓mAheadb L1 M1 I.2.1, LM L1, h, r2 x L1, eq_self, Nat.le_refl, Nat.lt_irrefl, some_if, Option.bind_some, Option.bind_none, Option.some.injEq, ↓reduceIte, reduceCtorEq, Bool.false_eq_true, Bool.true_eq_false, not_true_eq_false, not_false_eq_true, cmb0, cmb1, Nat.reduceAdd, Nat.reduceMul, Nat.reduceSub, Nat.add_zero, Bool.not_eq_true, Bool.not_eq_false, Nat.reduceEqDiff, Nat.reduceLeDiff, Nat.reduceLT, Int32.reduceLT, Int32.reduceLE, iin_nI, iin_lit, iin_m1, tn_nI, tn_lit, nI_lm, nI_ml, nI_al, nI_la, nI_add, pk_mul, nI_le_l, nI_l_le, nI_lt_l, nI_l_lt, nI_eq_l, nI_l_eq, nI_eqP, nI_leP, nI_ltP, nI_m1, m1_nI, nI_ll, m1_l, l_m1]
  by_cases h3 : nR s = 300
  · refine ok_ref (r := false) g 1 (by omega) ?_ (fun x L1 M1 _ => ?_)
    · have := fulR L V I.2.1
      simp (disch := omega) only [fn_153, fn_153_41, ↓LCb L, ↓LStb L, ↓LVb L hv, ↓hasBb L V I.2.1, ↓hasTb L hv C.2.1 I.1, ↓hasPb L hv C.2.1 I.1, ↓c146b L V I.2.1, LC L, LSt L, LV L hv, h5, this, h3, c148 L, decide_true, decide_false, eq_self, Nat.le_refl, Nat.lt_irrefl, some_if, Option.bind_some, Option.bind_none, Option.some.injEq, ↓reduceIte, reduceCtorEq, Bool.false_eq_true, Bool.true_eq_false, not_true_eq_false, not_false_eq_true, cmb0, cmb1, Nat.reduceAdd, Nat.reduceMul, Nat.reduceSub, Nat.add_zero, Bool.not_eq_true, Bool.not_eq_false, Nat.reduceEqDiff, Nat.reduceLeDiff, Nat.reduceLT, Int32.reduceLT, Int32.reduceLE, iin_nI, iin_lit, iin_m1, tn_nI, tn_lit, nI_lm, nI_ml, nI_al, nI_la, nI_add, pk_mul, nI_le_l, nI_l_le, nI_lt_l, nI_l_lt, nI_eq_l, nI_l_eq, nI_eqP, nI_leP, nI_ltP, nI_m1, m1_nI, nI_ll, m1_l, l_m1]
    · simp (disch := omega) only [fn_240, fn_240_29, ↓LMb L1, ↓mBoxb L1 M1 I.2.1, ↓mWhob L1 M1 I.1, ↓mThingb L1 M1 I.1, ↓mAheadb L1 M1 I.2.1, LM L1, RM M1, hR.1, h6, h3, m198 L1, decide_true, eq_self, Nat.le_refl, Nat.lt_irrefl, some_if, Option.bind_some, Option.bind_none, Option.some.injEq, ↓reduceIte, reduceCtorEq, Bool.false_eq_true, Bool.true_eq_false, not_true_eq_false, not_false_eq_true, cmb0, cmb1, Nat.reduceAdd, Nat.reduceMul, Nat.reduceSub, Nat.add_zero, Bool.not_eq_true, Bool.not_eq_false, Nat.reduceEqDiff, Nat.reduceLeDiff, Nat.reduceLT, Int32.reduceLT, Int32.reduceLE, iin_nI, iin_lit, iin_m1, tn_nI, tn_lit, nI_lm, nI_ml, nI_al, nI_la, nI_add, pk_mul, nI_le_l, nI_l_le, nI_lt_l, nI_l_lt, nI_eq_l, nI_l_eq, nI_eqP, nI_leP, nI_ltP, nI_m1, m1_nI, nI_ll, m1_l, l_m1]
  have h4 : nR s < 300 := by omega
  obtain ⟨p, hp, ep⟩ := ho_rg I.2.1 hb
  obtain ⟨k1, k2⟩ := kn_p (s := s) (b := b) (p := p) (by omega)
  have hy : rg (nI p) (nP s) := ⟨p, hp, rfl⟩
  refine ok_ex (r := true) (s' := addR s b 1 (nI p) (-1) (nI t) (knv s b p)) g ?_ (fun x L1 M1 => ?_) rec_sa (InvS_addR I.2.1 hb h4 h6 ⟨1, by omega, rfl⟩ (Or.inr hy) ⟨t, by omega, rfl⟩ (knv_rg s b p) (fun _ => hy) (fun _ => ⟨hy, ⟨t, ht, rfl⟩⟩))
  · obtain ⟨y, y1, y2, y3, y4, y5⟩ := c105 L V I.2.1 h4 hb (kd := 1) (yb := nI p) (to' := -1) (x := nI t)
    rw [k1] at y3
    refine ⟨y, ?_, y2, y3, y4, y5⟩
    have := fulR L V I.2.1
    simp (disch := omega) only [fn_153, fn_153_41, fn_153_60, ↓LCb L, ↓LStb L, ↓LVb L hv, ↓hasBb L V I.2.1, ↓hasTb L hv C.2.1 I.1, ↓hasPb L hv C.2.1 I.1, ↓c146b L V I.2.1, LC L, LSt L, LV L hv, h5, this, h3, c17 L V I.2.1 hb, ep, y1, decide_false, eq_self, Nat.le_refl, Nat.lt_irrefl, some_if, Option.bind_some, Option.bind_none, Option.some.injEq, ↓reduceIte, reduceCtorEq, Bool.false_eq_true, Bool.true_eq_false, not_true_eq_false, not_false_eq_true, cmb0, cmb1, Nat.reduceAdd, Nat.reduceMul, Nat.reduceSub, Nat.add_zero, Bool.not_eq_true, Bool.not_eq_false, Nat.reduceEqDiff, Nat.reduceLeDiff, Nat.reduceLT, Int32.reduceLT, Int32.reduceLE, iin_nI, iin_lit, iin_m1, tn_nI, tn_lit, nI_lm, nI_ml, nI_al, nI_la, nI_add, pk_mul, nI_le_l, nI_l_le, nI_lt_l, nI_l_lt, nI_eq_l, nI_l_eq, nI_eqP, nI_leP, nI_ltP, nI_m1, m1_nI, nI_ll, m1_l, l_m1]
  · obtain ⟨y, y1, y2, y3, y4, y5⟩ := m238 L1 M1 I.2.1 h4 hb (kd := 1) (yb := nI p) (to' := -1) (xv := nI t)
    rw [k2] at y3
    refine ⟨y, ?_, y2, y3, y4, y5⟩
    simp (disch := omega) only [fn_240, fn_240_29, fn_240_45, ↓LMb L1, ↓mBoxb L1 M1 I.2.1, ↓mWhob L1 M1 I.1, ↓mThingb L1 M1 I.1, ↓mAheadb L1 M1 I.2.1, LM L1, RM M1, hR.1, h6, h3, m231 L1 M1 I.2.1 hb, ep, y1, decide_true, eq_self, Nat.le_refl, Nat.lt_irrefl, some_if, Option.bind_some, Option.bind_none, Option.some.injEq, ↓reduceIte, reduceCtorEq, Bool.false_eq_true, Bool.true_eq_false, not_true_eq_false, not_false_eq_true, cmb0, cmb1, Nat.reduceAdd, Nat.reduceMul, Nat.reduceSub, Nat.add_zero, Bool.not_eq_true, Bool.not_eq_false, Nat.reduceEqDiff, Nat.reduceLeDiff, Nat.reduceLT, Int32.reduceLT, Int32.reduceLE, iin_nI, iin_lit, iin_m1, tn_nI, tn_lit, nI_lm, nI_ml, nI_al, nI_la, nI_add, pk_mul, nI_le_l, nI_l_le, nI_lt_l, nI_l_lt, nI_eq_l, nI_l_eq, nI_eqP, nI_leP, nI_ltP, nI_m1, m1_nI, nI_ll, m1_l, l_m1]
theorem w_sign (g : GG v c w s) (i k j : Int32) : OKW (fn_154 2 i k j) (fn_241 96 i k j) w := by
  obtain ⟨L, M, C, Z, I⟩ := id g
  have hv := L.1
  have V := C.2.2.1
  have hB := I.2.1.2.1
  have hM := I.2.1.1
  have hR := I.2.1.2.2.1
  have r1 : fn_154_62 2 w = some (false, cm_sI w 42 0 (cm_I w 42 0 + 1)) := by
    simp (disch := omega) only [fn_154_62, LC L, c148 L, eq_self, Nat.le_refl, Nat.lt_irrefl, some_if, Option.bind_some, Option.bind_none, Option.some.injEq, ↓reduceIte, reduceCtorEq, Bool.false_eq_true, Bool.true_eq_false, not_true_eq_false, not_false_eq_true, cmb0, cmb1, Nat.reduceAdd, Nat.reduceMul, Nat.reduceSub, Nat.add_zero, Bool.not_eq_true, Bool.not_eq_false, Nat.reduceEqDiff, Nat.reduceLeDiff, Nat.reduceLT, Int32.reduceLT, Int32.reduceLE, iin_nI, iin_lit, iin_m1, tn_nI, tn_lit, nI_lm, nI_ml, nI_al, nI_la, nI_add, pk_mul, nI_le_l, nI_l_le, nI_lt_l, nI_l_lt, nI_eq_l, nI_l_eq, nI_eqP, nI_leP, nI_ltP, nI_m1, m1_nI, nI_ll, m1_l, l_m1]
  have r2 : ∀ x, Lay v c x → fn_241_43 96 x = some (false, cm_sI x 97 0 (cm_I x 97 0 + 1)) := fun x L1 => by
    simp (disch := omega) only [fn_241_43, LM L1, m198 L1, eq_self, Nat.le_refl, Nat.lt_irrefl, some_if, Option.bind_some, Option.bind_none, Option.some.injEq, ↓reduceIte, reduceCtorEq, Bool.false_eq_true, Bool.true_eq_false, not_true_eq_false, not_false_eq_true, cmb0, cmb1, Nat.reduceAdd, Nat.reduceMul, Nat.reduceSub, Nat.add_zero, Bool.not_eq_true, Bool.not_eq_false, Nat.reduceEqDiff, Nat.reduceLeDiff, Nat.reduceLT, Int32.reduceLT, Int32.reduceLE, iin_nI, iin_lit, iin_m1, tn_nI, tn_lit, nI_lm, nI_ml, nI_al, nI_la, nI_add, pk_mul, nI_le_l, nI_l_le, nI_lt_l, nI_l_lt, nI_eq_l, nI_l_eq, nI_eqP, nI_leP, nI_ltP, nI_m1, m1_nI, nI_ll, m1_l, l_m1]
  have r3 : fn_154_33 2 i k j w = some (false, cm_sI w 42 0 (cm_I w 42 0 + 1)) := by
    by_cases h5 : 5 ≤ nM s <;> simp (disch := omega) only [fn_154_33, ↓LCb L, ↓LStb L, ↓LVb L hv, ↓hasBb L V I.2.1, ↓hasTb L hv C.2.1 I.1, ↓hasPb L hv C.2.1 I.1, ↓c146b L V I.2.1, LC L, LSt L, LV L hv, h5, r1, decide_true, decide_false, eq_self, Nat.le_refl, Nat.lt_irrefl, some_if, Option.bind_some, Option.bind_none, Option.some.injEq, ↓reduceIte, reduceCtorEq, Bool.false_eq_true, Bool.true_eq_false, not_true_eq_false, not_false_eq_true, cmb0, cmb1, Nat.reduceAdd, Nat.reduceMul, Nat.reduceSub, Nat.add_zero, Bool.not_eq_true, Bool.not_eq_false, Nat.reduceEqDiff, Nat.reduceLeDiff, Nat.reduceLT, Int32.reduceLT, Int32.reduceLE, iin_nI, iin_lit, iin_m1, tn_nI, tn_lit, nI_lm, nI_ml, nI_al, nI_la, nI_add, pk_mul, nI_le_l, nI_l_le, nI_lt_l, nI_l_lt, nI_eq_l, nI_l_eq, nI_eqP, nI_leP, nI_ltP, nI_m1, m1_nI, nI_ll, m1_l, l_m1]
  have d1 : ∀ w, fn_194 w k (0 : Int32) (1 : Int32) = some (cm_iin k 2) := fun w => isIn_lit w k 1 (by decide)
  have d2 : ∀ w, fn_194 w j (0 : Int32) (9 : Int32) = some (cm_iin j 10) := fun w => isIn_lit w j 9 (by decide)
  have d3 : ∀ w, fn_194 w j (0 : Int32) (99 : Int32) = some (cm_iin j 100) := fun w => isIn_lit w j 99 (by decide)
  -- the class's two tests of a reading
  have t0 : k = 0 → fn_154 2 i k j w = if cm_iin j 100 = true then fn_154_29 2 i k j w else some (false, cm_sI w 42 0 (cm_I w 42 0 + 1)) := by
    intro e
    have e1 : ¬ k = 1 := by rw [e]; decide
    have q14 : fn_154_14 2 i k j w = some (false, cm_sI w 42 0 (cm_I w 42 0 + 1)) := by unfold fn_154_14; rw [if_pos e1, r3]
    unfold fn_154
    rw [if_neg (fun z => z e), q14]
    rcases iin_cs j (n := 100) (by omega) with h | ⟨a, ha, rfl⟩
    · rw [h, if_neg (show ¬ (false = true) from Bool.false_ne_true)]
      rcases iin_f h (by omega) with q | q
      · rw [if_pos q]
      · by_cases q2 : j < 0
        · rw [if_pos q2]
        · rw [if_neg q2, if_neg]
          exact fun q3 => absurd (Int32.le_trans q q3) (by decide)
    · rw [iin_nI ha (by omega), if_pos rfl, if_neg (nI_pos (by omega)), if_pos (show nI a ≤ (99 : Int32) from nI_le (b := 99) (by omega) (by omega))]
  have t1 : k = 1 → fn_154 2 i k j w = if cm_iin j 10 = true then fn_154_29 2 i k j w else some (false, cm_sI w 42 0 (cm_I w 42 0 + 1)) := by
    intro e
    have e1 : ¬ k = 0 := by rw [e]; decide
    unfold fn_154
    rw [if_pos e1]
    unfold fn_154_14
    rw [if_neg (fun z => z e), r3]
    rcases iin_cs j (n := 10) (by omega) with h | ⟨a, ha, rfl⟩
    · rw [h, if_neg (show ¬ (false = true) from Bool.false_ne_true)]
      rcases iin_f h (by omega) with q | q
      · rw [if_pos q]
      · by_cases q2 : j < 0
        · rw [if_pos q2]
        · rw [if_neg q2, if_pos]
          exact Int32.lt_of_lt_of_le (show (9 : Int32) < nI 10 by decide) q
    · rw [iin_nI ha (by omega), if_pos rfl, if_neg (nI_pos (by omega)), if_neg (show ¬ (9 : Int32) < nI a from nI_nlt (b := a) (a := 9) (by omega) (by omega))]
  have t2 : ¬ k = 0 → ¬ k = 1 → fn_154 2 i k j w = some (false, cm_sI w 42 0 (cm_I w 42 0 + 1)) := by
    intro e0 e1
    unfold fn_154
    rw [if_pos e0]
    unfold fn_154_14
    rw [if_pos e1, r3]
  -- both, once kind and reading are right or wrong
  have key : ∀ (n : Nat), (∀ x, Lay v c x → RelM x s → fn_241 96 i k j x = if cm_iin i (nB s) = true ∧ cm_iin j n = true ∧ nM s < 5 then fn_241_49 96 i k j x else some (false, cm_sI x 97 0 (cm_I x 97 0 + 1))) → (fn_154 2 i k j w = if cm_iin j n = true then fn_154_29 2 i k j w else some (false, cm_sI w 42 0 (cm_I w 42 0 + 1))) → n ≤ 100 → (k = 0 ∨ k = 1) → OKW (fn_154 2 i k j) (fn_241 96 i k j) w := by
    intro n hm hc hn100 hk
    by_cases hj : cm_iin j n = true
    rotate_left
    · refine ok_ref (r := false) g 0 (by omega) ?_ (fun x L1 M1 _ => ?_)
      · rw [hc, if_neg hj]
      · rw [hm x L1 M1, if_neg (fun q => hj q.2.1)]
    by_cases h5 : 5 ≤ nM s
    · refine ok_ref (r := false) g 0 (by omega) ?_ (fun x L1 M1 _ => ?_)
      · rw [hc, if_pos hj]
        simp (disch := omega) only [fn_154_29, ↓LCb L, ↓LStb L, ↓LVb L hv, ↓hasBb L V I.2.1, ↓hasTb L hv C.2.1 I.1, ↓hasPb L hv C.2.1 I.1, ↓c146b L V I.2.1, LC L, LSt L, LV L hv, h5, r1, decide_true, eq_self, Nat.le_refl, Nat.lt_irrefl, some_if, Option.bind_some, Option.bind_none, Option.some.injEq, ↓reduceIte, reduceCtorEq, Bool.false_eq_true, Bool.true_eq_false, not_true_eq_false, not_false_eq_true, cmb0, cmb1, Nat.reduceAdd, Nat.reduceMul, Nat.reduceSub, Nat.add_zero, Bool.not_eq_true, Bool.not_eq_false, Nat.reduceEqDiff, Nat.reduceLeDiff, Nat.reduceLT, Int32.reduceLT, Int32.reduceLE, iin_nI, iin_lit, iin_m1, tn_nI, tn_lit, nI_lm, nI_ml, nI_al, nI_la, nI_add, pk_mul, nI_le_l, nI_l_le, nI_lt_l, nI_l_lt, nI_eq_l, nI_l_eq, nI_eqP, nI_leP, nI_ltP, nI_m1, m1_nI, nI_ll, m1_l, l_m1]
      · rw [hm x L1 M1, if_neg (fun q => by omega)]
    have h6 : nM s < 5 := by omega
    rcases iin_cs i (n := nB s) (by omega) with h | ⟨b, hb, rfl⟩
    · refine ok_ref (r := false) g 0 (by omega) ?_ (fun x L1 M1 _ => ?_)
      · rw [hc, if_pos hj]
        simp (disch := omega) only [fn_154_29, ↓LCb L, ↓LStb L, ↓LVb L hv, ↓hasBb L V I.2.1, ↓hasTb L hv C.2.1 I.1, ↓hasPb L hv C.2.1 I.1, ↓c146b L V I.2.1, LC L, LSt L, LV L hv, h5, h, r1, decide_false, eq_self, Nat.le_refl, Nat.lt_irrefl, some_if, Option.bind_some, Option.bind_none, Option.some.injEq, ↓reduceIte, reduceCtorEq, Bool.false_eq_true, Bool.true_eq_false, not_true_eq_false, not_false_eq_true, cmb0, cmb1, Nat.reduceAdd, Nat.reduceMul, Nat.reduceSub, Nat.add_zero, Bool.not_eq_true, Bool.not_eq_false, Nat.reduceEqDiff, Nat.reduceLeDiff, Nat.reduceLT, Int32.reduceLT, Int32.reduceLE, iin_nI, iin_lit, iin_m1, tn_nI, tn_lit, nI_lm, nI_ml, nI_al, nI_la, nI_add, pk_mul, nI_le_l, nI_l_le, nI_lt_l, nI_l_lt, nI_eq_l, nI_l_eq, nI_eqP, nI_leP, nI_ltP, nI_m1, m1_nI, nI_ll, m1_l, l_m1]
      · rw [hm x L1 M1, if_neg (fun q => by rw [h] at q; exact absurd q.1 (by decide))]
    have hmx : ∀ x, Lay v c x → RelM x s → fn_241 96 (nI b) k j x = fn_241_49 96 (nI b) k j x := fun x L1 M1 => by
      rw [hm x L1 M1, if_pos ⟨iin_nI hb (by omega), hj, h6⟩]
    rw [if_pos hj] at hc
    have hc2 : fn_154 2 (nI b) k j w = fn_154_68 2 (nI b) k j w := by
      rw [hc]
      simp (disch := omega) only [fn_154_29, ↓LCb L, ↓LStb L, ↓LVb L hv, ↓hasBb L V I.2.1, ↓hasTb L hv C.2.1 I.1, ↓hasPb L hv C.2.1 I.1, ↓c146b L V I.2.1, LC L, LSt L, LV L hv, h5, decide_false, eq_self, Nat.le_refl, Nat.lt_irrefl, some_if, Option.bind_some, Option.bind_none, Option.some.injEq, ↓reduceIte, reduceCtorEq, Bool.false_eq_true, Bool.true_eq_false, not_true_eq_false, not_false_eq_true, cmb0, cmb1, Nat.reduceAdd, Nat.reduceMul, Nat.reduceSub, Nat.add_zero, Bool.not_eq_true, Bool.not_eq_false, Nat.reduceEqDiff, Nat.reduceLeDiff, Nat.reduceLT, Int32.reduceLT, Int32.reduceLE, iin_nI, iin_lit, iin_m1, tn_nI, tn_lit, nI_lm, nI_ml, nI_al, nI_la, nI_add, pk_mul, nI_le_l, nI_l_le, nI_lt_l, nI_l_lt, nI_eq_l, nI_l_eq, nI_eqP, nI_leP, nI_ltP, nI_m1, m1_nI, nI_ll, m1_l, l_m1]
    have ful := fulR L V I.2.1
    by_cases h3 : nR s = 300
    · refine ok_ref (r := false) g 1 (by omega) ?_ (fun x L1 M1 _ => ?_)
      · rw [hc2]
        simp (disch := omega) only [fn_154_68, ↓LCb L, ↓LStb L, ↓LVb L hv, ↓hasBb L V I.2.1, ↓hasTb L hv C.2.1 I.1, ↓hasPb L hv C.2.1 I.1, ↓c146b L V I.2.1, LC L, LSt L, LV L hv, ful, h3, c148 L, decide_true, eq_self, Nat.le_refl, Nat.lt_irrefl, some_if, Option.bind_some, Option.bind_none, Option.some.injEq, ↓reduceIte, reduceCtorEq, Bool.false_eq_true, Bool.true_eq_false, not_true_eq_false, not_false_eq_true, cmb0, cmb1, Nat.reduceAdd, Nat.reduceMul, Nat.reduceSub, Nat.add_zero, Bool.not_eq_true, Bool.not_eq_false, Nat.reduceEqDiff, Nat.reduceLeDiff, Nat.reduceLT, Int32.reduceLT, Int32.reduceLE, iin_nI, iin_lit, iin_m1, tn_nI, tn_lit, nI_lm, nI_ml, nI_al, nI_la, nI_add, pk_mul, nI_le_l, nI_l_le, nI_lt_l, nI_l_lt, nI_eq_l, nI_l_eq, nI_eqP, nI_leP, nI_ltP, nI_m1, m1_nI, nI_ll, m1_l, l_m1]
      · rw [hmx x L1 M1]
        simp (disch := omega) only [fn_241_49, ↓LMb L1, ↓mBoxb L1 M1 I.2.1, ↓mWhob L1 M1 I.1, ↓mThingb L1 M1 I.1, ↓mAheadb L1 M1 I.2.1, LM L1, RM M1, hR.1, h3, m198 L1, eq_self, Nat.le_refl, Nat.lt_irrefl, some_if, Option.bind_some, Option.bind_none, Option.some.injEq, ↓reduceIte, reduceCtorEq, Bool.false_eq_true, Bool.true_eq_false, not_true_eq_false, not_false_eq_true, cmb0, cmb1, Nat.reduceAdd, Nat.reduceMul, Nat.reduceSub, Nat.add_zero, Bool.not_eq_true, Bool.not_eq_false, Nat.reduceEqDiff, Nat.reduceLeDiff, Nat.reduceLT, Int32.reduceLT, Int32.reduceLE, iin_nI, iin_lit, iin_m1, tn_nI, tn_lit, nI_lm, nI_ml, nI_al, nI_la, nI_add, pk_mul, nI_le_l, nI_l_le, nI_lt_l, nI_l_lt, nI_eq_l, nI_l_eq, nI_eqP, nI_leP, nI_ltP, nI_m1, m1_nI, nI_ll, m1_l, l_m1]
    have h4 : nR s < 300 := by omega
    obtain ⟨a, ha, rfl⟩ : ∃ a, a < n ∧ j = nI a := by
      rcases iin_cs j (n := n) (by omega) with h | h
      · rw [h] at hj; cases hj
      · exact h
    have hkd : rg (2 + k) 4 ∧ (2 + k ≠ 1) := by
      rcases hk with rfl | rfl
      · exact ⟨⟨2, by omega, rfl⟩, by decide⟩
      · exact ⟨⟨3, by omega, rfl⟩, by decide⟩
    refine ok_ex (r := true) (s' := addR s b (2 + k) (-1) (-1) (nI a) 0) g ?_ (fun x L1 M1 => ?_) rec_sa (InvS_addR I.2.1 hb h4 h6 hkd.1 (Or.inl rfl) ⟨a, by omega, rfl⟩ ⟨0, by omega, rfl⟩ (fun e => absurd e (by decide)) (fun e => absurd e hkd.2))
    · obtain ⟨y, y1, y2, y3, y4, y5⟩ := c105 L V I.2.1 h4 hb (kd := 2 + k) (yb := -1) (to' := -1) (x := nI a)
      rw [if_pos rfl] at y3
      refine ⟨y, ?_, y2, y3, y4, y5⟩
      rw [hc2]
      rcases hk with rfl | rfl
      · have y1' : fn_105 30 (nI b) 2 (-1) (-1) (nI a) w = some y := y1
        simp (disch := omega) only [fn_154_68, fn_154_87, ↓LCb L, ↓LStb L, ↓LVb L hv, ↓hasBb L V I.2.1, ↓hasTb L hv C.2.1 I.1, ↓hasPb L hv C.2.1 I.1, ↓c146b L V I.2.1, LC L, LSt L, LV L hv, ful, h3, y1', decide_false, eq_self, Nat.le_refl, Nat.lt_irrefl, some_if, Option.bind_some, Option.bind_none, Option.some.injEq, ↓reduceIte, reduceCtorEq, Bool.false_eq_true, Bool.true_eq_false, not_true_eq_false, not_false_eq_true, cmb0, cmb1, Nat.reduceAdd, Nat.reduceMul, Nat.reduceSub, Nat.add_zero, Bool.not_eq_true, Bool.not_eq_false, Nat.reduceEqDiff, Nat.reduceLeDiff, Nat.reduceLT, Int32.reduceLT, Int32.reduceLE, iin_nI, iin_lit, iin_m1, tn_nI, tn_lit, nI_lm, nI_ml, nI_al, nI_la, nI_add, pk_mul, nI_le_l, nI_l_le, nI_lt_l, nI_l_lt, nI_eq_l, nI_l_eq, nI_eqP, nI_leP, nI_ltP, nI_m1, m1_nI, nI_ll, m1_l, l_m1]
      · have y1' : fn_105 30 (nI b) 3 (-1) (-1) (nI a) w = some y := y1
        simp (disch := omega) only [fn_154_68, fn_154_87, ↓LCb L, ↓LStb L, ↓LVb L hv, ↓hasBb L V I.2.1, ↓hasTb L hv C.2.1 I.1, ↓hasPb L hv C.2.1 I.1, ↓c146b L V I.2.1, LC L, LSt L, LV L hv, ful, h3, y1', decide_false, eq_self, Nat.le_refl, Nat.lt_irrefl, some_if, Option.bind_some, Option.bind_none, Option.some.injEq, ↓reduceIte, reduceCtorEq, Bool.false_eq_true, Bool.true_eq_false, not_true_eq_false, not_false_eq_true, cmb0, cmb1, Nat.reduceAdd, Nat.reduceMul, Nat.reduceSub, Nat.add_zero, Bool.not_eq_true, Bool.not_eq_false, Nat.reduceEqDiff, Nat.reduceLeDiff, Nat.reduceLT, Int32.reduceLT, Int32.reduceLE, iin_nI, iin_lit, iin_m1, tn_nI, tn_lit, nI_lm, nI_ml, nI_al, nI_la, nI_add, pk_mul, nI_le_l, nI_l_le, nI_lt_l, nI_l_lt, nI_eq_l, nI_l_eq, nI_eqP, nI_leP, nI_ltP, nI_m1, m1_nI, nI_ll, m1_l, l_m1]
    · obtain ⟨y, y1, y2, y3, y4, y5⟩ := m238 L1 M1 I.2.1 h4 hb (kd := 2 + k) (yb := -1) (to' := -1) (xv := nI a)
      rw [if_pos rfl] at y3
      refine ⟨y, ?_, y2, y3, y4, y5⟩
      rw [hmx x L1 M1]
      simp (disch := omega) only [fn_241_49, fn_241_65, ↓LMb L1, ↓mBoxb L1 M1 I.2.1, ↓mWhob L1 M1 I.1, ↓mThingb L1 M1 I.1, ↓mAheadb L1 M1 I.2.1, LM L1, RM M1, hR.1, h3, y1, eq_self, Nat.le_refl, Nat.lt_irrefl, some_if, Option.bind_some, Option.bind_none, Option.some.injEq, ↓reduceIte, reduceCtorEq, Bool.false_eq_true, Bool.true_eq_false, not_true_eq_false, not_false_eq_true, cmb0, cmb1, Nat.reduceAdd, Nat.reduceMul, Nat.reduceSub, Nat.add_zero, Bool.not_eq_true, Bool.not_eq_false, Nat.reduceEqDiff, Nat.reduceLeDiff, Nat.reduceLT, Int32.reduceLT, Int32.reduceLE, iin_nI, iin_lit, iin_m1, tn_nI, tn_lit, nI_lm, nI_ml, nI_al, nI_la, nI_add, pk_mul, nI_le_l, nI_l_le, nI_lt_l, nI_l_lt, nI_eq_l, nI_l_eq, nI_eqP, nI_leP, nI_ltP, nI_m1, m1_nI, nI_ll, m1_l, l_m1]
  by_cases k0 : k = 0
  · subst k0
    refine key 100 (fun x L1 M1 => ?_) (t0 rfl) (by omega) (Or.inl rfl)
    cases h1 : cm_iin i (nB s) <;> cases h2 : cm_iin j 100 <;> by_cases h5 : nM s < 5 <;> simp (disch := omega) only [fn_241, ↓LMb L1, ↓mBoxb L1 M1 I.2.1, ↓mWhob L1 M1 I.1, ↓mThingb L1 M1 I.1, ↓mAheadb L1 M1 I.2.1, LM L1, d1, d3, h1, h2, h5, r2 x L1, decide_true, decide_false, and_true, true_and, and_false, false_and, and_self, eq_self, Nat.le_refl, Nat.lt_irrefl, some_if, Option.bind_some, Option.bind_none, Option.some.injEq, ↓reduceIte, reduceCtorEq, Bool.false_eq_true, Bool.true_eq_false, not_true_eq_false, not_false_eq_true, cmb0, cmb1, Nat.reduceAdd, Nat.reduceMul, Nat.reduceSub, Nat.add_zero, Bool.not_eq_true, Bool.not_eq_false, Nat.reduceEqDiff, Nat.reduceLeDiff, Nat.reduceLT, Int32.reduceLT, Int32.reduceLE, iin_nI, iin_lit, iin_m1, tn_nI, tn_lit, nI_lm, nI_ml, nI_al, nI_la, nI_add, pk_mul, nI_le_l, nI_l_le, nI_lt_l, nI_l_lt, nI_eq_l, nI_l_eq, nI_eqP, nI_leP, nI_ltP, nI_m1, m1_nI, nI_ll, m1_l, l_m1]
  · by_cases k1 : k = 1
    · subst k1
      refine key 10 (fun x L1 M1 => ?_) (t1 rfl) (by omega) (Or.inr rfl)
      cases h1 : cm_iin i (nB s) <;> cases h2 : cm_iin j 10 <;> by_cases h5 : nM s < 5 <;> simp (disch := omega) only [fn_241, ↓LMb L1, ↓mBoxb L1 M1 I.2.1, ↓mWhob L1 M1 I.1, ↓mThingb L1 M1 I.1, ↓mAheadb L1 M1 I.2.1, LM L1, d1, d2, h1, h2, h5, r2 x L1, decide_true, decide_false, and_true, true_and, and_false, false_and, and_self, eq_self, Nat.le_refl, Nat.lt_irrefl, some_if, Option.bind_some, Option.bind_none, Option.some.injEq, ↓reduceIte, reduceCtorEq, Bool.false_eq_true, Bool.true_eq_false, not_true_eq_false, not_false_eq_true, cmb0, cmb1, Nat.reduceAdd, Nat.reduceMul, Nat.reduceSub, Nat.add_zero, Bool.not_eq_true, Bool.not_eq_false, Nat.reduceEqDiff, Nat.reduceLeDiff, Nat.reduceLT, Int32.reduceLT, Int32.reduceLE, iin_nI, iin_lit, iin_m1, tn_nI, tn_lit, nI_lm, nI_ml, nI_al, nI_la, nI_add, pk_mul, nI_le_l, nI_l_le, nI_lt_l, nI_l_lt, nI_eq_l, nI_l_eq, nI_eqP, nI_leP, nI_ltP, nI_m1, m1_nI, nI_ll, m1_l, l_m1]
    · have hk2 : cm_iin k 2 = false := by
        rcases iin_cs k (n := 2) (by omega) with h | ⟨a, ha, e⟩
        · exact h
        · rcases (show a = 0 ∨ a = 1 by omega) with rfl | rfl
          · exact absurd e k0
          · exact absurd e k1
      refine ok_ref (r := false) g 0 (by omega) (t2 k0 k1) (fun x L1 M1 _ => ?_)
      cases h1 : cm_iin i (nB s) <;> simp (disch := omega) only [fn_241, ↓LMb L1, ↓mBoxb L1 M1 I.2.1, ↓mWhob L1 M1 I.1, ↓mThingb L1 M1 I.1, ↓mAheadb L1 M1 I.2.1, LM L1, d1, hk2, h1, r2 x L1, eq_self, Nat.le_refl, Nat.lt_irrefl, some_if, Option.bind_some, Option.bind_none, Option.some.injEq, ↓reduceIte, reduceCtorEq, Bool.false_eq_true, Bool.true_eq_false, not_true_eq_false, not_false_eq_true, cmb0, cmb1, Nat.reduceAdd, Nat.reduceMul, Nat.reduceSub, Nat.add_zero, Bool.not_eq_true, Bool.not_eq_false, Nat.reduceEqDiff, Nat.reduceLeDiff, Nat.reduceLT, Int32.reduceLT, Int32.reduceLE, iin_nI, iin_lit, iin_m1, tn_nI, tn_lit, nI_lm, nI_ml, nI_al, nI_la, nI_add, pk_mul, nI_le_l, nI_l_le, nI_lt_l, nI_l_lt, nI_eq_l, nI_l_eq, nI_eqP, nI_leP, nI_ltP, nI_m1, m1_nI, nI_ll, m1_l, l_m1]
end SELL
