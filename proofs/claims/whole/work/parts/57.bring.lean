/-! bring, holds -/
section BRING
variable {v c u n : Nat} {w w' : cm_W} {s s' : St}
theorem InvS.isBack (h : InvS s) {l : Nat} {x : Int32} (hx : rg x 2) : InvS (cm_up s 129 l x) := by
  have e1 : nB (cm_up s 129 l x) = nB s := by unfold nB; rw [u_ne (by omega)]
  have e2 : nP (cm_up s 129 l x) = nP s := by unfold nP; rw [u_ne (by omega)]
  have e3 : nR (cm_up s 129 l x) = nR s := by unfold nR; rw [u_ne (by omega)]
  have e4 : nL (cm_up s 129 l x) = nL s := by unfold nL; rw [u_ne (by omega)]
  have e5 : nK (cm_up s 129 l x) = nK s := by unfold nK; rw [u_ne (by omega)]
  have e6 : nT (cm_up s 129 l x) = nT s := by unfold nT; rw [u_ne (by omega)]
  have e7 : nM (cm_up s 129 l x) = nM s := by unfold nM; rw [u_ne (by omega)]
  have e8 : nIn (cm_up s 129 l x) = nIn s := by unfold nIn; rw [e1]; simp (disch := omega) only [u_ne]
  obtain ⟨i1, i2, i3, i4, i5, i6, i7, i8, i9, i10, i11⟩ := h
  unfold InvS
  rw [e1, e2, e3, e4, e5, e6, e7, e8]
  simp (disch := omega) only [u_ne]
  refine ⟨i1, i2, i3, i4, i5, i6, i7, i8, i9, fun y hy => ?_, i11⟩
  obtain ⟨j1, j2, j3, j4, j5, j6⟩ := i10 y hy
  refine ⟨j1, j2, j3, j4, j5, ?_⟩
  by_cases q : y = l
  · subst q; rw [u_eq]; exact hx
  · rw [u_nk q]; exact j6
theorem m258 {x : cm_W} (L1 : Lay v c x) (M1 : RelM x s) {l b p q : Nat} {k : Int32} (hl : l < 20) (hb : b < 40) (hp : p < 12) (hq : q < 12) (ep : s 125 l = nI p) (eq : s 126 l = nI q) : ∃ y, fn_258_104 96 (nI l) (nI b) k x = some (true, y) ∧ Lay v c y ∧ RelM y (cm_up (cm_up (pay s p q k) 116 b (nI p)) 129 l 1) ∧ (∀ a', a' < 96 → ∀ j, cm_I y a' j = cm_I x a' j) ∧ cm_L y = cm_L x := by
  have tl : (nI l).toNatClampNeg = l := tn_nI (by omega)
  have tb : (nI b).toNatClampNeg = b := tn_nI (by omega)
  have tp : (nI p).toNatClampNeg = p := tn_nI (by omega)
  have tq : (nI q).toNatClampNeg = q := tn_nI (by omega)
  have ep0 : cm_I x 125 l = nI p := (M1 125 l (decide_eq_true hl)).trans ep
  have eq0 : cm_I x 126 l = nI q := (M1 126 l (decide_eq_true hl)).trans eq
  have g125 : cm_ga x .int 125 (nI l) = true := by rw [ga_of (n := 20) ((L1.sh (by decide) (by decide)).trans rfl)]; exact iin_nI (by omega) (by decide)
  have g126 : cm_ga x .int 126 (nI l) = true := by rw [ga_of (n := 20) ((L1.sh (by decide) (by decide)).trans rfl)]; exact iin_nI (by omega) (by decide)
  have g129 : cm_ga x .int 129 (nI l) = true := by rw [ga_of (n := 20) ((L1.sh (by decide) (by decide)).trans rfl)]; exact iin_nI (by omega) (by decide)
  have g105p : cm_ga x .int 105 (nI p) = true := by rw [ga_of (n := 24) ((L1.sh (by decide) (by decide)).trans rfl)]; exact iin_nI (by omega) (by decide)
  have g105q : cm_ga x .int 105 (nI q) = true := by rw [ga_of (n := 24) ((L1.sh (by decide) (by decide)).trans rfl)]; exact iin_nI (by omega) (by decide)
  have g116 : cm_ga x .int 116 (nI b) = true := by rw [ga_of (n := 40) ((L1.sh (by decide) (by decide)).trans rfl)]; exact iin_nI (by omega) (by decide)
  have w105 : cm_w2 96 143 105 = true := by decide
  have w116 : cm_w2 96 143 116 = true := by decide
  have w129 : cm_w2 96 143 129 = true := by decide
  rw [fn_258_104, if_pos (S96 L1), R96_27 L1, R96_53 L1, if_pos g125, tl, ep0, if_pos g105p, if_pos w105, tp]
  obtain ⟨y1, hy1⟩ : ∃ y, y = cm_sI x 105 p (cm_I x 105 p - k) := ⟨_, rfl⟩
  rw [← hy1]
  have L_1 : Lay v c y1 := by rw [hy1]; exact L1
  have eq1 : cm_I y1 126 l = nI q := by rw [hy1, I_ne (by decide)]; exact eq0
  have ep1 : cm_I y1 125 l = nI p := by rw [hy1, I_ne (by decide)]; exact ep0
  rw [R96_27 L_1, R96_54 L_1, if_pos g126, eq1, if_pos g105q, if_pos w105, tq]
  obtain ⟨y2, hy2⟩ : ∃ y, y = cm_sI y1 105 q (cm_I y1 105 q + k) := ⟨_, rfl⟩
  rw [← hy2]
  have L_2 : Lay v c y2 := by rw [hy2]; exact L_1
  have ep2 : cm_I y2 125 l = nI p := by rw [hy2, I_ne (by decide)]; exact ep1
  have M_2 : RelM y2 (pay s p q k) := by rw [hy2, hy1]; exact pay_lift M1 hp hq
  rw [R96_42 L_2, R96_53 L_2, if_pos g125, if_pos g116, if_pos w116, ep2, tb]
  obtain ⟨y3, hy3⟩ : ∃ y, y = cm_sI y2 116 b (nI p) := ⟨_, rfl⟩
  rw [← hy3]
  have L_3 : Lay v c y3 := by rw [hy3]; exact L_2
  have M_3 : RelM y3 (cm_up (pay s p q k) 116 b (nI p)) := by rw [hy3]; exact M_2.up
  rw [R96_57 L_3, if_pos g129, if_pos w129]
  refine ⟨_, rfl, ?_, M_3.up, fun a' ha' j => ?_, ?_⟩
  · exact L_3
  · rw [hy3, hy2, hy1]; simp (disch := omega) only [I_ne]
  · rw [hy3, hy2, hy1]; rfl
theorem w_bring (g : GG v c w s) (i : Int32) : OKW (fn_164 2 i) (fn_258 96 i) w := by
  obtain ⟨L, M, C, Z, I⟩ := id g
  have hv := L.1
  have V := C.2.2.1
  have hB := I.2.1.2.1
  have hM := I.2.1.1
  have hP := I.1.2.1
  have hL := I.2.1.2.2.2.1
  have r1 : fn_164_18 2 w = some (false, cm_sI w 42 0 (cm_I w 42 0 + 1)) := by
    simp (disch := omega) only [fn_164_18, LC L, c148 L, eq_self, Nat.le_refl, Nat.lt_irrefl, some_if, Option.bind_some, Option.bind_none, Option.some.injEq, ↓reduceIte, reduceCtorEq, Bool.false_eq_true, Bool.true_eq_false, not_true_eq_false, not_false_eq_true, cmb0, cmb1, Nat.reduceAdd, Nat.reduceMul, Nat.reduceSub, Nat.add_zero, Bool.not_eq_true, Bool.not_eq_false, Nat.reduceEqDiff, Nat.reduceLeDiff, Nat.reduceLT, Int32.reduceLT, Int32.reduceLE, iin_nI, iin_lit, iin_m1, tn_nI, tn_lit, nI_lm, nI_ml, nI_al, nI_la, nI_add, pk_mul, nI_le_l, nI_l_le, nI_lt_l, nI_l_lt, nI_eq_l, nI_l_eq, nI_eqP, nI_leP, nI_ltP, nI_m1, m1_nI, nI_ll, m1_l, l_m1]
  have r2 : ∀ x, Lay v c x → fn_258_31 96 x = some (false, cm_sI x 97 0 (cm_I x 97 0 + 1)) := fun x L1 => by
    simp (disch := omega) only [fn_258_31, LM L1, m198 L1, eq_self, Nat.le_refl, Nat.lt_irrefl, some_if, Option.bind_some, Option.bind_none, Option.some.injEq, ↓reduceIte, reduceCtorEq, Bool.false_eq_true, Bool.true_eq_false, not_true_eq_false, not_false_eq_true, cmb0, cmb1, Nat.reduceAdd, Nat.reduceMul, Nat.reduceSub, Nat.add_zero, Bool.not_eq_true, Bool.not_eq_false, Nat.reduceEqDiff, Nat.reduceLeDiff, Nat.reduceLT, Int32.reduceLT, Int32.reduceLE, iin_nI, iin_lit, iin_m1, tn_nI, tn_lit, nI_lm, nI_ml, nI_al, nI_la, nI_add, pk_mul, nI_le_l, nI_l_le, nI_lt_l, nI_l_lt, nI_eq_l, nI_l_eq, nI_eqP, nI_leP, nI_ltP, nI_m1, m1_nI, nI_ll, m1_l, l_m1]
  have r3 : ∀ x, Lay v c x → fn_258_98 96 x = some (false, cm_sI x 97 0 (cm_I x 97 0 + 1)) := fun x L1 => by
    simp (disch := omega) only [fn_258_98, LM L1, m198 L1, eq_self, Nat.le_refl, Nat.lt_irrefl, some_if, Option.bind_some, Option.bind_none, Option.some.injEq, ↓reduceIte, reduceCtorEq, Bool.false_eq_true, Bool.true_eq_false, not_true_eq_false, not_false_eq_true, cmb0, cmb1, Nat.reduceAdd, Nat.reduceMul, Nat.reduceSub, Nat.add_zero, Bool.not_eq_true, Bool.not_eq_false, Nat.reduceEqDiff, Nat.reduceLeDiff, Nat.reduceLT, Int32.reduceLT, Int32.reduceLE, iin_nI, iin_lit, iin_m1, tn_nI, tn_lit, nI_lm, nI_ml, nI_al, nI_la, nI_add, pk_mul, nI_le_l, nI_l_le, nI_lt_l, nI_l_lt, nI_eq_l, nI_l_eq, nI_eqP, nI_leP, nI_ltP, nI_m1, m1_nI, nI_ll, m1_l, l_m1]
  have d0 : ∀ w, fn_194 w i 0 (nI (nL s) - 1) = some (cm_iin i (nL s)) := fun w => isIn_ok w i (by omega)
  have e51 : ∀ x, RelM x s → cm_I x 96 51 = nI (nL s) := fun x M1 => ((RM M1).1.2.2.2.2.2.2.2.2.2.2.2.2.1).trans hL.1
  by_cases h5 : 5 ≤ nM s
  · have h6 : ¬ nM s < 5 := by omega
    refine ok_ref (r := false) g 0 (by omega) ?_ (fun x L1 M1 _ => ?_)
    · simp (disch := omega) only [fn_164, ↓LCb L, ↓LStb L, ↓LVb L hv, ↓hasBb L V I.2.1, ↓hasTb L hv C.2.1 I.1, ↓hasPb L hv C.2.1 I.1, ↓c146b L V I.2.1, LC L, LSt L, LV L hv, h5, r1, decide_true, eq_self, Nat.le_refl, Nat.lt_irrefl, some_if, Option.bind_some, Option.bind_none, Option.some.injEq, ↓reduceIte, reduceCtorEq, Bool.false_eq_true, Bool.true_eq_false, not_true_eq_false, not_false_eq_true, cmb0, cmb1, Nat.reduceAdd, Nat.reduceMul, Nat.reduceSub, Nat.add_zero, Bool.not_eq_true, Bool.not_eq_false, Nat.reduceEqDiff, Nat.reduceLeDiff, Nat.reduceLT, Int32.reduceLT, Int32.reduceLE, iin_nI, iin_lit, iin_m1, tn_nI, tn_lit, nI_lm, nI_ml, nI_al, nI_la, nI_add, pk_mul, nI_le_l, nI_l_le, nI_lt_l, nI_l_lt, nI_eq_l, nI_l_eq, nI_eqP, nI_leP, nI_ltP, nI_m1, m1_nI, nI_ll, m1_l, l_m1]
    · rcases iin_cs i (n := nL s) (by omega) with h | ⟨l, hl, rfl⟩
      · simp (disch := omega) only [fn_258, ↓LMb L1, ↓mBoxb L1 M1 I.2.1, ↓mWhob L1 M1 I.1, ↓mThingb L1 M1 I.1, ↓mAheadb L1 M1 I.2.1, LM L1, e51 x M1, d0, h, r2 x L1, eq_self, Nat.le_refl, Nat.lt_irrefl, some_if, Option.bind_some, Option.bind_none, Option.some.injEq, ↓reduceIte, reduceCtorEq, Bool.false_eq_true, Bool.true_eq_false, not_true_eq_false, not_false_eq_true, cmb0, cmb1, Nat.reduceAdd, Nat.reduceMul, Nat.reduceSub, Nat.add_zero, Bool.not_eq_true, Bool.not_eq_false, Nat.reduceEqDiff, Nat.reduceLeDiff, Nat.reduceLT, Int32.reduceLT, Int32.reduceLE, iin_nI, iin_lit, iin_m1, tn_nI, tn_lit, nI_lm, nI_ml, nI_al, nI_la, nI_add, pk_mul, nI_le_l, nI_l_le, nI_lt_l, nI_l_lt, nI_eq_l, nI_l_eq, nI_eqP, nI_leP, nI_ltP, nI_m1, m1_nI, nI_ll, m1_l, l_m1]
      · by_cases q : s 129 l = 1 <;> simp (disch := omega) only [fn_258, ↓LMb L1, ↓mBoxb L1 M1 I.2.1, ↓mWhob L1 M1 I.1, ↓mThingb L1 M1 I.1, ↓mAheadb L1 M1 I.2.1, LM L1, RM M1, hL.1, d0, q, h6, r2 x L1, decide_false, eq_self, Nat.le_refl, Nat.lt_irrefl, some_if, Option.bind_some, Option.bind_none, Option.some.injEq, ↓reduceIte, reduceCtorEq, Bool.false_eq_true, Bool.true_eq_false, not_true_eq_false, not_false_eq_true, cmb0, cmb1, Nat.reduceAdd, Nat.reduceMul, Nat.reduceSub, Nat.add_zero, Bool.not_eq_true, Bool.not_eq_false, Nat.reduceEqDiff, Nat.reduceLeDiff, Nat.reduceLT, Int32.reduceLT, Int32.reduceLE, iin_nI, iin_lit, iin_m1, tn_nI, tn_lit, nI_lm, nI_ml, nI_al, nI_la, nI_add, pk_mul, nI_le_l, nI_l_le, nI_lt_l, nI_l_lt, nI_eq_l, nI_l_eq, nI_eqP, nI_leP, nI_ltP, nI_m1, m1_nI, nI_ll, m1_l, l_m1]
  have h6 : nM s < 5 := by omega
  rcases iin_cs i (n := nL s) (by omega) with h | ⟨l, hl, rfl⟩
  · refine ok_ref (r := false) g 0 (by omega) ?_ (fun x L1 M1 _ => ?_)
    · have e0 : fn_111 w 30 i = some false := by
        simp (disch := omega) only [fn_111, ↓LStb L, LSt L, getLo L V I.2.1 h, eq_self, Nat.le_refl, Nat.lt_irrefl, some_if, Option.bind_some, Option.bind_none, Option.some.injEq, ↓reduceIte, reduceCtorEq, Bool.false_eq_true, Bool.true_eq_false, not_true_eq_false, not_false_eq_true, cmb0, cmb1, Nat.reduceAdd, Nat.reduceMul, Nat.reduceSub, Nat.add_zero, Bool.not_eq_true, Bool.not_eq_false, Nat.reduceEqDiff, Nat.reduceLeDiff, Nat.reduceLT, Int32.reduceLT, Int32.reduceLE, iin_nI, iin_lit, iin_m1, tn_nI, tn_lit, nI_lm, nI_ml, nI_al, nI_la, nI_add, pk_mul, nI_le_l, nI_l_le, nI_lt_l, nI_l_lt, nI_eq_l, nI_l_eq, nI_eqP, nI_leP, nI_ltP, nI_m1, m1_nI, nI_ll, m1_l, l_m1]
      simp (disch := omega) only [fn_164, ↓LCb L, ↓LStb L, ↓LVb L hv, ↓hasBb L V I.2.1, ↓hasTb L hv C.2.1 I.1, ↓hasPb L hv C.2.1 I.1, ↓c146b L V I.2.1, LC L, LSt L, LV L hv, h5, e0, r1, decide_false, eq_self, Nat.le_refl, Nat.lt_irrefl, some_if, Option.bind_some, Option.bind_none, Option.some.injEq, ↓reduceIte, reduceCtorEq, Bool.false_eq_true, Bool.true_eq_false, not_true_eq_false, not_false_eq_true, cmb0, cmb1, Nat.reduceAdd, Nat.reduceMul, Nat.reduceSub, Nat.add_zero, Bool.not_eq_true, Bool.not_eq_false, Nat.reduceEqDiff, Nat.reduceLeDiff, Nat.reduceLT, Int32.reduceLT, Int32.reduceLE, iin_nI, iin_lit, iin_m1, tn_nI, tn_lit, nI_lm, nI_ml, nI_al, nI_la, nI_add, pk_mul, nI_le_l, nI_l_le, nI_lt_l, nI_l_lt, nI_eq_l, nI_l_eq, nI_eqP, nI_leP, nI_ltP, nI_m1, m1_nI, nI_ll, m1_l, l_m1]
    · simp (disch := omega) only [fn_258, ↓LMb L1, ↓mBoxb L1 M1 I.2.1, ↓mWhob L1 M1 I.1, ↓mThingb L1 M1 I.1, ↓mAheadb L1 M1 I.2.1, LM L1, e51 x M1, d0, h, r2 x L1, eq_self, Nat.le_refl, Nat.lt_irrefl, some_if, Option.bind_some, Option.bind_none, Option.some.injEq, ↓reduceIte, reduceCtorEq, Bool.false_eq_true, Bool.true_eq_false, not_true_eq_false, not_false_eq_true, cmb0, cmb1, Nat.reduceAdd, Nat.reduceMul, Nat.reduceSub, Nat.add_zero, Bool.not_eq_true, Bool.not_eq_false, Nat.reduceEqDiff, Nat.reduceLeDiff, Nat.reduceLT, Int32.reduceLT, Int32.reduceLE, iin_nI, iin_lit, iin_m1, tn_nI, tn_lit, nI_lm, nI_ml, nI_al, nI_la, nI_add, pk_mul, nI_le_l, nI_l_le, nI_lt_l, nI_l_lt, nI_eq_l, nI_l_eq, nI_eqP, nI_leP, nI_ltP, nI_m1, m1_nI, nI_ll, m1_l, l_m1]
  obtain ⟨⟨b, hb, eb⟩, ⟨p, hp, ep⟩, ⟨q, hq, eq⟩, ⟨a, ha, ea⟩, ⟨m, hm, em⟩, ⟨z, hz, ez⟩⟩ := I.2.1.2.2.2.2.2.2.2.2.2.1 l hl
  have k0 : fn_1 w 35 (nI l) 0 = some (nI b) := (getL (k := 0) L V I.2.1 hl (by decide)).trans (congrArg some eb)
  have k1 : fn_1 w 35 (nI l) 1 = some (nI p) := (getL (k := 1) L V I.2.1 hl (by decide)).trans (congrArg some ep)
  have k2 : fn_1 w 35 (nI l) 2 = some (nI q) := (getL (k := 2) L V I.2.1 hl (by decide)).trans (congrArg some eq)
  have k3 : fn_1 w 35 (nI l) 3 = some (nI a) := (getL (k := 3) L V I.2.1 hl (by decide)).trans (congrArg some ea)
  have k4 : fn_1 w 35 (nI l) 4 = some (nI m) := (getL (k := 4) L V I.2.1 hl (by decide)).trans (congrArg some em)
  have k5 : fn_1 w 35 (nI l) 5 = some (nI z) := (getL (k := 5) L V I.2.1 hl (by decide)).trans (congrArg some ez)
  have kb : fn_108 w 30 (nI b) = some (decide (s 117 b = -1)) := by
    rw [c108 L V I.2.1, iin_nI hb (by omega), tn_nIe (by omega)]; rfl
  have ow : fn_110 w 30 (nI l) = some (nI (a + m)) := by
    simp (disch := omega) only [fn_110, ↓LStb L, LSt L, k3, k4, eq_self, Nat.le_refl, Nat.lt_irrefl, some_if, Option.bind_some, Option.bind_none, Option.some.injEq, ↓reduceIte, reduceCtorEq, Bool.false_eq_true, Bool.true_eq_false, not_true_eq_false, not_false_eq_true, cmb0, cmb1, Nat.reduceAdd, Nat.reduceMul, Nat.reduceSub, Nat.add_zero, Bool.not_eq_true, Bool.not_eq_false, Nat.reduceEqDiff, Nat.reduceLeDiff, Nat.reduceLT, Int32.reduceLT, Int32.reduceLE, iin_nI, iin_lit, iin_m1, tn_nI, tn_lit, nI_lm, nI_ml, nI_al, nI_la, nI_add, pk_mul, nI_le_l, nI_l_le, nI_lt_l, nI_l_lt, nI_eq_l, nI_l_eq, nI_eqP, nI_leP, nI_ltP, nI_m1, m1_nI, nI_ll, m1_l, l_m1]
  have f116 : ∀ x, RelM x s → cm_I x 116 b = s 116 b := fun x M1 => M1 116 b (decide_eq_true (show b < 40 by omega))
  have f117 : ∀ x, RelM x s → cm_I x 117 b = s 117 b := fun x M1 => M1 117 b (decide_eq_true (show b < 40 by omega))
  have f105 : ∀ x, RelM x s → cm_I x 105 p = s 105 p := fun x M1 => M1 105 p (decide_eq_true (show p < 12 by omega))
  by_cases z0 : z = 0
  rotate_left
  · have z1 : z = 1 := by omega
    subst z1
    refine ok_ref (r := false) g 0 (by omega) ?_ (fun x L1 M1 _ => ?_)
    · have e0 : fn_111 w 30 (nI l) = some false := by
        simp (disch := omega) only [fn_111, ↓LStb L, LSt L, k0, k5, eq_self, Nat.le_refl, Nat.lt_irrefl, some_if, Option.bind_some, Option.bind_none, Option.some.injEq, ↓reduceIte, reduceCtorEq, Bool.false_eq_true, Bool.true_eq_false, not_true_eq_false, not_false_eq_true, cmb0, cmb1, Nat.reduceAdd, Nat.reduceMul, Nat.reduceSub, Nat.add_zero, Bool.not_eq_true, Bool.not_eq_false, Nat.reduceEqDiff, Nat.reduceLeDiff, Nat.reduceLT, Int32.reduceLT, Int32.reduceLE, iin_nI, iin_lit, iin_m1, tn_nI, tn_lit, nI_lm, nI_ml, nI_al, nI_la, nI_add, pk_mul, nI_le_l, nI_l_le, nI_lt_l, nI_l_lt, nI_eq_l, nI_l_eq, nI_eqP, nI_leP, nI_ltP, nI_m1, m1_nI, nI_ll, m1_l, l_m1]
      simp (disch := omega) only [fn_164, ↓LCb L, ↓LStb L, ↓LVb L hv, ↓hasBb L V I.2.1, ↓hasTb L hv C.2.1 I.1, ↓hasPb L hv C.2.1 I.1, ↓c146b L V I.2.1, LC L, LSt L, LV L hv, h5, e0, r1, decide_false, eq_self, Nat.le_refl, Nat.lt_irrefl, some_if, Option.bind_some, Option.bind_none, Option.some.injEq, ↓reduceIte, reduceCtorEq, Bool.false_eq_true, Bool.true_eq_false, not_true_eq_false, not_false_eq_true, cmb0, cmb1, Nat.reduceAdd, Nat.reduceMul, Nat.reduceSub, Nat.add_zero, Bool.not_eq_true, Bool.not_eq_false, Nat.reduceEqDiff, Nat.reduceLeDiff, Nat.reduceLT, Int32.reduceLT, Int32.reduceLE, iin_nI, iin_lit, iin_m1, tn_nI, tn_lit, nI_lm, nI_ml, nI_al, nI_la, nI_add, pk_mul, nI_le_l, nI_l_le, nI_lt_l, nI_l_lt, nI_eq_l, nI_l_eq, nI_eqP, nI_leP, nI_ltP, nI_m1, m1_nI, nI_ll, m1_l, l_m1]
    · simp (disch := omega) only [fn_258, ↓LMb L1, ↓mBoxb L1 M1 I.2.1, ↓mWhob L1 M1 I.1, ↓mThingb L1 M1 I.1, ↓mAheadb L1 M1 I.2.1, LM L1, RM M1, hL.1, d0, ez, r2 x L1, eq_self, Nat.le_refl, Nat.lt_irrefl, some_if, Option.bind_some, Option.bind_none, Option.some.injEq, ↓reduceIte, reduceCtorEq, Bool.false_eq_true, Bool.true_eq_false, not_true_eq_false, not_false_eq_true, cmb0, cmb1, Nat.reduceAdd, Nat.reduceMul, Nat.reduceSub, Nat.add_zero, Bool.not_eq_true, Bool.not_eq_false, Nat.reduceEqDiff, Nat.reduceLeDiff, Nat.reduceLT, Int32.reduceLT, Int32.reduceLE, iin_nI, iin_lit, iin_m1, tn_nI, tn_lit, nI_lm, nI_ml, nI_al, nI_la, nI_add, pk_mul, nI_le_l, nI_l_le, nI_lt_l, nI_l_lt, nI_eq_l, nI_l_eq, nI_eqP, nI_leP, nI_ltP, nI_m1, m1_nI, nI_ll, m1_l, l_m1]
  subst z0
  have hm0 : ∀ x, Lay v c x → RelM x s → fn_258 96 (nI l) x = fn_258_37 96 (nI l) x := fun x L1 M1 => by
    simp (disch := omega) only [fn_258, ↓LMb L1, ↓mBoxb L1 M1 I.2.1, ↓mWhob L1 M1 I.1, ↓mThingb L1 M1 I.1, ↓mAheadb L1 M1 I.2.1, LM L1, RM M1, hL.1, d0, ez, h6, decide_true, eq_self, Nat.le_refl, Nat.lt_irrefl, some_if, Option.bind_some, Option.bind_none, Option.some.injEq, ↓reduceIte, reduceCtorEq, Bool.false_eq_true, Bool.true_eq_false, not_true_eq_false, not_false_eq_true, cmb0, cmb1, Nat.reduceAdd, Nat.reduceMul, Nat.reduceSub, Nat.add_zero, Bool.not_eq_true, Bool.not_eq_false, Nat.reduceEqDiff, Nat.reduceLeDiff, Nat.reduceLT, Int32.reduceLT, Int32.reduceLE, iin_nI, iin_lit, iin_m1, tn_nI, tn_lit, nI_lm, nI_ml, nI_al, nI_la, nI_add, pk_mul, nI_le_l, nI_l_le, nI_lt_l, nI_l_lt, nI_eq_l, nI_l_eq, nI_eqP, nI_leP, nI_ltP, nI_m1, m1_nI, nI_ll, m1_l, l_m1]
  by_cases q1 : s 117 b = -1
  rotate_left
  · refine ok_ref (r := false) g 0 (by omega) ?_ (fun x L1 M1 _ => ?_)
    · have e0 : fn_111 w 30 (nI l) = some false := by
        simp (disch := omega) only [fn_111, ↓LStb L, LSt L, k0, k5, kb, q1, decide_false, eq_self, Nat.le_refl, Nat.lt_irrefl, some_if, Option.bind_some, Option.bind_none, Option.some.injEq, ↓reduceIte, reduceCtorEq, Bool.false_eq_true, Bool.true_eq_false, not_true_eq_false, not_false_eq_true, cmb0, cmb1, Nat.reduceAdd, Nat.reduceMul, Nat.reduceSub, Nat.add_zero, Bool.not_eq_true, Bool.not_eq_false, Nat.reduceEqDiff, Nat.reduceLeDiff, Nat.reduceLT, Int32.reduceLT, Int32.reduceLE, iin_nI, iin_lit, iin_m1, tn_nI, tn_lit, nI_lm, nI_ml, nI_al, nI_la, nI_add, pk_mul, nI_le_l, nI_l_le, nI_lt_l, nI_l_lt, nI_eq_l, nI_l_eq, nI_eqP, nI_leP, nI_ltP, nI_m1, m1_nI, nI_ll, m1_l, l_m1]
      simp (disch := omega) only [fn_164, ↓LCb L, ↓LStb L, ↓LVb L hv, ↓hasBb L V I.2.1, ↓hasTb L hv C.2.1 I.1, ↓hasPb L hv C.2.1 I.1, ↓c146b L V I.2.1, LC L, LSt L, LV L hv, h5, e0, r1, decide_false, eq_self, Nat.le_refl, Nat.lt_irrefl, some_if, Option.bind_some, Option.bind_none, Option.some.injEq, ↓reduceIte, reduceCtorEq, Bool.false_eq_true, Bool.true_eq_false, not_true_eq_false, not_false_eq_true, cmb0, cmb1, Nat.reduceAdd, Nat.reduceMul, Nat.reduceSub, Nat.add_zero, Bool.not_eq_true, Bool.not_eq_false, Nat.reduceEqDiff, Nat.reduceLeDiff, Nat.reduceLT, Int32.reduceLT, Int32.reduceLE, iin_nI, iin_lit, iin_m1, tn_nI, tn_lit, nI_lm, nI_ml, nI_al, nI_la, nI_add, pk_mul, nI_le_l, nI_l_le, nI_lt_l, nI_l_lt, nI_eq_l, nI_l_eq, nI_eqP, nI_leP, nI_ltP, nI_m1, m1_nI, nI_ll, m1_l, l_m1]
    · rw [hm0 x L1 M1]
      simp (disch := omega) only [fn_258_37, ↓LMb L1, LM L1, RM M1, eb, q1, r3 x L1, eq_self, Nat.le_refl, Nat.lt_irrefl, some_if, Option.bind_some, Option.bind_none, Option.some.injEq, ↓reduceIte, reduceCtorEq, Bool.false_eq_true, Bool.true_eq_false, not_true_eq_false, not_false_eq_true, cmb0, cmb1, Nat.reduceAdd, Nat.reduceMul, Nat.reduceSub, Nat.add_zero, Bool.not_eq_true, Bool.not_eq_false, Nat.reduceEqDiff, Nat.reduceLeDiff, Nat.reduceLT, Int32.reduceLT, Int32.reduceLE, iin_nI, iin_lit, iin_m1, tn_nI, tn_lit, nI_lm, nI_ml, nI_al, nI_la, nI_add, pk_mul, nI_le_l, nI_l_le, nI_lt_l, nI_l_lt, nI_eq_l, nI_l_eq, nI_eqP, nI_leP, nI_ltP, nI_m1, m1_nI, nI_ll, m1_l, l_m1]
  have o1 : ho s b = s 116 b := by unfold ho; rw [ob_self q1]
  by_cases q2 : s 116 b = nI q
  rotate_left
  · refine ok_ref (r := false) g 0 (by omega) ?_ (fun x L1 M1 _ => ?_)
    · have e0 : fn_111 w 30 (nI l) = some false := by
        simp (disch := omega) only [fn_111, ↓LStb L, LSt L, k0, k2, k5, kb, q1, c17 L V I.2.1 hb, o1, q2, decide_true, eq_self, Nat.le_refl, Nat.lt_irrefl, some_if, Option.bind_some, Option.bind_none, Option.some.injEq, ↓reduceIte, reduceCtorEq, Bool.false_eq_true, Bool.true_eq_false, not_true_eq_false, not_false_eq_true, cmb0, cmb1, Nat.reduceAdd, Nat.reduceMul, Nat.reduceSub, Nat.add_zero, Bool.not_eq_true, Bool.not_eq_false, Nat.reduceEqDiff, Nat.reduceLeDiff, Nat.reduceLT, Int32.reduceLT, Int32.reduceLE, iin_nI, iin_lit, iin_m1, tn_nI, tn_lit, nI_lm, nI_ml, nI_al, nI_la, nI_add, pk_mul, nI_le_l, nI_l_le, nI_lt_l, nI_l_lt, nI_eq_l, nI_l_eq, nI_eqP, nI_leP, nI_ltP, nI_m1, m1_nI, nI_ll, m1_l, l_m1]
      simp (disch := omega) only [fn_164, ↓LCb L, ↓LStb L, ↓LVb L hv, ↓hasBb L V I.2.1, ↓hasTb L hv C.2.1 I.1, ↓hasPb L hv C.2.1 I.1, ↓c146b L V I.2.1, LC L, LSt L, LV L hv, h5, e0, r1, decide_false, eq_self, Nat.le_refl, Nat.lt_irrefl, some_if, Option.bind_some, Option.bind_none, Option.some.injEq, ↓reduceIte, reduceCtorEq, Bool.false_eq_true, Bool.true_eq_false, not_true_eq_false, not_false_eq_true, cmb0, cmb1, Nat.reduceAdd, Nat.reduceMul, Nat.reduceSub, Nat.add_zero, Bool.not_eq_true, Bool.not_eq_false, Nat.reduceEqDiff, Nat.reduceLeDiff, Nat.reduceLT, Int32.reduceLT, Int32.reduceLE, iin_nI, iin_lit, iin_m1, tn_nI, tn_lit, nI_lm, nI_ml, nI_al, nI_la, nI_add, pk_mul, nI_le_l, nI_l_le, nI_lt_l, nI_l_lt, nI_eq_l, nI_l_eq, nI_eqP, nI_leP, nI_ltP, nI_m1, m1_nI, nI_ll, m1_l, l_m1]
    · rw [hm0 x L1 M1]
      simp (disch := omega) only [fn_258_37, ↓LMb L1, LM L1, RM M1, eb, eq, q1, q2, r3 x L1, eq_self, Nat.le_refl, Nat.lt_irrefl, some_if, Option.bind_some, Option.bind_none, Option.some.injEq, ↓reduceIte, reduceCtorEq, Bool.false_eq_true, Bool.true_eq_false, not_true_eq_false, not_false_eq_true, cmb0, cmb1, Nat.reduceAdd, Nat.reduceMul, Nat.reduceSub, Nat.add_zero, Bool.not_eq_true, Bool.not_eq_false, Nat.reduceEqDiff, Nat.reduceLeDiff, Nat.reduceLT, Int32.reduceLT, Int32.reduceLE, iin_nI, iin_lit, iin_m1, tn_nI, tn_lit, nI_lm, nI_ml, nI_al, nI_la, nI_add, pk_mul, nI_le_l, nI_l_le, nI_lt_l, nI_l_lt, nI_eq_l, nI_l_eq, nI_eqP, nI_leP, nI_ltP, nI_m1, m1_nI, nI_ll, m1_l, l_m1]
  by_cases q3 : nI (a + m) ≤ s 105 p
  rotate_left
  · have q3' : s 105 p < nI (a + m) := by rw [← Int32.not_le]; exact q3
    refine ok_ref (r := false) g 0 (by omega) ?_ (fun x L1 M1 _ => ?_)
    · have e0 : fn_111 w 30 (nI l) = some false := by
        simp (disch := omega) only [fn_111, ↓LStb L, LSt L, k0, k1, k2, k5, kb, q1, c17 L V I.2.1 hb, o1, q2, ow, q3', c109 L V I.1 hp, decide_true, eq_self, Nat.le_refl, Nat.lt_irrefl, some_if, Option.bind_some, Option.bind_none, Option.some.injEq, ↓reduceIte, reduceCtorEq, Bool.false_eq_true, Bool.true_eq_false, not_true_eq_false, not_false_eq_true, cmb0, cmb1, Nat.reduceAdd, Nat.reduceMul, Nat.reduceSub, Nat.add_zero, Bool.not_eq_true, Bool.not_eq_false, Nat.reduceEqDiff, Nat.reduceLeDiff, Nat.reduceLT, Int32.reduceLT, Int32.reduceLE, iin_nI, iin_lit, iin_m1, tn_nI, tn_lit, nI_lm, nI_ml, nI_al, nI_la, nI_add, pk_mul, nI_le_l, nI_l_le, nI_lt_l, nI_l_lt, nI_eq_l, nI_l_eq, nI_eqP, nI_leP, nI_ltP, nI_m1, m1_nI, nI_ll, m1_l, l_m1]
      simp (disch := omega) only [fn_164, ↓LCb L, ↓LStb L, ↓LVb L hv, ↓hasBb L V I.2.1, ↓hasTb L hv C.2.1 I.1, ↓hasPb L hv C.2.1 I.1, ↓c146b L V I.2.1, LC L, LSt L, LV L hv, h5, e0, r1, decide_false, eq_self, Nat.le_refl, Nat.lt_irrefl, some_if, Option.bind_some, Option.bind_none, Option.some.injEq, ↓reduceIte, reduceCtorEq, Bool.false_eq_true, Bool.true_eq_false, not_true_eq_false, not_false_eq_true, cmb0, cmb1, Nat.reduceAdd, Nat.reduceMul, Nat.reduceSub, Nat.add_zero, Bool.not_eq_true, Bool.not_eq_false, Nat.reduceEqDiff, Nat.reduceLeDiff, Nat.reduceLT, Int32.reduceLT, Int32.reduceLE, iin_nI, iin_lit, iin_m1, tn_nI, tn_lit, nI_lm, nI_ml, nI_al, nI_la, nI_add, pk_mul, nI_le_l, nI_l_le, nI_lt_l, nI_l_lt, nI_eq_l, nI_l_eq, nI_eqP, nI_leP, nI_ltP, nI_m1, m1_nI, nI_ll, m1_l, l_m1]
    · rw [hm0 x L1 M1]
      simp (disch := omega) only [fn_258_37, ↓LMb L1, LM L1, RM M1, eb, ep, eq, ea, em, q1, q2, q3, r3 x L1, eq_self, Nat.le_refl, Nat.lt_irrefl, some_if, Option.bind_some, Option.bind_none, Option.some.injEq, ↓reduceIte, reduceCtorEq, Bool.false_eq_true, Bool.true_eq_false, not_true_eq_false, not_false_eq_true, cmb0, cmb1, Nat.reduceAdd, Nat.reduceMul, Nat.reduceSub, Nat.add_zero, Bool.not_eq_true, Bool.not_eq_false, Nat.reduceEqDiff, Nat.reduceLeDiff, Nat.reduceLT, Int32.reduceLT, Int32.reduceLE, iin_nI, iin_lit, iin_m1, tn_nI, tn_lit, nI_lm, nI_ml, nI_al, nI_la, nI_add, pk_mul, nI_le_l, nI_l_le, nI_lt_l, nI_l_lt, nI_eq_l, nI_l_eq, nI_eqP, nI_leP, nI_ltP, nI_m1, m1_nI, nI_ll, m1_l, l_m1]
  have q3' : ¬ s 105 p < nI (a + m) := by rw [Int32.not_lt]; exact q3
  have I2 : InvS (cm_up s 116 b (nI p)) := I.2.1.hands hb ⟨p, hp, rfl⟩
  have V2 : StC (cm_sI w 32 (6 * b + 2) (nI p)) 30 (cm_up s 116 b (nI p)) := V.setB (k := 2) hb (by omega)
  have V3 := StC_pay V2 (p := p) (q := q) (k := nI (a + m)) (by unfold nP; rw [u_ne (by decide)]; exact hp) (by unfold nP; rw [u_ne (by decide)]; exact hq)
  rw [pay_up] at V3
  have L2 : Lay v c (cm_sI w 32 (6 * b + 2) (nI p)) := L
  have e1 := c112 L V hB (b := b) (x := nI p) hb
  have e2 := c113 L2 (p := p) (q := q) (k := nI (a + m)) (by omega) (by omega)
  have hl2 : l < nL (cm_up s 116 b (nI p)) := by unfold nL; rw [u_ne (by decide)]; exact hl
  have n2 : fn_1 (cm_sI w 32 (6 * b + 2) (nI p)) 35 (nI l) 2 = some (nI q) := (getL (k := 2) L2 V2 I2 hl2 (by decide)).trans (congrArg some ((u_ne (by decide)).trans eq))
  have n3 : fn_1 (cm_sI w 32 (6 * b + 2) (nI p)) 35 (nI l) 3 = some (nI a) := (getL (k := 3) L2 V2 I2 hl2 (by decide)).trans (congrArg some ((u_ne (by decide)).trans ea))
  have n4 : fn_1 (cm_sI w 32 (6 * b + 2) (nI p)) 35 (nI l) 4 = some (nI m) := (getL (k := 4) L2 V2 I2 hl2 (by decide)).trans (congrArg some ((u_ne (by decide)).trans em))
  have ow2 : fn_110 (cm_sI w 32 (6 * b + 2) (nI p)) 30 (nI l) = some (nI (a + m)) := by
    simp (disch := omega) only [fn_110, ↓LStb L2, S30 L2, S35 L2, n3, n4, eq_self, Nat.le_refl, Nat.lt_irrefl, some_if, Option.bind_some, Option.bind_none, Option.some.injEq, ↓reduceIte, reduceCtorEq, Bool.false_eq_true, Bool.true_eq_false, not_true_eq_false, not_false_eq_true, cmb0, cmb1, Nat.reduceAdd, Nat.reduceMul, Nat.reduceSub, Nat.add_zero, Bool.not_eq_true, Bool.not_eq_false, Nat.reduceEqDiff, Nat.reduceLeDiff, Nat.reduceLT, Int32.reduceLT, Int32.reduceLE, iin_nI, iin_lit, iin_m1, tn_nI, tn_lit, nI_lm, nI_ml, nI_al, nI_la, nI_add, pk_mul, nI_le_l, nI_l_le, nI_lt_l, nI_l_lt, nI_eq_l, nI_l_eq, nI_eqP, nI_leP, nI_ltP, nI_m1, m1_nI, nI_ll, m1_l, l_m1]
  generalize hw3 : cm_sI (cm_sI (cm_sI w 32 (6 * b + 2) (nI p)) 40 p (cm_I (cm_sI w 32 (6 * b + 2) (nI p)) 40 p - nI (a + m))) 40 q (cm_I (cm_sI (cm_sI w 32 (6 * b + 2) (nI p)) 40 p (cm_I (cm_sI w 32 (6 * b + 2) (nI p)) 40 p - nI (a + m))) 40 q + nI (a + m)) = w3 at V3 e2
  have L3 : Lay v c w3 := by rw [← hw3]; exact L
  have f3 : ∀ a', a' < 30 ∨ 41 ≤ a' → ∀ j, cm_I w3 a' j = cm_I w a' j := fun a' ha' j => by rw [← hw3, I_ne (by omega), I_ne (by omega), I_ne (by omega)]
  have z3 : cm_L w3 = cm_L w := by rw [← hw3]; rfl
  have nL1 : nL (cm_up (pay s p q (nI (a + m))) 116 b (nI p)) = nL s := by unfold nL; rw [u_ne (by decide), pay_ne (by decide)]
  have I3 : InvS (cm_up (pay s p q (nI (a + m))) 116 b (nI p)) := InvS.hands I.2.1.pay (by unfold nB; rw [pay_ne (by decide)]; exact hb) ⟨p, by unfold nP; rw [pay_ne (by decide)]; exact hp, rfl⟩
  have e4 : fn_99 35 (nI l) 5 1 w3 = some (cm_sI w3 36 (6 * l + 5) 1) := setL (j := 5) (n := nL s) L3 V3.2.1.2.2.1 (V3.1.2.2.1.trans (by rw [u_ne (by decide), pay_ne (by decide)]; exact hL.1)) hL.2 hl (by decide)
  refine ok_ex (r := true) (s' := cm_up (cm_up (pay s p q (nI (a + m))) 116 b (nI p)) 129 l 1) g ⟨_, ?_, ?_, V3.setL (k := 5) (l := l) (x := 1) (by omega), fun a' ha' j => ?_, z3⟩ (fun x L1 M1 => ?_) (fun a' j h => ?_) (I3.isBack ⟨1, by omega, rfl⟩)
  · have e0 : fn_111 w 30 (nI l) = some true := by
      simp (disch := omega) only [fn_111, ↓LStb L, LSt L, k0, k1, k2, k5, kb, q1, c17 L V I.2.1 hb, o1, q2, ow, q3', c109 L V I.1 hp, decide_true, eq_self, Nat.le_refl, Nat.lt_irrefl, some_if, Option.bind_some, Option.bind_none, Option.some.injEq, ↓reduceIte, reduceCtorEq, Bool.false_eq_true, Bool.true_eq_false, not_true_eq_false, not_false_eq_true, cmb0, cmb1, Nat.reduceAdd, Nat.reduceMul, Nat.reduceSub, Nat.add_zero, Bool.not_eq_true, Bool.not_eq_false, Nat.reduceEqDiff, Nat.reduceLeDiff, Nat.reduceLT, Int32.reduceLT, Int32.reduceLE, iin_nI, iin_lit, iin_m1, tn_nI, tn_lit, nI_lm, nI_ml, nI_al, nI_la, nI_add, pk_mul, nI_le_l, nI_l_le, nI_lt_l, nI_l_lt, nI_eq_l, nI_l_eq, nI_eqP, nI_leP, nI_ltP, nI_m1, m1_nI, nI_ll, m1_l, l_m1]
    have e5 : fn_114 30 (nI l) w = some (cm_sI w3 36 (6 * l + 5) 1) := by
      simp (disch := omega) only [fn_114, ↓LStb L, LSt L, k0, k1, e1, S30 L2, S35 L2, ↓R30_2 L2, n2, ow2, e2, S30 L3, S35 L3, ↓R30_2 L3, e4, eq_self, Nat.le_refl, Nat.lt_irrefl, some_if, Option.bind_some, Option.bind_none, Option.some.injEq, ↓reduceIte, reduceCtorEq, Bool.false_eq_true, Bool.true_eq_false, not_true_eq_false, not_false_eq_true, cmb0, cmb1, Nat.reduceAdd, Nat.reduceMul, Nat.reduceSub, Nat.add_zero, Bool.not_eq_true, Bool.not_eq_false, Nat.reduceEqDiff, Nat.reduceLeDiff, Nat.reduceLT, Int32.reduceLT, Int32.reduceLE, iin_nI, iin_lit, iin_m1, tn_nI, tn_lit, nI_lm, nI_ml, nI_al, nI_la, nI_add, pk_mul, nI_le_l, nI_l_le, nI_lt_l, nI_l_lt, nI_eq_l, nI_l_eq, nI_eqP, nI_leP, nI_ltP, nI_m1, m1_nI, nI_ll, m1_l, l_m1]
    simp (disch := omega) only [fn_164, fn_164_24, ↓LCb L, ↓LStb L, ↓LVb L hv, ↓hasBb L V I.2.1, ↓hasTb L hv C.2.1 I.1, ↓hasPb L hv C.2.1 I.1, ↓c146b L V I.2.1, LC L, LSt L, LV L hv, h5, e0, e5, decide_false, eq_self, Nat.le_refl, Nat.lt_irrefl, some_if, Option.bind_some, Option.bind_none, Option.some.injEq, ↓reduceIte, reduceCtorEq, Bool.false_eq_true, Bool.true_eq_false, not_true_eq_false, not_false_eq_true, cmb0, cmb1, Nat.reduceAdd, Nat.reduceMul, Nat.reduceSub, Nat.add_zero, Bool.not_eq_true, Bool.not_eq_false, Nat.reduceEqDiff, Nat.reduceLeDiff, Nat.reduceLT, Int32.reduceLT, Int32.reduceLE, iin_nI, iin_lit, iin_m1, tn_nI, tn_lit, nI_lm, nI_ml, nI_al, nI_la, nI_add, pk_mul, nI_le_l, nI_l_le, nI_lt_l, nI_l_lt, nI_eq_l, nI_l_eq, nI_eqP, nI_leP, nI_ltP, nI_m1, m1_nI, nI_ll, m1_l, l_m1]
  · exact L3
  · rw [I_ne (by omega)]; exact f3 a' ha' j
  · obtain ⟨y, y1, y2, y3, y4, y5⟩ := m258 L1 M1 (l := l) (b := b) (p := p) (q := q) (k := nI (a + m)) (by omega) (by omega) (by omega) (by omega) ep eq
    refine ⟨y, ?_, y2, y3, y4, y5⟩
    rw [hm0 x L1 M1]
    simp (disch := omega) only [fn_258_37, ↓LMb L1, LM L1, RM M1, eb, ep, eq, ea, em, q1, q2, q3, y1, eq_self, Nat.le_refl, Nat.lt_irrefl, some_if, Option.bind_some, Option.bind_none, Option.some.injEq, ↓reduceIte, reduceCtorEq, Bool.false_eq_true, Bool.true_eq_false, not_true_eq_false, not_false_eq_true, cmb0, cmb1, Nat.reduceAdd, Nat.reduceMul, Nat.reduceSub, Nat.add_zero, Bool.not_eq_true, Bool.not_eq_false, Nat.reduceEqDiff, Nat.reduceLeDiff, Nat.reduceLT, Int32.reduceLT, Int32.reduceLE, iin_nI, iin_lit, iin_m1, tn_nI, tn_lit, nI_lm, nI_ml, nI_al, nI_la, nI_add, pk_mul, nI_le_l, nI_l_le, nI_lt_l, nI_l_lt, nI_eq_l, nI_l_eq, nI_eqP, nI_leP, nI_ltP, nI_m1, m1_nI, nI_ll, m1_l, l_m1]
  · rw [u_ne (fun e => by subst e; cases h), u_ne (fun e => by subst e; cases h), pay_sa a' j h]
end BRING
