/-! month, seed, open, into, holds -/
section WR1
variable {v c u n : Nat} {w w' : cm_W} {s s' : St}
/-- the end of a call that both refuse -/
theorem ok_ref {α : Type} {X Mf : cm_W → Option (α × cm_W)} {r : α} (g : GG v c w s) (k : Nat) (hk : k < 3) (h1 : X w = some (r, cm_sI w 42 k (cm_I w 42 k + 1))) (h2 : ∀ w1, Lay v c w1 → RelM w1 s → w1 = cm_sI w 42 k (cm_I w 42 k + 1) → Mf w1 = some (r, cm_sI w1 97 k (cm_I w1 97 k + 1))) : OKW X Mf w := by
  obtain ⟨s', hs⟩ := G_ref g hk
  exact ⟨r, _, _, v, c, s', h1, h2 _ g.1 (g.2.1.sI (by rfl)) rfl, hs⟩
/-- the class's write, then the reference's: what is to be shown -/
theorem ok_st {α : Type} {X Mf : cm_W → Option (α × cm_W)} {r : α} {w1 : cm_W} (m : cm_W → cm_W) (g : GG v c w s) (h1 : X w = some (r, w1))
    (h2 : ∀ x, Lay v c x → RelM x s → Mf x = some (r, m x) ∧ Lay v c (m x) ∧ RelM (m x) s' ∧ (∀ a, a < 96 → ∀ j, cm_I (m x) a j = cm_I x a j) ∧ cm_L (m x) = cm_L x)
    (l1 : Lay v c w1) (m1 : RelM w1 s) (c1 : StC w1 30 s') (hw1 : ∀ a, a < 30 ∨ 41 ≤ a → ∀ j, cm_I w1 a j = cm_I w a j) (hs : ∀ a k, sa a k = false → s' a k = s a k) (hz : cm_L w1 = cm_L w) (hI : InvS s') : OKW X Mf w := by
  obtain ⟨L, M, C, Z, I⟩ := g
  obtain ⟨k1, k2, k3, k4, k5⟩ := h2 w1 l1 m1
  refine ⟨r, w1, m w1, v, c, s', h1, k1, k2, k3, (C.st L.1 c1 hw1 hs).fr L.1 k4, ?_, I.st hI hs⟩
  exact Z.cg (by rw [k5, hz]) (by rw [k5, hz]) (fun i _ => by rw [k5, hz]) (fun i => by rw [k5, hz]) I.2.2.2.1.2 (by unfold nG; rw [hs 96 73 rfl])
theorem InvS.month (h : InvS s) {m : Nat} (hm : m ≤ 5) : InvS (cm_up s 96 8 (nI m)) := by
  have e1 : nB (cm_up s 96 8 (nI m)) = nB s := by unfold nB; rw [u_nk (by omega)]
  have e2 : nP (cm_up s 96 8 (nI m)) = nP s := by unfold nP; rw [u_nk (by omega)]
  have e3 : nR (cm_up s 96 8 (nI m)) = nR s := by unfold nR; rw [u_nk (by omega)]
  have e4 : nL (cm_up s 96 8 (nI m)) = nL s := by unfold nL; rw [u_nk (by omega)]
  have e5 : nK (cm_up s 96 8 (nI m)) = nK s := by unfold nK; rw [u_nk (by omega)]
  have e6 : nT (cm_up s 96 8 (nI m)) = nT s := by unfold nT; rw [u_nk (by omega)]
  have e7 : nM (cm_up s 96 8 (nI m)) = m := by unfold nM; rw [u_eq, nI_clamp (by omega)]
  have e8 : nIn (cm_up s 96 8 (nI m)) = nIn s := by unfold nIn; rw [e1]; simp (disch := omega) only [u_ne]
  unfold InvS at h ⊢
  rw [e1, e2, e3, e4, e5, e6, e7, e8]
  simp (disch := omega) only [u_ne, u_nk, u_eq]
  exact ⟨⟨trivial, hm⟩, h.2⟩
theorem w_month (g : GG v c w s) : OKW (fn_150 2) (fn_237 96) w := by
  obtain ⟨L, M, C, Z, I⟩ := id g
  have hv := L.1
  have V := C.2.2.1
  have hM := I.2.1.1
  have hT := I.1.1
  have hP := I.1.2.1
  by_cases h5 : 5 ≤ nM s
  · have h6 : nM s = 5 := by omega
    refine ok_ref (r := -1) g 0 (by omega) ?_ (fun w1 L1 M1 _ => ?_)
    · simp (disch := omega) only [fn_150, fn_150_33, LC L, c146 L V I.2.1, h5, c140 L, decide_true, Nat.le_refl, Nat.lt_irrefl, some_if, Option.bind_some, Option.bind_none, Option.some.injEq, ↓reduceIte, reduceCtorEq, Bool.false_eq_true, Bool.true_eq_false, not_true_eq_false, not_false_eq_true, cmb0, cmb1, Nat.reduceAdd, Nat.reduceMul, Nat.reduceSub, Nat.add_zero, Bool.not_eq_true, Bool.not_eq_false, Nat.reduceEqDiff, Nat.reduceLeDiff, Nat.reduceLT, Int32.reduceLT, Int32.reduceLE, iin_nI, iin_lit, iin_m1, tn_nI, tn_lit, nI_lm, nI_ml, nI_al, nI_la, nI_add, pk_mul, nI_le_l, nI_l_le, nI_lt_l, nI_l_lt, nI_eq_l, nI_l_eq, nI_eqP, nI_leP, nI_ltP, nI_m1, m1_nI, nI_ll, m1_l, l_m1]
    · simp (disch := omega) only [fn_237, fn_237_20, LM L1, RM M1, hM.1, h6, m199 L1, Nat.le_refl, Nat.lt_irrefl, some_if, Option.bind_some, Option.bind_none, Option.some.injEq, ↓reduceIte, reduceCtorEq, Bool.false_eq_true, Bool.true_eq_false, not_true_eq_false, not_false_eq_true, cmb0, cmb1, Nat.reduceAdd, Nat.reduceMul, Nat.reduceSub, Nat.add_zero, Bool.not_eq_true, Bool.not_eq_false, Nat.reduceEqDiff, Nat.reduceLeDiff, Nat.reduceLT, Int32.reduceLT, Int32.reduceLE, iin_nI, iin_lit, iin_m1, tn_nI, tn_lit, nI_lm, nI_ml, nI_al, nI_la, nI_add, pk_mul, nI_le_l, nI_l_le, nI_lt_l, nI_l_lt, nI_eq_l, nI_l_eq, nI_eqP, nI_leP, nI_ltP, nI_m1, m1_nI, nI_ll, m1_l, l_m1]
  by_cases h0 : nT s = 0 ∧ nP s = 0
  · refine ok_ref (r := -1) g 0 (by omega) ?_ (fun w1 L1 M1 _ => ?_)
    · simp (disch := omega) only [fn_150, fn_150_33, LC L, LV L hv, C.2.1.1, c146 L V I.2.1, h5, hT.1, hP.1, h0, c140 L, decide_false, Nat.le_refl, Nat.lt_irrefl, some_if, Option.bind_some, Option.bind_none, Option.some.injEq, ↓reduceIte, reduceCtorEq, Bool.false_eq_true, Bool.true_eq_false, not_true_eq_false, not_false_eq_true, cmb0, cmb1, Nat.reduceAdd, Nat.reduceMul, Nat.reduceSub, Nat.add_zero, Bool.not_eq_true, Bool.not_eq_false, Nat.reduceEqDiff, Nat.reduceLeDiff, Nat.reduceLT, Int32.reduceLT, Int32.reduceLE, iin_nI, iin_lit, iin_m1, tn_nI, tn_lit, nI_lm, nI_ml, nI_al, nI_la, nI_add, pk_mul, nI_le_l, nI_l_le, nI_lt_l, nI_l_lt, nI_eq_l, nI_l_eq, nI_eqP, nI_leP, nI_ltP, nI_m1, m1_nI, nI_ll, m1_l, l_m1]
    · have h6 : ¬ nM s = 5 := by omega
      simp (disch := omega) only [fn_237, fn_237_20, LM L1, RM M1, hM.1, h6, hT.1, hP.1, h0, m199 L1, Nat.le_refl, Nat.lt_irrefl, some_if, Option.bind_some, Option.bind_none, Option.some.injEq, ↓reduceIte, reduceCtorEq, Bool.false_eq_true, Bool.true_eq_false, not_true_eq_false, not_false_eq_true, cmb0, cmb1, Nat.reduceAdd, Nat.reduceMul, Nat.reduceSub, Nat.add_zero, Bool.not_eq_true, Bool.not_eq_false, Nat.reduceEqDiff, Nat.reduceLeDiff, Nat.reduceLT, Int32.reduceLT, Int32.reduceLE, iin_nI, iin_lit, iin_m1, tn_nI, tn_lit, nI_lm, nI_ml, nI_al, nI_la, nI_add, pk_mul, nI_le_l, nI_l_le, nI_lt_l, nI_l_lt, nI_eq_l, nI_l_eq, nI_eqP, nI_leP, nI_ltP, nI_m1, m1_nI, nI_ll, m1_l, l_m1]
  · have h6 : ¬ nM s = 5 := by omega
    have h7 : ¬ nT s + nP s = 0 := by omega
    have e10 : s 96 8 + 1 = nI (nM s + 1) := by rw [hM.1, nI_1]
    refine ok_st (fun x => cm_sI x 96 8 (nI (nM s + 1))) (r := nI (nM s + 1)) (w1 := cm_sI w 30 6 (nI (nM s + 1))) (s' := cm_up s 96 8 (nI (nM s + 1))) g ?_ (fun x L1 M1 => ⟨?_, L1, M1.up, fun a ha j => I_ne (by omega), rfl⟩) L (M.sI rfl) V.setM (fun a ha j => I_ne (by omega)) (sa_up rfl) rfl (I.2.1.month (by omega))
    · have e39 : fn_150_39 2 w = some (nI (nM s + 1), cm_sI w 30 6 (nI (nM s + 1))) := by
        simp (disch := omega) only [fn_150_39, LC L, LSt L, V.1, hM.1, sh_sI, sh_sL, sh_sR, R_sI, R_sL, ga_sI, ga_sL, ga_sR, al_sI, al_sL, al_sR, L_sI, I_sL, I_sR, L_sR, I_eq, I_ne, I_nk, L_eq, L_ne, L_nk, cm_w2, Nat.reduceLeDiff, Nat.reduceLT, decide_true, Bool.and_self, Bool.and_true, Nat.le_refl, Nat.lt_irrefl, some_if, Option.bind_some, Option.bind_none, Option.some.injEq, ↓reduceIte, reduceCtorEq, Bool.false_eq_true, Bool.true_eq_false, not_true_eq_false, not_false_eq_true, cmb0, cmb1, Nat.reduceAdd, Nat.reduceMul, Nat.reduceSub, Nat.add_zero, Bool.not_eq_true, Bool.not_eq_false, Nat.reduceEqDiff, Nat.reduceLeDiff, Nat.reduceLT, Int32.reduceLT, Int32.reduceLE, iin_nI, iin_lit, iin_m1, tn_nI, tn_lit, nI_lm, nI_ml, nI_al, nI_la, nI_add, pk_mul, nI_le_l, nI_l_le, nI_lt_l, nI_l_lt, nI_eq_l, nI_l_eq, nI_eqP, nI_leP, nI_ltP, nI_m1, m1_nI, nI_ll, m1_l, l_m1]
      by_cases t0 : nT s = 0
      · have p0 : ¬ nP s = 0 := by omega
        simp (disch := omega) only [fn_150, e39, LC L, LV L hv, C.2.1.1, c146 L V I.2.1, h5, hT.1, hP.1, t0, p0, decide_false, Nat.le_refl, Nat.lt_irrefl, some_if, Option.bind_some, Option.bind_none, Option.some.injEq, ↓reduceIte, reduceCtorEq, Bool.false_eq_true, Bool.true_eq_false, not_true_eq_false, not_false_eq_true, cmb0, cmb1, Nat.reduceAdd, Nat.reduceMul, Nat.reduceSub, Nat.add_zero, Bool.not_eq_true, Bool.not_eq_false, Nat.reduceEqDiff, Nat.reduceLeDiff, Nat.reduceLT, Int32.reduceLT, Int32.reduceLE, iin_nI, iin_lit, iin_m1, tn_nI, tn_lit, nI_lm, nI_ml, nI_al, nI_la, nI_add, pk_mul, nI_le_l, nI_l_le, nI_lt_l, nI_l_lt, nI_eq_l, nI_l_eq, nI_eqP, nI_leP, nI_ltP, nI_m1, m1_nI, nI_ll, m1_l, l_m1]
      · simp (disch := omega) only [fn_150, e39, LC L, LV L hv, C.2.1.1, c146 L V I.2.1, h5, hT.1, hP.1, t0, decide_false, Nat.le_refl, Nat.lt_irrefl, some_if, Option.bind_some, Option.bind_none, Option.some.injEq, ↓reduceIte, reduceCtorEq, Bool.false_eq_true, Bool.true_eq_false, not_true_eq_false, not_false_eq_true, cmb0, cmb1, Nat.reduceAdd, Nat.reduceMul, Nat.reduceSub, Nat.add_zero, Bool.not_eq_true, Bool.not_eq_false, Nat.reduceEqDiff, Nat.reduceLeDiff, Nat.reduceLT, Int32.reduceLT, Int32.reduceLE, iin_nI, iin_lit, iin_m1, tn_nI, tn_lit, nI_lm, nI_ml, nI_al, nI_la, nI_add, pk_mul, nI_le_l, nI_l_le, nI_lt_l, nI_l_lt, nI_eq_l, nI_l_eq, nI_eqP, nI_leP, nI_ltP, nI_m1, m1_nI, nI_ll, m1_l, l_m1]
    · simp (disch := omega) only [fn_237, fn_237_27, LM L1, RM M1, hM.1, h6, h7, hT.1, hP.1, I_eq, cm_w2, Nat.reduceLeDiff, Nat.reduceLT, decide_true, Bool.and_self, Bool.and_true, Nat.le_refl, Nat.lt_irrefl, some_if, Option.bind_some, Option.bind_none, Option.some.injEq, ↓reduceIte, reduceCtorEq, Bool.false_eq_true, Bool.true_eq_false, not_true_eq_false, not_false_eq_true, cmb0, cmb1, Nat.reduceAdd, Nat.reduceMul, Nat.reduceSub, Nat.add_zero, Bool.not_eq_true, Bool.not_eq_false, Nat.reduceEqDiff, Nat.reduceLeDiff, Nat.reduceLT, Int32.reduceLT, Int32.reduceLE, iin_nI, iin_lit, iin_m1, tn_nI, tn_lit, nI_lm, nI_ml, nI_al, nI_la, nI_add, pk_mul, nI_le_l, nI_l_le, nI_lt_l, nI_l_lt, nI_eq_l, nI_l_eq, nI_eqP, nI_leP, nI_ltP, nI_m1, m1_nI, nI_ll, m1_l, l_m1]
theorem w_seed (g : GG v c w s) (i : Int32) : OKW (fn_189 2 i) (fn_293 96 i) w := by
  obtain ⟨L, M, C, Z, I⟩ := id g
  have e0 : ∀ w, fn_194 w i (0 : Int32) (999999999 : Int32) = some (cm_iin i 1000000000) := fun w => isIn_lit w i 999999999 (by decide)
  rcases iin_cs i (n := 1000000000) (by omega) with h | ⟨k, hk, rfl⟩
  · refine ok_ref (r := false) g 0 (by omega) ?_ (fun w1 L1 M1 _ => ?_)
    · have e1 : fn_189_11 2 w = some (false, cm_sI w 42 0 (cm_I w 42 0 + 1)) := by
        simp (disch := omega) only [fn_189_11, LC L, c148 L, Nat.le_refl, Nat.lt_irrefl, some_if, Option.bind_some, Option.bind_none, Option.some.injEq, ↓reduceIte, reduceCtorEq, Bool.false_eq_true, Bool.true_eq_false, not_true_eq_false, not_false_eq_true, cmb0, cmb1, Nat.reduceAdd, Nat.reduceMul, Nat.reduceSub, Nat.add_zero, Bool.not_eq_true, Bool.not_eq_false, Nat.reduceEqDiff, Nat.reduceLeDiff, Nat.reduceLT, Int32.reduceLT, Int32.reduceLE, iin_nI, iin_lit, iin_m1, tn_nI, tn_lit, nI_lm, nI_ml, nI_al, nI_la, nI_add, pk_mul, nI_le_l, nI_l_le, nI_lt_l, nI_l_lt, nI_eq_l, nI_l_eq, nI_eqP, nI_leP, nI_ltP, nI_m1, m1_nI, nI_ll, m1_l, l_m1]
      unfold fn_189
      rw [e1]
      rcases iin_f h (by omega) with q | q
      · rw [if_pos q]
      · by_cases q2 : i < 0
        · rw [if_pos q2]
        · rw [if_neg q2, if_neg]
          exact fun q3 => absurd (Int32.le_trans q q3) (by decide)
    · simp (disch := omega) only [fn_293, e0, h, LM L1, m198 L1, Nat.le_refl, Nat.lt_irrefl, some_if, Option.bind_some, Option.bind_none, Option.some.injEq, ↓reduceIte, reduceCtorEq, Bool.false_eq_true, Bool.true_eq_false, not_true_eq_false, not_false_eq_true, cmb0, cmb1, Nat.reduceAdd, Nat.reduceMul, Nat.reduceSub, Nat.add_zero, Bool.not_eq_true, Bool.not_eq_false, Nat.reduceEqDiff, Nat.reduceLeDiff, Nat.reduceLT, Int32.reduceLT, Int32.reduceLE, iin_nI, iin_lit, iin_m1, tn_nI, tn_lit, nI_lm, nI_ml, nI_al, nI_la, nI_add, pk_mul, nI_le_l, nI_l_le, nI_lt_l, nI_l_lt, nI_eq_l, nI_l_eq, nI_eqP, nI_leP, nI_ltP, nI_m1, m1_nI, nI_ll, m1_l, l_m1]
  · refine ⟨true, cm_sL w 30 7 (nI k).toInt64, cm_sL (cm_sL w 30 7 (nI k).toInt64) 96 71 (nI k).toInt64, v, c, s, ?_, ?_, (L.sL (by decide)).sL (by decide), M, C, ?_, I⟩
    · unfold fn_189
      rw [if_neg (nI_pos (by omega)), if_pos (show nI k ≤ (999999999 : Int32) from nI_le (b := 999999999) (by omega) (by omega))]
      simp (disch := omega) only [fn_189_17, LC L, LSt L, cm_w2, Nat.reduceLeDiff, Nat.reduceLT, decide_true, Bool.and_self, Bool.and_true, Nat.le_refl, Nat.lt_irrefl, some_if, Option.bind_some, Option.bind_none, Option.some.injEq, ↓reduceIte, reduceCtorEq, Bool.false_eq_true, Bool.true_eq_false, not_true_eq_false, not_false_eq_true, cmb0, cmb1, Nat.reduceAdd, Nat.reduceMul, Nat.reduceSub, Nat.add_zero, Bool.not_eq_true, Bool.not_eq_false, Nat.reduceEqDiff, Nat.reduceLeDiff, Nat.reduceLT, Int32.reduceLT, Int32.reduceLE, iin_nI, iin_lit, iin_m1, tn_nI, tn_lit, nI_lm, nI_ml, nI_al, nI_la, nI_add, pk_mul, nI_le_l, nI_l_le, nI_lt_l, nI_l_lt, nI_eq_l, nI_l_eq, nI_eqP, nI_leP, nI_ltP, nI_m1, m1_nI, nI_ll, m1_l, l_m1]
    · have L1 : Lay v c (cm_sL w 30 7 (nI k).toInt64) := L.sL (by decide)
      simp (disch := omega) only [fn_293, fn_293_17, e0, LM L1, cm_w2, Nat.reduceLeDiff, Nat.reduceLT, decide_true, Bool.and_self, Bool.and_true, Nat.le_refl, Nat.lt_irrefl, some_if, Option.bind_some, Option.bind_none, Option.some.injEq, ↓reduceIte, reduceCtorEq, Bool.false_eq_true, Bool.true_eq_false, not_true_eq_false, not_false_eq_true, cmb0, cmb1, Nat.reduceAdd, Nat.reduceMul, Nat.reduceSub, Nat.add_zero, Bool.not_eq_true, Bool.not_eq_false, Nat.reduceEqDiff, Nat.reduceLeDiff, Nat.reduceLT, Int32.reduceLT, Int32.reduceLE, iin_nI, iin_lit, iin_m1, tn_nI, tn_lit, nI_lm, nI_ml, nI_al, nI_la, nI_add, pk_mul, nI_le_l, nI_l_le, nI_lt_l, nI_l_lt, nI_eq_l, nI_l_eq, nI_eqP, nI_leP, nI_ltP, nI_m1, m1_nI, nI_ll, m1_l, l_m1]
    · refine ⟨?_, fun i hi => ?_⟩
      · rw [L_eq, L_ne (by decide), L_eq]
      · have := I.2.2.2.1.2
        rw [L_ne (by omega), L_ne (by omega), L_ne (by decide), L_ne (by decide)]
        exact Z.2 i hi
theorem w_open (g : GG v c w s) (i : Int32) : OKW (fn_155 2 i) (fn_242 96 i) w := by
  obtain ⟨L, M, C, Z, I⟩ := id g
  have hv := L.1
  have V := C.2.2.1
  have hB := I.2.1.2.1
  have hM := I.2.1.1
  have hP := I.1.2.1
  by_cases h5 : 5 ≤ nM s
  · have h6 : ¬ nM s < 5 := by omega
    refine ok_ref (r := -1) g 0 (by omega) ?_ (fun w1 L1 M1 _ => ?_)
    · simp (disch := omega) only [fn_155, fn_155_21, LC L, c146 L V I.2.1, h5, c140 L, decide_true, Nat.le_refl, Nat.lt_irrefl, some_if, Option.bind_some, Option.bind_none, Option.some.injEq, ↓reduceIte, reduceCtorEq, Bool.false_eq_true, Bool.true_eq_false, not_true_eq_false, not_false_eq_true, cmb0, cmb1, Nat.reduceAdd, Nat.reduceMul, Nat.reduceSub, Nat.add_zero, Bool.not_eq_true, Bool.not_eq_false, Nat.reduceEqDiff, Nat.reduceLeDiff, Nat.reduceLT, Int32.reduceLT, Int32.reduceLE, iin_nI, iin_lit, iin_m1, tn_nI, tn_lit, nI_lm, nI_ml, nI_al, nI_la, nI_add, pk_mul, nI_le_l, nI_l_le, nI_lt_l, nI_l_lt, nI_eq_l, nI_l_eq, nI_eqP, nI_leP, nI_ltP, nI_m1, m1_nI, nI_ll, m1_l, l_m1]
    · cases h : cm_iin i (nB s) <;> simp (disch := omega) only [fn_242, fn_242_15, LM L1, mBox L1 M1 I.2.1, mAhead L1 M1 I.2.1, h, h6, m199 L1, decide_false, Nat.le_refl, Nat.lt_irrefl, some_if, Option.bind_some, Option.bind_none, Option.some.injEq, ↓reduceIte, reduceCtorEq, Bool.false_eq_true, Bool.true_eq_false, not_true_eq_false, not_false_eq_true, cmb0, cmb1, Nat.reduceAdd, Nat.reduceMul, Nat.reduceSub, Nat.add_zero, Bool.not_eq_true, Bool.not_eq_false, Nat.reduceEqDiff, Nat.reduceLeDiff, Nat.reduceLT, Int32.reduceLT, Int32.reduceLE, iin_nI, iin_lit, iin_m1, tn_nI, tn_lit, nI_lm, nI_ml, nI_al, nI_la, nI_add, pk_mul, nI_le_l, nI_l_le, nI_lt_l, nI_l_lt, nI_eq_l, nI_l_eq, nI_eqP, nI_leP, nI_ltP, nI_m1, m1_nI, nI_ll, m1_l, l_m1]
  have h6 : nM s < 5 := by omega
  rcases iin_cs i (n := nB s) (by omega) with h | ⟨b, hb, rfl⟩
  · refine ok_ref (r := -1) g 0 (by omega) ?_ (fun w1 L1 M1 _ => ?_)
    · simp (disch := omega) only [fn_155, fn_155_21, LC L, LSt L, c146 L V I.2.1, hasB L V I.2.1, h, h5, c140 L, decide_false, Nat.le_refl, Nat.lt_irrefl, some_if, Option.bind_some, Option.bind_none, Option.some.injEq, ↓reduceIte, reduceCtorEq, Bool.false_eq_true, Bool.true_eq_false, not_true_eq_false, not_false_eq_true, cmb0, cmb1, Nat.reduceAdd, Nat.reduceMul, Nat.reduceSub, Nat.add_zero, Bool.not_eq_true, Bool.not_eq_false, Nat.reduceEqDiff, Nat.reduceLeDiff, Nat.reduceLT, Int32.reduceLT, Int32.reduceLE, iin_nI, iin_lit, iin_m1, tn_nI, tn_lit, nI_lm, nI_ml, nI_al, nI_la, nI_add, pk_mul, nI_le_l, nI_l_le, nI_lt_l, nI_l_lt, nI_eq_l, nI_l_eq, nI_eqP, nI_leP, nI_ltP, nI_m1, m1_nI, nI_ll, m1_l, l_m1]
    · simp (disch := omega) only [fn_242, fn_242_15, LM L1, mBox L1 M1 I.2.1, h, m199 L1, Nat.le_refl, Nat.lt_irrefl, some_if, Option.bind_some, Option.bind_none, Option.some.injEq, ↓reduceIte, reduceCtorEq, Bool.false_eq_true, Bool.true_eq_false, not_true_eq_false, not_false_eq_true, cmb0, cmb1, Nat.reduceAdd, Nat.reduceMul, Nat.reduceSub, Nat.add_zero, Bool.not_eq_true, Bool.not_eq_false, Nat.reduceEqDiff, Nat.reduceLeDiff, Nat.reduceLT, Int32.reduceLT, Int32.reduceLE, iin_nI, iin_lit, iin_m1, tn_nI, tn_lit, nI_lm, nI_ml, nI_al, nI_la, nI_add, pk_mul, nI_le_l, nI_l_le, nI_lt_l, nI_l_lt, nI_eq_l, nI_l_eq, nI_eqP, nI_leP, nI_ltP, nI_m1, m1_nI, nI_ll, m1_l, l_m1]
  obtain ⟨p, hp, ep⟩ := ho_rg I.2.1 hb
  refine ok_st (fun x => cm_sI x 118 b (s 118 b ||| ((1 : Int32) <<< (nI p &&& 31)))) (r := s 115 b) (w1 := cm_sI w 32 (6 * b + 4) (s 118 b ||| ((1 : Int32) <<< (nI p &&& 31)))) (s' := cm_up s 118 b (s 118 b ||| ((1 : Int32) <<< (nI p &&& 31)))) g ?_ (fun x L1 M1 => ⟨?_, L1, M1.up, fun a ha j => I_ne (by omega), rfl⟩) L (M.sI rfl) (V.setB (k := 4) hb (by omega)) (fun a ha j => I_ne (by omega)) (sa_up rfl) rfl ?_
  · have e1 : fn_101 30 (nI b) (nI p) w = some (cm_sI w 32 (6 * b + 4) (s 118 b ||| ((1 : Int32) <<< (nI p &&& 31)))) := by
      simp (disch := omega) only [fn_101, c100, LSt L, getB L V I.2.1 hb, setB L V.2.1.1 (V.1.1.trans hB.1) hB.2 hb, Nat.le_refl, Nat.lt_irrefl, some_if, Option.bind_some, Option.bind_none, Option.some.injEq, ↓reduceIte, reduceCtorEq, Bool.false_eq_true, Bool.true_eq_false, not_true_eq_false, not_false_eq_true, cmb0, cmb1, Nat.reduceAdd, Nat.reduceMul, Nat.reduceSub, Nat.add_zero, Bool.not_eq_true, Bool.not_eq_false, Nat.reduceEqDiff, Nat.reduceLeDiff, Nat.reduceLT, Int32.reduceLT, Int32.reduceLE, iin_nI, iin_lit, iin_m1, tn_nI, tn_lit, nI_lm, nI_ml, nI_al, nI_la, nI_add, pk_mul, nI_le_l, nI_l_le, nI_lt_l, nI_l_lt, nI_eq_l, nI_l_eq, nI_eqP, nI_leP, nI_ltP, nI_m1, m1_nI, nI_ll, m1_l, l_m1]
    have V1 : StC (cm_sI w 32 (6 * b + 4) (s 118 b ||| ((1 : Int32) <<< (nI p &&& 31)))) 30 (cm_up s 118 b (s 118 b ||| ((1 : Int32) <<< (nI p &&& 31)))) := V.setB (k := 4) hb (by omega)
    have I1 : InvS (cm_up s 118 b (s 118 b ||| ((1 : Int32) <<< (nI p &&& 31)))) := I.2.1.cg (fun a k _ h _ _ => u_ne h) (by unfold nP; rw [u_ne (by decide)]) (by unfold nT; rw [u_ne (by decide)])
    have e2 := getB (k := 1) (show Lay v c (cm_sI w 32 (6 * b + 4) (s 118 b ||| ((1 : Int32) <<< (nI p &&& 31)))) from L) V1 I1 (b := b) (by unfold nB; rw [u_ne (by decide)]; exact hb) (by decide)
    rw [u_ne (show 114 + 1 ≠ 118 by decide)] at e2
    simp (disch := omega) only [fn_155, fn_155_27, LC L, LSt L, c146 L V I.2.1, hasB L V I.2.1, c17 L V I.2.1 hb, ep, e1, e2, h5, decide_false, sh_sI, R_sI, Nat.le_refl, Nat.lt_irrefl, some_if, Option.bind_some, Option.bind_none, Option.some.injEq, ↓reduceIte, reduceCtorEq, Bool.false_eq_true, Bool.true_eq_false, not_true_eq_false, not_false_eq_true, cmb0, cmb1, Nat.reduceAdd, Nat.reduceMul, Nat.reduceSub, Nat.add_zero, Bool.not_eq_true, Bool.not_eq_false, Nat.reduceEqDiff, Nat.reduceLeDiff, Nat.reduceLT, Int32.reduceLT, Int32.reduceLE, iin_nI, iin_lit, iin_m1, tn_nI, tn_lit, nI_lm, nI_ml, nI_al, nI_la, nI_add, pk_mul, nI_le_l, nI_l_le, nI_lt_l, nI_l_lt, nI_eq_l, nI_l_eq, nI_eqP, nI_leP, nI_ltP, nI_m1, m1_nI, nI_ll, m1_l, l_m1]
  · simp (disch := omega) only [fn_242, fn_242_22, LM L1, RM M1, mBox L1 M1 I.2.1, mAhead L1 M1 I.2.1, m231 L1 M1 I.2.1 hb, ep, h6, decide_true, I_ne, sh_sI, R_sI, ga_sI, cm_w2, Nat.reduceLeDiff, Nat.reduceLT, decide_true, Bool.and_self, Bool.and_true, Nat.le_refl, Nat.lt_irrefl, some_if, Option.bind_some, Option.bind_none, Option.some.injEq, ↓reduceIte, reduceCtorEq, Bool.false_eq_true, Bool.true_eq_false, not_true_eq_false, not_false_eq_true, cmb0, cmb1, Nat.reduceAdd, Nat.reduceMul, Nat.reduceSub, Nat.add_zero, Bool.not_eq_true, Bool.not_eq_false, Nat.reduceEqDiff, Nat.reduceLeDiff, Nat.reduceLT, Int32.reduceLT, Int32.reduceLE, iin_nI, iin_lit, iin_m1, tn_nI, tn_lit, nI_lm, nI_ml, nI_al, nI_la, nI_add, pk_mul, nI_le_l, nI_l_le, nI_lt_l, nI_l_lt, nI_eq_l, nI_l_eq, nI_eqP, nI_leP, nI_ltP, nI_m1, m1_nI, nI_ll, m1_l, l_m1]
  · exact I.2.1.cg (fun a k _ h _ _ => u_ne h) (by unfold nP; rw [u_ne (by decide)]) (by unfold nT; rw [u_ne (by decide)])
end WR1
