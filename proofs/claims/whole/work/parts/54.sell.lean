/-! sell, bring -/
/-- somebody pays somebody -/
def pay (s : St) (p q : Nat) (k : Int32) : St := cm_up (cm_up s 105 p (s 105 p - k)) 105 q (cm_up s 105 p (s 105 p - k) 105 q + k)
/-- a box can go to somebody for so many coins -/
def cg (s : St) (i j k : Int32) : Prop := nM s < 5 ∧ k ≤ 9999 ∧ cm_iin j (nP s) = true ∧ cm_iin i (nB s) = true ∧ s 117 (tn i) = -1 ∧ ¬ s 116 (tn i) = j ∧ k ≤ s 105 (tn j)
def cgB (s : St) (i j k : Int32) : Bool := decide (nM s < 5) && (decide (k ≤ 9999) && (cm_iin j (nP s) && (cm_iin i (nB s) && (decide (s 117 (tn i) = -1) && (decide (¬ s 116 (tn i) = j) && decide (k ≤ s 105 (tn j)))))))
section SELL2
variable {v c u n : Nat} {w w' : cm_W} {s s' : St}
theorem cgB_i {i j k : Int32} : cgB s i j k = true ↔ cg s i j k := by
  unfold cgB cg
  simp only [Bool.and_eq_true, decide_eq_true_eq]
theorem cgB_f {i j k : Int32} (h : ¬ cg s i j k) : cgB s i j k = false := by
  cases e : cgB s i j k with
  | false => rfl
  | true => exact absurd (cgB_i.mp e) h
theorem isIn_g (w : cm_W) (i a b : Int32) : fn_194 w i a b = some (decide (a ≤ i ∧ i ≤ b)) := by
  unfold fn_194
  by_cases h1 : i < a
  · rw [if_pos h1, decide_eq_false]
    exact fun q => absurd h1 (by rw [Int32.not_lt]; exact q.1)
  · rw [if_neg h1]
    rw [Int32.not_lt] at h1
    by_cases h2 : b < i
    · rw [if_pos h2, decide_eq_false]
      exact fun q => absurd h2 (by rw [Int32.not_lt]; exact q.2)
    · rw [if_neg h2, decide_eq_true]
      rw [Int32.not_lt] at h2
      exact ⟨h1, h2⟩
theorem pay_ne {p q : Nat} {k : Int32} {a j : Nat} (h : a ≠ 105) : pay s p q k a j = s a j := by
  unfold pay
  rw [u_ne h, u_ne h]
theorem pay_105 {p q j : Nat} {k : Int32} (h : ∀ j, s' 105 j = s 105 j) : pay s' p q k 105 j = pay s p q k 105 j := by
  unfold pay
  simp only [u_if, h]
theorem pay_up {p q b : Nat} {k x : Int32} : pay (cm_up s 116 b x) p q k = cm_up (pay s p q k) 116 b x := by
  funext a j
  by_cases h : a = 105
  · subst h
    rw [u_ne (by decide)]
    exact pay_105 fun j => u_ne (by decide)
  · rw [pay_ne h]
    by_cases h2 : a = 116
    · subst h2
      by_cases h3 : j = b
      · subst h3; rw [u_eq, u_eq]
      · rw [u_nk h3, u_nk h3, pay_ne h]
    · rw [u_ne h2, u_ne h2, pay_ne h]
theorem InvS.hands (h : InvS s) {b : Nat} {x : Int32} (hb : b < nB s) (hx : rg x (nP s)) : InvS (cm_up s 116 b x) := by
  have e1 : nB (cm_up s 116 b x) = nB s := by unfold nB; rw [u_ne (by omega)]
  have e2 : nP (cm_up s 116 b x) = nP s := by unfold nP; rw [u_ne (by omega)]
  have e3 : nR (cm_up s 116 b x) = nR s := by unfold nR; rw [u_ne (by omega)]
  have e4 : nL (cm_up s 116 b x) = nL s := by unfold nL; rw [u_ne (by omega)]
  have e5 : nK (cm_up s 116 b x) = nK s := by unfold nK; rw [u_ne (by omega)]
  have e6 : nT (cm_up s 116 b x) = nT s := by unfold nT; rw [u_ne (by omega)]
  have e7 : nM (cm_up s 116 b x) = nM s := by unfold nM; rw [u_ne (by omega)]
  have e8 : nIn (cm_up s 116 b x) = nIn s := by unfold nIn; rw [e1]; simp (disch := omega) only [u_ne]
  obtain ⟨i1, i2, i3, i4, i5, i6, i7, i8, i9, i10, i11⟩ := h
  unfold InvS
  rw [e1, e2, e3, e4, e5, e6, e7, e8]
  simp (disch := omega) only [u_ne]
  refine ⟨i1, i2, i3, i4, i5, fun y hy => ?_, i7, i8, i9, i10, i11⟩
  obtain ⟨j1, j2, j3, j4, j5⟩ := i6 y hy
  refine ⟨j1, j2, ?_, j4, j5⟩
  by_cases q : y = b
  · subst q; rw [u_eq]; exact hx
  · rw [u_nk q]; exact j3
theorem InvS.pay (h : InvS s) {p q : Nat} {k : Int32} : InvS (pay s p q k) := h.cg (fun a j h1 _ _ _ => pay_ne h1) (by unfold nP; rw [pay_ne (by decide)]) (by unfold nT; rw [pay_ne (by decide)])
theorem pay_sa {p q : Nat} {k : Int32} : ∀ a j, sa a j = false → pay s p q k a j = s a j := fun a j h => pay_ne fun e => by subst e; cases h
theorem c112 (L : Lay v c w) (V : StC w 30 s) (hB : s 96 38 = nI (nB s) ∧ nB s ≤ 40) {b : Nat} (hb : b < nB s) {x : Int32} : fn_112 30 (nI b) x w = some (cm_sI w 32 (6 * b + 2) x) := by
  simp (disch := omega) only [fn_112, ↓LStb L, LSt L, setB L V.2.1.1 (V.1.1.trans hB.1) hB.2 hb, eq_self, Nat.le_refl, Nat.lt_irrefl, some_if, Option.bind_some, Option.bind_none, Option.some.injEq, ↓reduceIte, reduceCtorEq, Bool.false_eq_true, Bool.true_eq_false, not_true_eq_false, not_false_eq_true, cmb0, cmb1, Nat.reduceAdd, Nat.reduceMul, Nat.reduceSub, Nat.add_zero, Bool.not_eq_true, Bool.not_eq_false, Nat.reduceEqDiff, Nat.reduceLeDiff, Nat.reduceLT, Int32.reduceLT, Int32.reduceLE, iin_nI, iin_lit, iin_m1, tn_nI, tn_lit, nI_lm, nI_ml, nI_al, nI_la, nI_add, pk_mul, nI_le_l, nI_l_le, nI_lt_l, nI_l_lt, nI_eq_l, nI_l_eq, nI_eqP, nI_leP, nI_ltP, nI_m1, m1_nI, nI_ll, m1_l, l_m1]
theorem c113 (L : Lay v c w) {p q : Nat} (hp : p < 12) (hq : q < 12) {k : Int32} : fn_113 30 (nI p) (nI q) k w = some (cm_sI (cm_sI w 40 p (cm_I w 40 p - k)) 40 q (cm_I (cm_sI w 40 p (cm_I w 40 p - k)) 40 q + k)) := by
  simp (disch := omega) only [fn_113, c100, ↓LStb L, LSt L, R_sI, ga_sI, cm_w2, Nat.reduceLeDiff, Nat.reduceLT, decide_true, Bool.and_self, Bool.and_true, eq_self, Nat.le_refl, Nat.lt_irrefl, some_if, Option.bind_some, Option.bind_none, Option.some.injEq, ↓reduceIte, reduceCtorEq, Bool.false_eq_true, Bool.true_eq_false, not_true_eq_false, not_false_eq_true, cmb0, cmb1, Nat.reduceAdd, Nat.reduceMul, Nat.reduceSub, Nat.add_zero, Bool.not_eq_true, Bool.not_eq_false, Nat.reduceEqDiff, Nat.reduceLeDiff, Nat.reduceLT, Int32.reduceLT, Int32.reduceLE, iin_nI, iin_lit, iin_m1, tn_nI, tn_lit, nI_lm, nI_ml, nI_al, nI_la, nI_add, pk_mul, nI_le_l, nI_l_le, nI_lt_l, nI_l_lt, nI_eq_l, nI_l_eq, nI_eqP, nI_leP, nI_ltP, nI_m1, m1_nI, nI_ll, m1_l, l_m1]
theorem StC_pay (V : StC w 30 s) {p q : Nat} (hp : p < nP s) (hq : q < nP s) {k : Int32} : StC (cm_sI (cm_sI w 40 p (cm_I w 40 p - k)) 40 q (cm_I (cm_sI w 40 p (cm_I w 40 p - k)) 40 q + k)) 30 (pay s p q k) := by
  have h1 : cm_I w 40 p = s 105 p := V.2.2.2.2.2.2.2 p hp
  have V1 : StC (cm_sI w 40 p (s 105 p - k)) 30 (cm_up s 105 p (s 105 p - k)) := V.setP
  have h2 : cm_I (cm_sI w 40 p (s 105 p - k)) 40 q = cm_up s 105 p (s 105 p - k) 105 q := V1.2.2.2.2.2.2.2 q (by unfold nP; rw [u_ne (by decide)]; exact hq)
  unfold Jvm.Pilot.CNailedBoxesLaw_law_r2497_9a6e91.pay
  rw [h1, h2]
  exact V1.setP
theorem c151 (L : Lay v c w) (C : RelC v w s) (I : Inv s) (i j k : Int32) : fn_151 w 2 i j k = some (cgB s i j k) := by
  have hv := L.1
  have V := C.2.2.1
  have hB := I.2.1.2.1
  have hP := I.1.2.1
  have hM := I.2.1.1
  by_cases h5 : 5 ≤ nM s
  · have : cgB s i j k = false := cgB_f (fun q => by have := q.1; omega)
    simp (disch := omega) only [fn_151, ↓LCb L, ↓LStb L, ↓LVb L hv, ↓hasBb L V I.2.1, ↓hasTb L hv C.2.1 I.1, ↓hasPb L hv C.2.1 I.1, ↓c146b L V I.2.1, LC L, LSt L, LV L hv, h5, this, decide_true, decide_false, eq_self, Nat.le_refl, Nat.lt_irrefl, some_if, Option.bind_some, Option.bind_none, Option.some.injEq, ↓reduceIte, reduceCtorEq, Bool.false_eq_true, Bool.true_eq_false, not_true_eq_false, not_false_eq_true, cmb0, cmb1, Nat.reduceAdd, Nat.reduceMul, Nat.reduceSub, Nat.add_zero, Bool.not_eq_true, Bool.not_eq_false, Nat.reduceEqDiff, Nat.reduceLeDiff, Nat.reduceLT, Int32.reduceLT, Int32.reduceLE, iin_nI, iin_lit, iin_m1, tn_nI, tn_lit, nI_lm, nI_ml, nI_al, nI_la, nI_add, pk_mul, nI_le_l, nI_l_le, nI_lt_l, nI_l_lt, nI_eq_l, nI_l_eq, nI_eqP, nI_leP, nI_ltP, nI_m1, m1_nI, nI_ll, m1_l, l_m1]
  by_cases h9 : k ≤ 9999
  rotate_left
  · have : cgB s i j k = false := cgB_f (fun q => h9 q.2.1)
    have h9' : 9999 < k := by rw [← Int32.not_le]; exact h9
    simp (disch := omega) only [fn_151, ↓LCb L, ↓LStb L, ↓LVb L hv, ↓hasBb L V I.2.1, ↓hasTb L hv C.2.1 I.1, ↓hasPb L hv C.2.1 I.1, ↓c146b L V I.2.1, LC L, LSt L, LV L hv, h5, h9', this, decide_false, eq_self, Nat.le_refl, Nat.lt_irrefl, some_if, Option.bind_some, Option.bind_none, Option.some.injEq, ↓reduceIte, reduceCtorEq, Bool.false_eq_true, Bool.true_eq_false, not_true_eq_false, not_false_eq_true, cmb0, cmb1, Nat.reduceAdd, Nat.reduceMul, Nat.reduceSub, Nat.add_zero, Bool.not_eq_true, Bool.not_eq_false, Nat.reduceEqDiff, Nat.reduceLeDiff, Nat.reduceLT, Int32.reduceLT, Int32.reduceLE, iin_nI, iin_lit, iin_m1, tn_nI, tn_lit, nI_lm, nI_ml, nI_al, nI_la, nI_add, pk_mul, nI_le_l, nI_l_le, nI_lt_l, nI_l_lt, nI_eq_l, nI_l_eq, nI_eqP, nI_leP, nI_ltP, nI_m1, m1_nI, nI_ll, m1_l, l_m1]
  have h9' : ¬ 9999 < k := by rw [Int32.not_lt]; exact h9
  rcases iin_cs j (n := nP s) (by omega) with h | ⟨p, hp, rfl⟩
  · have : cgB s i j k = false := cgB_f (fun q => absurd (h.symm.trans q.2.2.1) Bool.false_ne_true)
    simp (disch := omega) only [fn_151, ↓LCb L, ↓LStb L, ↓LVb L hv, ↓hasBb L V I.2.1, ↓hasTb L hv C.2.1 I.1, ↓hasPb L hv C.2.1 I.1, ↓c146b L V I.2.1, LC L, LSt L, LV L hv, h5, h9', h, this, decide_false, eq_self, Nat.le_refl, Nat.lt_irrefl, some_if, Option.bind_some, Option.bind_none, Option.some.injEq, ↓reduceIte, reduceCtorEq, Bool.false_eq_true, Bool.true_eq_false, not_true_eq_false, not_false_eq_true, cmb0, cmb1, Nat.reduceAdd, Nat.reduceMul, Nat.reduceSub, Nat.add_zero, Bool.not_eq_true, Bool.not_eq_false, Nat.reduceEqDiff, Nat.reduceLeDiff, Nat.reduceLT, Int32.reduceLT, Int32.reduceLE, iin_nI, iin_lit, iin_m1, tn_nI, tn_lit, nI_lm, nI_ml, nI_al, nI_la, nI_add, pk_mul, nI_le_l, nI_l_le, nI_lt_l, nI_l_lt, nI_eq_l, nI_l_eq, nI_eqP, nI_leP, nI_ltP, nI_m1, m1_nI, nI_ll, m1_l, l_m1]
  rcases iin_cs i (n := nB s) (by omega) with h | ⟨b, hb, rfl⟩
  · have : cgB s i (nI p) k = false := cgB_f (fun q => absurd (h.symm.trans q.2.2.2.1) Bool.false_ne_true)
    simp (disch := omega) only [fn_151, ↓LCb L, ↓LStb L, ↓LVb L hv, ↓hasBb L V I.2.1, ↓hasTb L hv C.2.1 I.1, ↓hasPb L hv C.2.1 I.1, ↓c146b L V I.2.1, LC L, LSt L, LV L hv, c108 L V I.2.1, h5, h9', h, this, decide_false, Bool.false_and, eq_self, Nat.le_refl, Nat.lt_irrefl, some_if, Option.bind_some, Option.bind_none, Option.some.injEq, ↓reduceIte, reduceCtorEq, Bool.false_eq_true, Bool.true_eq_false, not_true_eq_false, not_false_eq_true, cmb0, cmb1, Nat.reduceAdd, Nat.reduceMul, Nat.reduceSub, Nat.add_zero, Bool.not_eq_true, Bool.not_eq_false, Nat.reduceEqDiff, Nat.reduceLeDiff, Nat.reduceLT, Int32.reduceLT, Int32.reduceLE, iin_nI, iin_lit, iin_m1, tn_nI, tn_lit, nI_lm, nI_ml, nI_al, nI_la, nI_add, pk_mul, nI_le_l, nI_l_le, nI_lt_l, nI_l_lt, nI_eq_l, nI_l_eq, nI_eqP, nI_leP, nI_ltP, nI_m1, m1_nI, nI_ll, m1_l, l_m1]
  have k1 : fn_108 w 30 (nI b) = some (decide (s 117 b = -1)) := by
    rw [c108 L V I.2.1, iin_nI hb (by omega), tn_nIe (by omega)]; rfl
  have eb : tn (nI b) = b := tn_nIe (by omega)
  have ep : tn (nI p) = p := tn_nIe (by omega)
  by_cases q1 : s 117 b = -1
  rotate_left
  · have : cgB s (nI b) (nI p) k = false := cgB_f (fun q => q1 (by have := q.2.2.2.2.1; rw [eb] at this; exact this))
    simp (disch := omega) only [fn_151, ↓LCb L, ↓LStb L, ↓LVb L hv, ↓hasBb L V I.2.1, ↓hasTb L hv C.2.1 I.1, ↓hasPb L hv C.2.1 I.1, ↓c146b L V I.2.1, LC L, LSt L, LV L hv, k1, h5, h9', q1, this, decide_false, eq_self, Nat.le_refl, Nat.lt_irrefl, some_if, Option.bind_some, Option.bind_none, Option.some.injEq, ↓reduceIte, reduceCtorEq, Bool.false_eq_true, Bool.true_eq_false, not_true_eq_false, not_false_eq_true, cmb0, cmb1, Nat.reduceAdd, Nat.reduceMul, Nat.reduceSub, Nat.add_zero, Bool.not_eq_true, Bool.not_eq_false, Nat.reduceEqDiff, Nat.reduceLeDiff, Nat.reduceLT, Int32.reduceLT, Int32.reduceLE, iin_nI, iin_lit, iin_m1, tn_nI, tn_lit, nI_lm, nI_ml, nI_al, nI_la, nI_add, pk_mul, nI_le_l, nI_l_le, nI_lt_l, nI_l_lt, nI_eq_l, nI_l_eq, nI_eqP, nI_leP, nI_ltP, nI_m1, m1_nI, nI_ll, m1_l, l_m1]
  have o1 : ho s b = s 116 b := by unfold ho; rw [ob_self q1]
  by_cases q2 : s 116 b = nI p
  · have : cgB s (nI b) (nI p) k = false := cgB_f (fun q => by have := q.2.2.2.2.2.1; rw [eb] at this; exact this q2)
    simp (disch := omega) only [fn_151, ↓LCb L, ↓LStb L, ↓LVb L hv, ↓hasBb L V I.2.1, ↓hasTb L hv C.2.1 I.1, ↓hasPb L hv C.2.1 I.1, ↓c146b L V I.2.1, LC L, LSt L, LV L hv, k1, h5, h9', q1, q2, o1, c17 L V I.2.1 hb, this, decide_true, decide_false, eq_self, Nat.le_refl, Nat.lt_irrefl, some_if, Option.bind_some, Option.bind_none, Option.some.injEq, ↓reduceIte, reduceCtorEq, Bool.false_eq_true, Bool.true_eq_false, not_true_eq_false, not_false_eq_true, cmb0, cmb1, Nat.reduceAdd, Nat.reduceMul, Nat.reduceSub, Nat.add_zero, Bool.not_eq_true, Bool.not_eq_false, Nat.reduceEqDiff, Nat.reduceLeDiff, Nat.reduceLT, Int32.reduceLT, Int32.reduceLE, iin_nI, iin_lit, iin_m1, tn_nI, tn_lit, nI_lm, nI_ml, nI_al, nI_la, nI_add, pk_mul, nI_le_l, nI_l_le, nI_lt_l, nI_l_lt, nI_eq_l, nI_l_eq, nI_eqP, nI_leP, nI_ltP, nI_m1, m1_nI, nI_ll, m1_l, l_m1]
  by_cases q3 : k ≤ s 105 p
  · have h : cgB s (nI b) (nI p) k = true := cgB_i.mpr ⟨by omega, h9, iin_nI hp (by omega), iin_nI hb (by omega), by rw [eb]; exact q1, by rw [eb]; exact q2, by rw [ep]; exact q3⟩
    have q3' : ¬ s 105 p < k := by rw [Int32.not_lt]; exact q3
    simp (disch := omega) only [fn_151, ↓LCb L, ↓LStb L, ↓LVb L hv, ↓hasBb L V I.2.1, ↓hasTb L hv C.2.1 I.1, ↓hasPb L hv C.2.1 I.1, ↓c146b L V I.2.1, LC L, LSt L, LV L hv, k1, h5, h9', q1, q2, q3', o1, c17 L V I.2.1 hb, c109 L V I.1 hp, h, decide_true, decide_false, eq_self, Nat.le_refl, Nat.lt_irrefl, some_if, Option.bind_some, Option.bind_none, Option.some.injEq, ↓reduceIte, reduceCtorEq, Bool.false_eq_true, Bool.true_eq_false, not_true_eq_false, not_false_eq_true, cmb0, cmb1, Nat.reduceAdd, Nat.reduceMul, Nat.reduceSub, Nat.add_zero, Bool.not_eq_true, Bool.not_eq_false, Nat.reduceEqDiff, Nat.reduceLeDiff, Nat.reduceLT, Int32.reduceLT, Int32.reduceLE, iin_nI, iin_lit, iin_m1, tn_nI, tn_lit, nI_lm, nI_ml, nI_al, nI_la, nI_add, pk_mul, nI_le_l, nI_l_le, nI_lt_l, nI_l_lt, nI_eq_l, nI_l_eq, nI_eqP, nI_leP, nI_ltP, nI_m1, m1_nI, nI_ll, m1_l, l_m1]
  · have : cgB s (nI b) (nI p) k = false := cgB_f (fun q => by have := q.2.2.2.2.2.2; rw [ep] at this; exact q3 this)
    have q3' : s 105 p < k := by rw [← Int32.not_le]; exact q3
    simp (disch := omega) only [fn_151, ↓LCb L, ↓LStb L, ↓LVb L hv, ↓hasBb L V I.2.1, ↓hasTb L hv C.2.1 I.1, ↓hasPb L hv C.2.1 I.1, ↓c146b L V I.2.1, LC L, LSt L, LV L hv, k1, h5, h9', q1, q2, q3', o1, c17 L V I.2.1 hb, c109 L V I.1 hp, this, decide_true, decide_false, eq_self, Nat.le_refl, Nat.lt_irrefl, some_if, Option.bind_some, Option.bind_none, Option.some.injEq, ↓reduceIte, reduceCtorEq, Bool.false_eq_true, Bool.true_eq_false, not_true_eq_false, not_false_eq_true, cmb0, cmb1, Nat.reduceAdd, Nat.reduceMul, Nat.reduceSub, Nat.add_zero, Bool.not_eq_true, Bool.not_eq_false, Nat.reduceEqDiff, Nat.reduceLeDiff, Nat.reduceLT, Int32.reduceLT, Int32.reduceLE, iin_nI, iin_lit, iin_m1, tn_nI, tn_lit, nI_lm, nI_ml, nI_al, nI_la, nI_add, pk_mul, nI_le_l, nI_l_le, nI_lt_l, nI_l_lt, nI_eq_l, nI_l_eq, nI_eqP, nI_leP, nI_ltP, nI_m1, m1_nI, nI_ll, m1_l, l_m1]
theorem w_sell (g : GG v c w s) (i j k : Int32) : OKW (fn_152 2 i j k) (fn_239 96 i j k) w := by
  obtain ⟨L, M, C, Z, I⟩ := id g
  have hv := L.1
  have V := C.2.2.1
  have hB := I.2.1.2.1
  have hM := I.2.1.1
  have hP := I.1.2.1
  have hR := I.2.1.2.2.1
  have r1 : fn_152_14 2 w = some (false, cm_sI w 42 0 (cm_I w 42 0 + 1)) := by
    simp (disch := omega) only [fn_152_14, LC L, c148 L, eq_self, Nat.le_refl, Nat.lt_irrefl, some_if, Option.bind_some, Option.bind_none, Option.some.injEq, ↓reduceIte, reduceCtorEq, Bool.false_eq_true, Bool.true_eq_false, not_true_eq_false, not_false_eq_true, cmb0, cmb1, Nat.reduceAdd, Nat.reduceMul, Nat.reduceSub, Nat.add_zero, Bool.not_eq_true, Bool.not_eq_false, Nat.reduceEqDiff, Nat.reduceLeDiff, Nat.reduceLT, Int32.reduceLT, Int32.reduceLE, iin_nI, iin_lit, iin_m1, tn_nI, tn_lit, nI_lm, nI_ml, nI_al, nI_la, nI_add, pk_mul, nI_le_l, nI_l_le, nI_lt_l, nI_l_lt, nI_eq_l, nI_l_eq, nI_eqP, nI_leP, nI_ltP, nI_m1, m1_nI, nI_ll, m1_l, l_m1]
  have r2 : ∀ x, Lay v c x → fn_239_64 96 x = some (false, cm_sI x 97 0 (cm_I x 97 0 + 1)) := fun x L1 => by
    simp (disch := omega) only [fn_239_64, LM L1, m198 L1, eq_self, Nat.le_refl, Nat.lt_irrefl, some_if, Option.bind_some, Option.bind_none, Option.some.injEq, ↓reduceIte, reduceCtorEq, Bool.false_eq_true, Bool.true_eq_false, not_true_eq_false, not_false_eq_true, cmb0, cmb1, Nat.reduceAdd, Nat.reduceMul, Nat.reduceSub, Nat.add_zero, Bool.not_eq_true, Bool.not_eq_false, Nat.reduceEqDiff, Nat.reduceLeDiff, Nat.reduceLT, Int32.reduceLT, Int32.reduceLE, iin_nI, iin_lit, iin_m1, tn_nI, tn_lit, nI_lm, nI_ml, nI_al, nI_la, nI_add, pk_mul, nI_le_l, nI_l_le, nI_lt_l, nI_l_lt, nI_eq_l, nI_l_eq, nI_eqP, nI_leP, nI_ltP, nI_m1, m1_nI, nI_ll, m1_l, l_m1]
  have mm : ∀ x, Lay v c x → RelM x s → fn_239 96 i j k x = if 0 ≤ k ∧ cgB s i j k = true then fn_239_70 96 i j k x else some (false, cm_sI x 97 0 (cm_I x 97 0 + 1)) := by
    intro x L1 M1
    rcases iin_cs i (n := nB s) (by omega) with h | ⟨b, hb, rfl⟩
    · rw [if_neg (fun q => absurd (h.symm.trans (cgB_i.mp q.2).2.2.2.1) Bool.false_ne_true)]
      simp (disch := omega) only [fn_239, ↓LMb L1, ↓mBoxb L1 M1 I.2.1, ↓mWhob L1 M1 I.1, ↓mThingb L1 M1 I.1, ↓mAheadb L1 M1 I.2.1, LM L1, h, r2 x L1, eq_self, Nat.le_refl, Nat.lt_irrefl, some_if, Option.bind_some, Option.bind_none, Option.some.injEq, ↓reduceIte, reduceCtorEq, Bool.false_eq_true, Bool.true_eq_false, not_true_eq_false, not_false_eq_true, cmb0, cmb1, Nat.reduceAdd, Nat.reduceMul, Nat.reduceSub, Nat.add_zero, Bool.not_eq_true, Bool.not_eq_false, Nat.reduceEqDiff, Nat.reduceLeDiff, Nat.reduceLT, Int32.reduceLT, Int32.reduceLE, iin_nI, iin_lit, iin_m1, tn_nI, tn_lit, nI_lm, nI_ml, nI_al, nI_la, nI_add, pk_mul, nI_le_l, nI_l_le, nI_lt_l, nI_l_lt, nI_eq_l, nI_l_eq, nI_eqP, nI_leP, nI_ltP, nI_m1, m1_nI, nI_ll, m1_l, l_m1]
    rcases iin_cs j (n := nP s) (by omega) with h | ⟨p, hp, rfl⟩
    · rw [if_neg (fun q => absurd (h.symm.trans (cgB_i.mp q.2).2.2.1) Bool.false_ne_true)]
      simp (disch := omega) only [fn_239, ↓LMb L1, ↓mBoxb L1 M1 I.2.1, ↓mWhob L1 M1 I.1, ↓mThingb L1 M1 I.1, ↓mAheadb L1 M1 I.2.1, LM L1, h, r2 x L1, eq_self, Nat.le_refl, Nat.lt_irrefl, some_if, Option.bind_some, Option.bind_none, Option.some.injEq, ↓reduceIte, reduceCtorEq, Bool.false_eq_true, Bool.true_eq_false, not_true_eq_false, not_false_eq_true, cmb0, cmb1, Nat.reduceAdd, Nat.reduceMul, Nat.reduceSub, Nat.add_zero, Bool.not_eq_true, Bool.not_eq_false, Nat.reduceEqDiff, Nat.reduceLeDiff, Nat.reduceLT, Int32.reduceLT, Int32.reduceLE, iin_nI, iin_lit, iin_m1, tn_nI, tn_lit, nI_lm, nI_ml, nI_al, nI_la, nI_add, pk_mul, nI_le_l, nI_l_le, nI_lt_l, nI_l_lt, nI_eq_l, nI_l_eq, nI_eqP, nI_leP, nI_ltP, nI_m1, m1_nI, nI_ll, m1_l, l_m1]
    have eb : tn (nI b) = b := tn_nIe (by omega)
    have ep : tn (nI p) = p := tn_nIe (by omega)
    by_cases hk : 0 ≤ k ∧ k ≤ 9999
    rotate_left
    · rw [if_neg (fun q => hk ⟨q.1, (cgB_i.mp q.2).2.1⟩)]
      simp (disch := omega) only [fn_239, ↓LMb L1, ↓mBoxb L1 M1 I.2.1, ↓mWhob L1 M1 I.1, ↓mThingb L1 M1 I.1, ↓mAheadb L1 M1 I.2.1, LM L1, isIn_g, hk, r2 x L1, decide_false, eq_self, Nat.le_refl, Nat.lt_irrefl, some_if, Option.bind_some, Option.bind_none, Option.some.injEq, ↓reduceIte, reduceCtorEq, Bool.false_eq_true, Bool.true_eq_false, not_true_eq_false, not_false_eq_true, cmb0, cmb1, Nat.reduceAdd, Nat.reduceMul, Nat.reduceSub, Nat.add_zero, Bool.not_eq_true, Bool.not_eq_false, Nat.reduceEqDiff, Nat.reduceLeDiff, Nat.reduceLT, Int32.reduceLT, Int32.reduceLE, iin_nI, iin_lit, iin_m1, tn_nI, tn_lit, nI_lm, nI_ml, nI_al, nI_la, nI_add, pk_mul, nI_le_l, nI_l_le, nI_lt_l, nI_l_lt, nI_eq_l, nI_l_eq, nI_eqP, nI_leP, nI_ltP, nI_m1, m1_nI, nI_ll, m1_l, l_m1]
    by_cases h6 : nM s < 5
    rotate_left
    · rw [if_neg (fun q => h6 (cgB_i.mp q.2).1)]
      simp (disch := omega) only [fn_239, ↓LMb L1, ↓mBoxb L1 M1 I.2.1, ↓mWhob L1 M1 I.1, ↓mThingb L1 M1 I.1, ↓mAheadb L1 M1 I.2.1, LM L1, isIn_g, hk, h6, r2 x L1, decide_true, decide_false, and_self, eq_self, Nat.le_refl, Nat.lt_irrefl, some_if, Option.bind_some, Option.bind_none, Option.some.injEq, ↓reduceIte, reduceCtorEq, Bool.false_eq_true, Bool.true_eq_false, not_true_eq_false, not_false_eq_true, cmb0, cmb1, Nat.reduceAdd, Nat.reduceMul, Nat.reduceSub, Nat.add_zero, Bool.not_eq_true, Bool.not_eq_false, Nat.reduceEqDiff, Nat.reduceLeDiff, Nat.reduceLT, Int32.reduceLT, Int32.reduceLE, iin_nI, iin_lit, iin_m1, tn_nI, tn_lit, nI_lm, nI_ml, nI_al, nI_la, nI_add, pk_mul, nI_le_l, nI_l_le, nI_lt_l, nI_l_lt, nI_eq_l, nI_l_eq, nI_eqP, nI_leP, nI_ltP, nI_m1, m1_nI, nI_ll, m1_l, l_m1]
    by_cases q1 : s 117 b = -1
    rotate_left
    · rw [if_neg (fun q => q1 (by have := (cgB_i.mp q.2).2.2.2.2.1; rw [eb] at this; exact this))]
      simp (disch := omega) only [fn_239, ↓LMb L1, ↓mBoxb L1 M1 I.2.1, ↓mWhob L1 M1 I.1, ↓mThingb L1 M1 I.1, ↓mAheadb L1 M1 I.2.1, LM L1, RM M1, isIn_g, hk, h6, q1, r2 x L1, decide_true, decide_false, and_self, eq_self, Nat.le_refl, Nat.lt_irrefl, some_if, Option.bind_some, Option.bind_none, Option.some.injEq, ↓reduceIte, reduceCtorEq, Bool.false_eq_true, Bool.true_eq_false, not_true_eq_false, not_false_eq_true, cmb0, cmb1, Nat.reduceAdd, Nat.reduceMul, Nat.reduceSub, Nat.add_zero, Bool.not_eq_true, Bool.not_eq_false, Nat.reduceEqDiff, Nat.reduceLeDiff, Nat.reduceLT, Int32.reduceLT, Int32.reduceLE, iin_nI, iin_lit, iin_m1, tn_nI, tn_lit, nI_lm, nI_ml, nI_al, nI_la, nI_add, pk_mul, nI_le_l, nI_l_le, nI_lt_l, nI_l_lt, nI_eq_l, nI_l_eq, nI_eqP, nI_leP, nI_ltP, nI_m1, m1_nI, nI_ll, m1_l, l_m1]
    by_cases q2 : s 116 b = nI p
    · rw [if_neg (fun q => by have := (cgB_i.mp q.2).2.2.2.2.2.1; rw [eb] at this; exact this q2)]
      simp (disch := omega) only [fn_239, ↓LMb L1, ↓mBoxb L1 M1 I.2.1, ↓mWhob L1 M1 I.1, ↓mThingb L1 M1 I.1, ↓mAheadb L1 M1 I.2.1, LM L1, RM M1, isIn_g, hk, h6, q1, q2, r2 x L1, decide_true, decide_false, and_self, eq_self, Nat.le_refl, Nat.lt_irrefl, some_if, Option.bind_some, Option.bind_none, Option.some.injEq, ↓reduceIte, reduceCtorEq, Bool.false_eq_true, Bool.true_eq_false, not_true_eq_false, not_false_eq_true, cmb0, cmb1, Nat.reduceAdd, Nat.reduceMul, Nat.reduceSub, Nat.add_zero, Bool.not_eq_true, Bool.not_eq_false, Nat.reduceEqDiff, Nat.reduceLeDiff, Nat.reduceLT, Int32.reduceLT, Int32.reduceLE, iin_nI, iin_lit, iin_m1, tn_nI, tn_lit, nI_lm, nI_ml, nI_al, nI_la, nI_add, pk_mul, nI_le_l, nI_l_le, nI_lt_l, nI_l_lt, nI_eq_l, nI_l_eq, nI_eqP, nI_leP, nI_ltP, nI_m1, m1_nI, nI_ll, m1_l, l_m1]
    by_cases q3 : k ≤ s 105 p
    · rw [if_pos ⟨hk.1, cgB_i.mpr ⟨by omega, hk.2, iin_nI hp (by omega), iin_nI hb (by omega), by rw [eb]; exact q1, by rw [eb]; exact q2, by rw [ep]; exact q3⟩⟩]
      simp (disch := omega) only [fn_239, ↓LMb L1, ↓mBoxb L1 M1 I.2.1, ↓mWhob L1 M1 I.1, ↓mThingb L1 M1 I.1, ↓mAheadb L1 M1 I.2.1, LM L1, RM M1, isIn_g, hk, h6, q1, q2, q3, decide_true, decide_false, and_self, eq_self, Nat.le_refl, Nat.lt_irrefl, some_if, Option.bind_some, Option.bind_none, Option.some.injEq, ↓reduceIte, reduceCtorEq, Bool.false_eq_true, Bool.true_eq_false, not_true_eq_false, not_false_eq_true, cmb0, cmb1, Nat.reduceAdd, Nat.reduceMul, Nat.reduceSub, Nat.add_zero, Bool.not_eq_true, Bool.not_eq_false, Nat.reduceEqDiff, Nat.reduceLeDiff, Nat.reduceLT, Int32.reduceLT, Int32.reduceLE, iin_nI, iin_lit, iin_m1, tn_nI, tn_lit, nI_lm, nI_ml, nI_al, nI_la, nI_add, pk_mul, nI_le_l, nI_l_le, nI_lt_l, nI_l_lt, nI_eq_l, nI_l_eq, nI_eqP, nI_leP, nI_ltP, nI_m1, m1_nI, nI_ll, m1_l, l_m1]
    · rw [if_neg (fun q => by have := (cgB_i.mp q.2).2.2.2.2.2.2; rw [ep] at this; exact q3 this)]
      simp (disch := omega) only [fn_239, ↓LMb L1, ↓mBoxb L1 M1 I.2.1, ↓mWhob L1 M1 I.1, ↓mThingb L1 M1 I.1, ↓mAheadb L1 M1 I.2.1, LM L1, RM M1, isIn_g, hk, h6, q1, q2, q3, r2 x L1, decide_true, decide_false, and_self, eq_self, Nat.le_refl, Nat.lt_irrefl, some_if, Option.bind_some, Option.bind_none, Option.some.injEq, ↓reduceIte, reduceCtorEq, Bool.false_eq_true, Bool.true_eq_false, not_true_eq_false, not_false_eq_true, cmb0, cmb1, Nat.reduceAdd, Nat.reduceMul, Nat.reduceSub, Nat.add_zero, Bool.not_eq_true, Bool.not_eq_false, Nat.reduceEqDiff, Nat.reduceLeDiff, Nat.reduceLT, Int32.reduceLT, Int32.reduceLE, iin_nI, iin_lit, iin_m1, tn_nI, tn_lit, nI_lm, nI_ml, nI_al, nI_la, nI_add, pk_mul, nI_le_l, nI_l_le, nI_lt_l, nI_l_lt, nI_eq_l, nI_l_eq, nI_eqP, nI_leP, nI_ltP, nI_m1, m1_nI, nI_ll, m1_l, l_m1]
  by_cases H : 0 ≤ k ∧ cgB s i j k = true
  rotate_left
  · refine ok_ref (r := false) g 0 (by omega) ?_ (fun x L1 M1 _ => ?_)
    · unfold fn_152
      by_cases k0 : k < 0
      · rw [if_pos k0, r1]
      · have : cgB s i j k = false := cgB_f fun q => H ⟨by rw [← Int32.not_lt]; exact k0, cgB_i.mpr q⟩
        rw [if_neg k0, c151 L C I, if_pos (S2 L), this]
        exact r1
    · rw [mm x L1 M1, if_neg H]
  have k0 : ¬ k < 0 := by rw [Int32.not_lt]; exact H.1
  have hc : fn_152 2 i j k w = fn_152_20 2 i j k w := by
    unfold fn_152
    rw [if_neg k0, c151 L C I, if_pos (S2 L), H.2]
    rfl
  have hm : ∀ x, Lay v c x → RelM x s → fn_239 96 i j k x = fn_239_70 96 i j k x := fun x L1 M1 => by rw [mm x L1 M1, if_pos H]
  obtain ⟨-, H2⟩ := H
  obtain ⟨h6, h9, hj, hi, q1, q2, q3⟩ := cgB_i.mp H2
  obtain ⟨b, hb, rfl⟩ : ∃ b, b < nB s ∧ i = nI b := by
    rcases iin_cs i (n := nB s) (by omega) with h | h
    · rw [h] at hi; cases hi
    · exact h
  obtain ⟨p, hp, rfl⟩ : ∃ p, p < nP s ∧ j = nI p := by
    rcases iin_cs j (n := nP s) (by omega) with h | h
    · rw [h] at hj; cases hj
    · exact h
  rw [tn_nIe (by omega)] at q1 q2 q3
  have o1 : ho s b = s 116 b := by unfold ho; rw [ob_self q1]
  obtain ⟨f, hf, ef⟩ := ho_rg I.2.1 hb
  have ef2 : s 116 b = nI f := o1.symm.trans ef
  have ful := fulR L V I.2.1
  by_cases h3 : nR s = 300
  · refine ok_ref (r := false) g 1 (by omega) ?_ (fun x L1 M1 _ => ?_)
    · rw [hc]
      simp (disch := omega) only [fn_152_20, ↓LCb L, ↓LStb L, LC L, LSt L, ful, h3, c148 L, decide_true, eq_self, Nat.le_refl, Nat.lt_irrefl, some_if, Option.bind_some, Option.bind_none, Option.some.injEq, ↓reduceIte, reduceCtorEq, Bool.false_eq_true, Bool.true_eq_false, not_true_eq_false, not_false_eq_true, cmb0, cmb1, Nat.reduceAdd, Nat.reduceMul, Nat.reduceSub, Nat.add_zero, Bool.not_eq_true, Bool.not_eq_false, Nat.reduceEqDiff, Nat.reduceLeDiff, Nat.reduceLT, Int32.reduceLT, Int32.reduceLE, iin_nI, iin_lit, iin_m1, tn_nI, tn_lit, nI_lm, nI_ml, nI_al, nI_la, nI_add, pk_mul, nI_le_l, nI_l_le, nI_lt_l, nI_l_lt, nI_eq_l, nI_l_eq, nI_eqP, nI_leP, nI_ltP, nI_m1, m1_nI, nI_ll, m1_l, l_m1]
    · rw [hm x L1 M1]
      simp (disch := omega) only [fn_239_70, ↓LMb L1, ↓mBoxb L1 M1 I.2.1, ↓mWhob L1 M1 I.1, ↓mThingb L1 M1 I.1, ↓mAheadb L1 M1 I.2.1, LM L1, RM M1, hR.1, h3, m198 L1, eq_self, Nat.le_refl, Nat.lt_irrefl, some_if, Option.bind_some, Option.bind_none, Option.some.injEq, ↓reduceIte, reduceCtorEq, Bool.false_eq_true, Bool.true_eq_false, not_true_eq_false, not_false_eq_true, cmb0, cmb1, Nat.reduceAdd, Nat.reduceMul, Nat.reduceSub, Nat.add_zero, Bool.not_eq_true, Bool.not_eq_false, Nat.reduceEqDiff, Nat.reduceLeDiff, Nat.reduceLT, Int32.reduceLT, Int32.reduceLE, iin_nI, iin_lit, iin_m1, tn_nI, tn_lit, nI_lm, nI_ml, nI_al, nI_la, nI_add, pk_mul, nI_le_l, nI_l_le, nI_lt_l, nI_l_lt, nI_eq_l, nI_l_eq, nI_eqP, nI_leP, nI_ltP, nI_m1, m1_nI, nI_ll, m1_l, l_m1]
  have h4 : nR s < 300 := by omega
  obtain ⟨k1, k2⟩ := kn_p (s := s) (b := b) (p := f) (by omega)
  have hk : rg k 10000 := by
    obtain ⟨a, ha, rfl⟩ := nI_of k0
    exact ⟨a, by have := (nI_leI ha (by decide)).mp (show nI a ≤ nI 9999 from h9); omega, rfl⟩
  have I1 : InvS (addR s b 0 (nI f) (nI p) k (knv s b f)) := InvS_addR I.2.1 hb h4 h6 ⟨0, by omega, rfl⟩ (Or.inr ⟨f, hf, rfl⟩) hk (knv_rg s b f) (fun _ => ⟨f, hf, rfl⟩) (fun e => absurd e (by decide))
  have nB1 : nB (addR s b 0 (nI f) (nI p) k (knv s b f)) = nB s := by unfold nB; rw [rec_ne (by omega) (by omega) (by omega)]
  have nP1 : nP (addR s b 0 (nI f) (nI p) k (knv s b f)) = nP s := by unfold nP; rw [rec_ne (by omega) (by omega) (by omega)]
  refine ok_ex (r := true) (s' := cm_up (pay (addR s b 0 (nI f) (nI p) k (knv s b f)) p f k) 116 b (nI p)) g ?_ (fun x L1 M1 => ?_) (fun a j h => ?_) (InvS.hands I1.pay (by unfold nB; rw [pay_ne (by decide)]; rw [nB] at nB1; omega) ⟨p, by unfold nP; rw [pay_ne (by decide)]; rw [nP] at nP1; omega, rfl⟩)
  · obtain ⟨y, y1, y2, y3, y4, y5⟩ := c105 L V I.2.1 h4 hb (kd := 0) (yb := nI f) (to' := nI p) (x := k)
    rw [k1] at y3
    have V2 : StC (cm_sI y 32 (6 * b + 2) (nI p)) 30 (cm_up (addR s b 0 (nI f) (nI p) k (knv s b f)) 116 b (nI p)) := y3.setB (k := 2) (by omega) (by omega)
    have V3 := StC_pay V2 (p := p) (q := f) (k := k) (by unfold nP; rw [u_ne (by decide)]; rw [nP] at nP1; omega) (by unfold nP; rw [u_ne (by decide)]; rw [nP] at nP1; omega)
    rw [pay_up] at V3
    have L2 : Lay v c (cm_sI y 32 (6 * b + 2) (nI p)) := y2
    refine ⟨_, ?_, ?_, V3, fun a ha j => by rw [I_ne (by omega), I_ne (by omega), I_ne (by omega)]; exact y4 a ha j, y5⟩
    rotate_left
    · exact y2
    have e1 := c112 y2 y3 I1.2.1 (b := b) (x := nI p) (by omega)
    have e2 := c113 L2 (p := p) (q := f) (k := k) (by omega) (by omega)
    rw [hc]
    simp (disch := omega) only [fn_152_20, fn_152_39, ↓LCb L, ↓LStb L, LC L, LSt L, ful, h3, c17 L V I.2.1 hb, ef, decide_false, y1, e1, e2, S2 y2, S30 y2, ↓R2_5 y2, S2 L2, S30 L2, ↓R2_5 L2, eq_self, Nat.le_refl, Nat.lt_irrefl, some_if, Option.bind_some, Option.bind_none, Option.some.injEq, ↓reduceIte, reduceCtorEq, Bool.false_eq_true, Bool.true_eq_false, not_true_eq_false, not_false_eq_true, cmb0, cmb1, Nat.reduceAdd, Nat.reduceMul, Nat.reduceSub, Nat.add_zero, Bool.not_eq_true, Bool.not_eq_false, Nat.reduceEqDiff, Nat.reduceLeDiff, Nat.reduceLT, Int32.reduceLT, Int32.reduceLE, iin_nI, iin_lit, iin_m1, tn_nI, tn_lit, nI_lm, nI_ml, nI_al, nI_la, nI_add, pk_mul, nI_le_l, nI_l_le, nI_lt_l, nI_l_lt, nI_eq_l, nI_l_eq, nI_eqP, nI_leP, nI_ltP, nI_m1, m1_nI, nI_ll, m1_l, l_m1]
  · obtain ⟨y, y1, y2, y3, y4, y5⟩ := m238 L1 M1 I.2.1 h4 hb (kd := 0) (yb := nI f) (to' := nI p) (xv := k)
    rw [k2] at y3
    have e1 : cm_I y 105 p = addR s b 0 (nI f) (nI p) k (knv s b f) 105 p := y3 105 p (decide_eq_true (show p < 12 by omega))
    have e3 := (((y3.up (a := 105) (k := p) (x := addR s b 0 (nI f) (nI p) k (knv s b f) 105 p - k)).up (a := 105) (k := f) (x := cm_up (addR s b 0 (nI f) (nI p) k (knv s b f)) 105 p (addR s b 0 (nI f) (nI p) k (knv s b f) 105 p - k) 105 f + k)).up (a := 116) (k := b) (x := nI p))
    have e2 : cm_I (cm_sI y 105 p (addR s b 0 (nI f) (nI p) k (knv s b f) 105 p - k)) 105 f = cm_up (addR s b 0 (nI f) (nI p) k (knv s b f)) 105 p (addR s b 0 (nI f) (nI p) k (knv s b f) 105 p - k) 105 f := (y3.up (a := 105) (k := p) (x := addR s b 0 (nI f) (nI p) k (knv s b f) 105 p - k)) 105 f (decide_eq_true (show f < 12 by omega))
    refine ⟨_, ?_, ?_, e3, fun a ha j => by rw [I_ne (by omega), I_ne (by omega), I_ne (by omega)]; exact y4 a ha j, y5⟩
    · rw [hm x L1 M1]
      simp (disch := omega) only [fn_239_70, fn_239_86, ↓LMb L1, ↓mBoxb L1 M1 I.2.1, ↓mWhob L1 M1 I.1, ↓mThingb L1 M1 I.1, ↓mAheadb L1 M1 I.2.1, LM L1, RM M1, hR.1, h3, ef2, y1, ↓LMb y2, LM y2, R_sI, ga_sI, sh_sI, e1, e2, cm_w2, Nat.reduceLeDiff, Nat.reduceLT, decide_true, Bool.and_self, Bool.and_true, eq_self, Nat.le_refl, Nat.lt_irrefl, some_if, Option.bind_some, Option.bind_none, Option.some.injEq, ↓reduceIte, reduceCtorEq, Bool.false_eq_true, Bool.true_eq_false, not_true_eq_false, not_false_eq_true, cmb0, cmb1, Nat.reduceAdd, Nat.reduceMul, Nat.reduceSub, Nat.add_zero, Bool.not_eq_true, Bool.not_eq_false, Nat.reduceEqDiff, Nat.reduceLeDiff, Nat.reduceLT, Int32.reduceLT, Int32.reduceLE, iin_nI, iin_lit, iin_m1, tn_nI, tn_lit, nI_lm, nI_ml, nI_al, nI_la, nI_add, pk_mul, nI_le_l, nI_l_le, nI_lt_l, nI_l_lt, nI_eq_l, nI_l_eq, nI_eqP, nI_leP, nI_ltP, nI_m1, m1_nI, nI_ll, m1_l, l_m1]
    · exact y2
  · rw [u_ne (fun e => by subst e; cases h), pay_sa a j h, rec_sa a j h]
end SELL2
