/-! holds, box -/
def hsum (s : St) (b n : Nat) : Int32 := fup (fun p a => a + s 121 (12 * b + p)) 0 n
/-- s' is s with one box more -/
def chB (s s' : St) (x0 x1 x2 x4 : Int32) : Prop := (∀ a j, ¬ (a = 96 ∧ j = 38) → ¬ (114 ≤ a ∧ a ≤ 120 ∧ j = nB s) → ¬ (a = 121 ∧ 12 * nB s ≤ j ∧ j < 12 * nB s + 12) → s' a j = s a j) ∧ s' 96 38 = nI (nB s + 1) ∧ s' 114 (nB s) = x0 ∧ s' 115 (nB s) = x1 ∧ s' 116 (nB s) = x2 ∧ s' 117 (nB s) = -1 ∧ s' 118 (nB s) = x4 ∧ s' 119 (nB s) = s 96 8 ∧ s' 120 (nB s) = 0 ∧ ∀ p, p < 12 → s' 121 (12 * nB s + p) = 0
section BOX
variable {v c u n : Nat} {w w' : cm_W} {s s' : St}
theorem rg_mono {x : Int32} {m n : Nat} (h : rg x m) (hm : m ≤ n) : rg x n := by
  obtain ⟨k, hk, e⟩ := h
  exact ⟨k, by omega, e⟩
theorem c19 (L : Lay v c w) (V : StC w 30 s) (hB : nB s ≤ 40) {b p : Nat} (hb : b < nB s) (hp : p < 12) : fn_19 w 30 (nI b) (nI p) = some (s 121 (12 * b + p)) := by
  have e : cm_I w 39 (12 * b + p) = s 121 (12 * b + p) := V.2.2.2.2.2.2.1 b hb p hp
  have h1 : ¬ 40 ≤ b := by omega
  have h2 : ¬ 12 ≤ p := by omega
  have h18 : fn_18 w (nI b) (nI p) = some true := by
    unfold fn_18
    rw [if_neg (nI_pos (by omega)), if_neg (show ¬ (40 : Int32) ≤ nI b from nI_ge (b := 40) (by omega) (by decide)), if_neg (nI_pos (by omega)), if_neg (show ¬ (12 : Int32) ≤ nI p from nI_ge (b := 12) (by omega) (by decide))]
  simp (disch := omega) only [fn_19, h18, ↓LStb L, LSt L, e, eq_self, Nat.le_refl, Nat.lt_irrefl, some_if, Option.bind_some, Option.bind_none, Option.some.injEq, ↓reduceIte, reduceCtorEq, Bool.false_eq_true, Bool.true_eq_false, not_true_eq_false, not_false_eq_true, cmb0, cmb1, Nat.reduceAdd, Nat.reduceMul, Nat.reduceSub, Nat.add_zero, Bool.not_eq_true, Bool.not_eq_false, Nat.reduceEqDiff, Nat.reduceLeDiff, Nat.reduceLT, Int32.reduceLT, Int32.reduceLE, iin_nI, iin_lit, iin_m1, tn_nI, tn_lit, nI_lm, nI_ml, nI_al, nI_la, nI_add, pk_mul, nI_le_l, nI_l_le, nI_lt_l, nI_l_lt, nI_eq_l, nI_l_eq, nI_eqP, nI_leP, nI_ltP, nI_m1, m1_nI, nI_ll, m1_l, l_m1]
theorem c20 (L : Lay v c w) (V : StC w 30 s) (hB : nB s ≤ 40) {b : Nat} (hb : b < nB s) : fn_20 w 30 (nI b) = some (hsum s b 12) := by
  refine up_f (fun m k a => fn_20_4 w m 30 (nI b) a (nI k)) 12 (fun p a => a + s 121 (12 * b + p)) 0 _ (by omega) (fun m k a hk => ?_) (fun m => ?_)
  · have hk' : ¬ 12 ≤ k := by omega
    simp (disch := omega) only [fn_20_4, LSt L, c19 L V hB hb hk, hk', eq_self, Nat.le_refl, Nat.lt_irrefl, some_if, Option.bind_some, Option.bind_none, Option.some.injEq, ↓reduceIte, reduceCtorEq, Bool.false_eq_true, Bool.true_eq_false, not_true_eq_false, not_false_eq_true, cmb0, cmb1, Nat.reduceAdd, Nat.reduceMul, Nat.reduceSub, Nat.add_zero, Bool.not_eq_true, Bool.not_eq_false, Nat.reduceEqDiff, Nat.reduceLeDiff, Nat.reduceLT, Int32.reduceLT, Int32.reduceLE, iin_nI, iin_lit, iin_m1, tn_nI, tn_lit, nI_lm, nI_ml, nI_al, nI_la, nI_add, pk_mul, nI_le_l, nI_l_le, nI_lt_l, nI_l_lt, nI_eq_l, nI_l_eq, nI_eqP, nI_leP, nI_ltP, nI_m1, m1_nI, nI_ll, m1_l, l_m1]
  · simp (disch := omega) only [fn_20_4, eq_self, Nat.le_refl, Nat.lt_irrefl, some_if, Option.bind_some, Option.bind_none, Option.some.injEq, ↓reduceIte, reduceCtorEq, Bool.false_eq_true, Bool.true_eq_false, not_true_eq_false, not_false_eq_true, cmb0, cmb1, Nat.reduceAdd, Nat.reduceMul, Nat.reduceSub, Nat.add_zero, Bool.not_eq_true, Bool.not_eq_false, Nat.reduceEqDiff, Nat.reduceLeDiff, Nat.reduceLT, Int32.reduceLT, Int32.reduceLE, iin_nI, iin_lit, iin_m1, tn_nI, tn_lit, nI_lm, nI_ml, nI_al, nI_la, nI_add, pk_mul, nI_le_l, nI_l_le, nI_lt_l, nI_l_lt, nI_eq_l, nI_l_eq, nI_eqP, nI_leP, nI_ltP, nI_m1, m1_nI, nI_ll, m1_l, l_m1]
    rfl
theorem hsum_P (I : InvS s) {b : Nat} (hb : b < nB s) (hP : nP s ≤ 12) : hsum s b 12 = hsum s b (nP s) := by
  have h : ∀ d, nP s + d ≤ 12 → hsum s b (nP s + d) = hsum s b (nP s) := by
    intro d
    induction d with
    | zero => intro _; rfl
    | succ d ih =>
      intro hd
      have := (I.2.2.2.2.2.2.2.1 b hb (nP s + d) (by omega)).2 (by omega)
      show hsum s b (nP s + d) + s 121 (12 * b + (nP s + d)) = _
      rw [this, ih (by omega), Int32.add_zero]
  have := h (12 - nP s) (by omega)
  rwa [show nP s + (12 - nP s) = 12 by omega] at this
theorem hsum_but (s : St) (b q : Nat) (h : Int32) : ∀ n, fup (fun p a => a + if p = q then 0 else s 121 (12 * b + p)) h n = h + (hsum s b n - if q < n then s 121 (12 * b + q) else 0) := by
  intro n
  induction n with
  | zero =>
    show h = h + ((0 : Int32) - if q < 0 then _ else 0)
    rw [if_neg (by omega), Int32.sub_zero, Int32.add_zero]
  | succ n ih =>
    show fup (fun p a => a + if p = q then 0 else s 121 (12 * b + p)) h n + (if n = q then 0 else s 121 (12 * b + n)) = h + (hsum s b n + s 121 (12 * b + n) - _)
    rw [ih]
    by_cases e : n = q
    · subst e
      rw [if_pos rfl, if_neg (Nat.lt_irrefl _), if_pos (Nat.lt_succ_self _), Int32.add_sub_cancel, Int32.add_zero, Int32.sub_zero]
    · rw [if_neg e]
      by_cases l : q < n
      · rw [if_pos l, if_pos (by omega)]
        generalize hsum s b n = x
        generalize s 121 (12 * b + n) = y
        generalize s 121 (12 * b + q) = z
        rw [Int32.add_assoc, Int32.sub_eq_add_neg, Int32.sub_eq_add_neg, Int32.add_assoc, Int32.add_assoc, Int32.add_comm (-z) y]
      · rw [if_neg l, if_neg (by omega), Int32.sub_zero, Int32.sub_zero, Int32.add_assoc]
theorem InvS.holder (h : InvS s) {b q : Nat} {x : Int32} (hb : b < nB s) (hq : q < nP s) (hP : nP s ≤ 12) (hx : rg x 101) : InvS (cm_up s 121 (12 * b + q) x) := by
  have e1 : nB (cm_up s 121 (12 * b + q) x) = nB s := by unfold nB; rw [u_ne (by omega)]
  have e2 : nP (cm_up s 121 (12 * b + q) x) = nP s := by unfold nP; rw [u_ne (by omega)]
  have e3 : nR (cm_up s 121 (12 * b + q) x) = nR s := by unfold nR; rw [u_ne (by omega)]
  have e4 : nL (cm_up s 121 (12 * b + q) x) = nL s := by unfold nL; rw [u_ne (by omega)]
  have e5 : nK (cm_up s 121 (12 * b + q) x) = nK s := by unfold nK; rw [u_ne (by omega)]
  have e6 : nT (cm_up s 121 (12 * b + q) x) = nT s := by unfold nT; rw [u_ne (by omega)]
  have e7 : nM (cm_up s 121 (12 * b + q) x) = nM s := by unfold nM; rw [u_ne (by omega)]
  have e8 : nIn (cm_up s 121 (12 * b + q) x) = nIn s := by unfold nIn; rw [e1]; simp (disch := omega) only [u_ne]
  obtain ⟨i1, i2, i3, i4, i5, i6, i7, i8, i9, i10, i11⟩ := h
  unfold InvS
  rw [e1, e2, e3, e4, e5, e6, e7, e8]
  simp (disch := omega) only [u_ne]
  refine ⟨i1, i2, i3, i4, i5, i6, i7, fun y hy p hp => ?_, i9, i10, i11⟩
  by_cases e : 12 * y + p = 12 * b + q
  · rw [e, u_eq]
    exact ⟨hx, fun z => by omega⟩
  · rw [u_nk e]; exact i8 y hy p hp
theorem w_holds (g : GG v c w s) (i j k : Int32) : OKW (fn_160 2 i j k) (fn_250 96 i j k) w := by
  obtain ⟨L, M, C, Z, I⟩ := id g
  have hv := L.1
  have V := C.2.2.1
  have hB := I.2.1.2.1
  have hP := I.1.2.1
  have r1 : fn_160_67 2 i j k w = some (false, cm_sI w 42 0 (cm_I w 42 0 + 1)) := by
    simp (disch := omega) only [fn_160_67, LC L, c148 L, eq_self, Nat.le_refl, Nat.lt_irrefl, some_if, Option.bind_some, Option.bind_none, Option.some.injEq, ↓reduceIte, reduceCtorEq, Bool.false_eq_true, Bool.true_eq_false, not_true_eq_false, not_false_eq_true, cmb0, cmb1, Nat.reduceAdd, Nat.reduceMul, Nat.reduceSub, Nat.add_zero, Bool.not_eq_true, Bool.not_eq_false, Nat.reduceEqDiff, Nat.reduceLeDiff, Nat.reduceLT, Int32.reduceLT, Int32.reduceLE, iin_nI, iin_lit, iin_m1, tn_nI, tn_lit, nI_lm, nI_ml, nI_al, nI_la, nI_add, pk_mul, nI_le_l, nI_l_le, nI_lt_l, nI_l_lt, nI_eq_l, nI_l_eq, nI_eqP, nI_leP, nI_ltP, nI_m1, m1_nI, nI_ll, m1_l, l_m1]
  have r2 : ∀ x, Lay v c x → fn_250_26 96 x = some (false, cm_sI x 97 0 (cm_I x 97 0 + 1)) := fun x L1 => by
    simp (disch := omega) only [fn_250_26, LM L1, m198 L1, eq_self, Nat.le_refl, Nat.lt_irrefl, some_if, Option.bind_some, Option.bind_none, Option.some.injEq, ↓reduceIte, reduceCtorEq, Bool.false_eq_true, Bool.true_eq_false, not_true_eq_false, not_false_eq_true, cmb0, cmb1, Nat.reduceAdd, Nat.reduceMul, Nat.reduceSub, Nat.add_zero, Bool.not_eq_true, Bool.not_eq_false, Nat.reduceEqDiff, Nat.reduceLeDiff, Nat.reduceLT, Int32.reduceLT, Int32.reduceLE, iin_nI, iin_lit, iin_m1, tn_nI, tn_lit, nI_lm, nI_ml, nI_al, nI_la, nI_add, pk_mul, nI_le_l, nI_l_le, nI_lt_l, nI_l_lt, nI_eq_l, nI_l_eq, nI_eqP, nI_leP, nI_ltP, nI_m1, m1_nI, nI_ll, m1_l, l_m1]
  have d1 : ∀ w, fn_194 w k (0 : Int32) (100 : Int32) = some (cm_iin k 101) := fun w => isIn_lit w k 100 (by decide)
  rcases iin_cs i (n := nB s) (by omega) with h | ⟨b, hb, rfl⟩
  · refine ok_ref (r := false) g 0 (by omega) ?_ (fun x L1 M1 _ => ?_)
    · simp (disch := omega) only [fn_160, ↓LCb L, ↓LStb L, ↓LVb L hv, ↓hasBb L V I.2.1, ↓hasTb L hv C.2.1 I.1, ↓hasPb L hv C.2.1 I.1, ↓c146b L V I.2.1, LC L, LSt L, LV L hv, h, r1, eq_self, Nat.le_refl, Nat.lt_irrefl, some_if, Option.bind_some, Option.bind_none, Option.some.injEq, ↓reduceIte, reduceCtorEq, Bool.false_eq_true, Bool.true_eq_false, not_true_eq_false, not_false_eq_true, cmb0, cmb1, Nat.reduceAdd, Nat.reduceMul, Nat.reduceSub, Nat.add_zero, Bool.not_eq_true, Bool.not_eq_false, Nat.reduceEqDiff, Nat.reduceLeDiff, Nat.reduceLT, Int32.reduceLT, Int32.reduceLE, iin_nI, iin_lit, iin_m1, tn_nI, tn_lit, nI_lm, nI_ml, nI_al, nI_la, nI_add, pk_mul, nI_le_l, nI_l_le, nI_lt_l, nI_l_lt, nI_eq_l, nI_l_eq, nI_eqP, nI_leP, nI_ltP, nI_m1, m1_nI, nI_ll, m1_l, l_m1]
    · simp (disch := omega) only [fn_250, ↓LMb L1, ↓mBoxb L1 M1 I.2.1, ↓mWhob L1 M1 I.1, ↓mThingb L1 M1 I.1, ↓mAheadb L1 M1 I.2.1, LM L1, h, r2 x L1, eq_self, Nat.le_refl, Nat.lt_irrefl, some_if, Option.bind_some, Option.bind_none, Option.some.injEq, ↓reduceIte, reduceCtorEq, Bool.false_eq_true, Bool.true_eq_false, not_true_eq_false, not_false_eq_true, cmb0, cmb1, Nat.reduceAdd, Nat.reduceMul, Nat.reduceSub, Nat.add_zero, Bool.not_eq_true, Bool.not_eq_false, Nat.reduceEqDiff, Nat.reduceLeDiff, Nat.reduceLT, Int32.reduceLT, Int32.reduceLE, iin_nI, iin_lit, iin_m1, tn_nI, tn_lit, nI_lm, nI_ml, nI_al, nI_la, nI_add, pk_mul, nI_le_l, nI_l_le, nI_lt_l, nI_l_lt, nI_eq_l, nI_l_eq, nI_eqP, nI_leP, nI_ltP, nI_m1, m1_nI, nI_ll, m1_l, l_m1]
  rcases iin_cs j (n := nP s) (by omega) with h | ⟨q, hq, rfl⟩
  · refine ok_ref (r := false) g 0 (by omega) ?_ (fun x L1 M1 _ => ?_)
    · simp (disch := omega) only [fn_160, ↓LCb L, ↓LStb L, ↓LVb L hv, ↓hasBb L V I.2.1, ↓hasTb L hv C.2.1 I.1, ↓hasPb L hv C.2.1 I.1, ↓c146b L V I.2.1, LC L, LSt L, LV L hv, h, r1, eq_self, Nat.le_refl, Nat.lt_irrefl, some_if, Option.bind_some, Option.bind_none, Option.some.injEq, ↓reduceIte, reduceCtorEq, Bool.false_eq_true, Bool.true_eq_false, not_true_eq_false, not_false_eq_true, cmb0, cmb1, Nat.reduceAdd, Nat.reduceMul, Nat.reduceSub, Nat.add_zero, Bool.not_eq_true, Bool.not_eq_false, Nat.reduceEqDiff, Nat.reduceLeDiff, Nat.reduceLT, Int32.reduceLT, Int32.reduceLE, iin_nI, iin_lit, iin_m1, tn_nI, tn_lit, nI_lm, nI_ml, nI_al, nI_la, nI_add, pk_mul, nI_le_l, nI_l_le, nI_lt_l, nI_l_lt, nI_eq_l, nI_l_eq, nI_eqP, nI_leP, nI_ltP, nI_m1, m1_nI, nI_ll, m1_l, l_m1]
    · simp (disch := omega) only [fn_250, ↓LMb L1, ↓mBoxb L1 M1 I.2.1, ↓mWhob L1 M1 I.1, ↓mThingb L1 M1 I.1, ↓mAheadb L1 M1 I.2.1, LM L1, h, r2 x L1, eq_self, Nat.le_refl, Nat.lt_irrefl, some_if, Option.bind_some, Option.bind_none, Option.some.injEq, ↓reduceIte, reduceCtorEq, Bool.false_eq_true, Bool.true_eq_false, not_true_eq_false, not_false_eq_true, cmb0, cmb1, Nat.reduceAdd, Nat.reduceMul, Nat.reduceSub, Nat.add_zero, Bool.not_eq_true, Bool.not_eq_false, Nat.reduceEqDiff, Nat.reduceLeDiff, Nat.reduceLT, Int32.reduceLT, Int32.reduceLE, iin_nI, iin_lit, iin_m1, tn_nI, tn_lit, nI_lm, nI_ml, nI_al, nI_la, nI_add, pk_mul, nI_le_l, nI_l_le, nI_lt_l, nI_l_lt, nI_eq_l, nI_l_eq, nI_eqP, nI_leP, nI_ltP, nI_m1, m1_nI, nI_ll, m1_l, l_m1]
  rcases iin_cs k (n := 101) (by omega) with h | ⟨a, ha, rfl⟩
  · refine ok_ref (r := false) g 0 (by omega) ?_ (fun x L1 M1 _ => ?_)
    · rcases iin_f h (by omega) with z | z
      · simp (disch := omega) only [fn_160, ↓LCb L, ↓LStb L, ↓LVb L hv, ↓hasBb L V I.2.1, ↓hasTb L hv C.2.1 I.1, ↓hasPb L hv C.2.1 I.1, ↓c146b L V I.2.1, LC L, LSt L, LV L hv, z, r1, eq_self, Nat.le_refl, Nat.lt_irrefl, some_if, Option.bind_some, Option.bind_none, Option.some.injEq, ↓reduceIte, reduceCtorEq, Bool.false_eq_true, Bool.true_eq_false, not_true_eq_false, not_false_eq_true, cmb0, cmb1, Nat.reduceAdd, Nat.reduceMul, Nat.reduceSub, Nat.add_zero, Bool.not_eq_true, Bool.not_eq_false, Nat.reduceEqDiff, Nat.reduceLeDiff, Nat.reduceLT, Int32.reduceLT, Int32.reduceLE, iin_nI, iin_lit, iin_m1, tn_nI, tn_lit, nI_lm, nI_ml, nI_al, nI_la, nI_add, pk_mul, nI_le_l, nI_l_le, nI_lt_l, nI_l_lt, nI_eq_l, nI_l_eq, nI_eqP, nI_leP, nI_ltP, nI_m1, m1_nI, nI_ll, m1_l, l_m1]
      · have z2 : 100 < k := Int32.lt_of_lt_of_le (show (100 : Int32) < nI 101 by decide) z
        by_cases z3 : k < 0 <;> simp (disch := omega) only [fn_160, ↓LCb L, ↓LStb L, ↓LVb L hv, ↓hasBb L V I.2.1, ↓hasTb L hv C.2.1 I.1, ↓hasPb L hv C.2.1 I.1, ↓c146b L V I.2.1, LC L, LSt L, LV L hv, z2, z3, r1, eq_self, Nat.le_refl, Nat.lt_irrefl, some_if, Option.bind_some, Option.bind_none, Option.some.injEq, ↓reduceIte, reduceCtorEq, Bool.false_eq_true, Bool.true_eq_false, not_true_eq_false, not_false_eq_true, cmb0, cmb1, Nat.reduceAdd, Nat.reduceMul, Nat.reduceSub, Nat.add_zero, Bool.not_eq_true, Bool.not_eq_false, Nat.reduceEqDiff, Nat.reduceLeDiff, Nat.reduceLT, Int32.reduceLT, Int32.reduceLE, iin_nI, iin_lit, iin_m1, tn_nI, tn_lit, nI_lm, nI_ml, nI_al, nI_la, nI_add, pk_mul, nI_le_l, nI_l_le, nI_lt_l, nI_l_lt, nI_eq_l, nI_l_eq, nI_eqP, nI_leP, nI_ltP, nI_m1, m1_nI, nI_ll, m1_l, l_m1]
    · simp (disch := omega) only [fn_250, ↓LMb L1, ↓mBoxb L1 M1 I.2.1, ↓mWhob L1 M1 I.1, ↓mThingb L1 M1 I.1, ↓mAheadb L1 M1 I.2.1, LM L1, d1, h, r2 x L1, eq_self, Nat.le_refl, Nat.lt_irrefl, some_if, Option.bind_some, Option.bind_none, Option.some.injEq, ↓reduceIte, reduceCtorEq, Bool.false_eq_true, Bool.true_eq_false, not_true_eq_false, not_false_eq_true, cmb0, cmb1, Nat.reduceAdd, Nat.reduceMul, Nat.reduceSub, Nat.add_zero, Bool.not_eq_true, Bool.not_eq_false, Nat.reduceEqDiff, Nat.reduceLeDiff, Nat.reduceLT, Int32.reduceLT, Int32.reduceLE, iin_nI, iin_lit, iin_m1, tn_nI, tn_lit, nI_lm, nI_ml, nI_al, nI_la, nI_add, pk_mul, nI_le_l, nI_l_le, nI_lt_l, nI_l_lt, nI_eq_l, nI_l_eq, nI_eqP, nI_leP, nI_ltP, nI_m1, m1_nI, nI_ll, m1_l, l_m1]
  have z1 : ¬ nI a < 0 := nI_pos (by omega)
  have z2 : ¬ 100 < nI a := nI_nlt (a := 100) (b := a) (by omega) (by omega)
  have c1 : fn_160 2 (nI b) (nI q) (nI a) w = if 100 < hsum s b 12 - s 121 (12 * b + q) + nI a then some (false, cm_sI w 42 0 (cm_I w 42 0 + 1)) else fn_160_81 2 (nI b) (nI q) (nI a) w := by
    simp (disch := omega) only [fn_160, ↓LCb L, ↓LStb L, ↓LVb L hv, ↓hasBb L V I.2.1, ↓hasTb L hv C.2.1 I.1, ↓hasPb L hv C.2.1 I.1, ↓c146b L V I.2.1, LC L, LSt L, LV L hv, z1, z2, c20 L V hB.2 hb, c19 L V hB.2 hb (show q < 12 by omega), r1, eq_self, Nat.le_refl, Nat.lt_irrefl, some_if, Option.bind_some, Option.bind_none, Option.some.injEq, ↓reduceIte, reduceCtorEq, Bool.false_eq_true, Bool.true_eq_false, not_true_eq_false, not_false_eq_true, cmb0, cmb1, Nat.reduceAdd, Nat.reduceMul, Nat.reduceSub, Nat.add_zero, Bool.not_eq_true, Bool.not_eq_false, Nat.reduceEqDiff, Nat.reduceLeDiff, Nat.reduceLT, Int32.reduceLT, Int32.reduceLE, iin_nI, iin_lit, iin_m1, tn_nI, tn_lit, nI_lm, nI_ml, nI_al, nI_la, nI_add, pk_mul, nI_le_l, nI_l_le, nI_lt_l, nI_l_lt, nI_eq_l, nI_l_eq, nI_eqP, nI_leP, nI_ltP, nI_m1, m1_nI, nI_ll, m1_l, l_m1]
  have hsumP := hsum_P I.2.1 hb hP.2
  have m1 : ∀ x, Lay v c x → RelM x s → fn_250 96 (nI b) (nI q) (nI a) x = if 100 < hsum s b 12 - s 121 (12 * b + q) + nI a then some (false, cm_sI x 97 0 (cm_I x 97 0 + 1)) else fn_250_93 96 (nI b) (nI q) (nI a) x := by
    intro x L1 M1
    have lp : fn_250_32 96 (nI b) (nI q) (nI a) x = fn_250_80 96 (nI b) (nI q) (nI a) (fup (fun p a => a + if p = q then 0 else s 121 (12 * b + p)) (nI a) (nP s)) x := by
      refine up_f (fun m k' a' => fn_250_38 m 96 (nI b) (nI q) (nI a) a' (nI k') x) (nP s) (fun p a => a + if p = q then 0 else s 121 (12 * b + p)) (nI a) _ (by omega) (fun m k' a' hk => ?_) (fun m => ?_)
      · have hk' : ¬ nP s ≤ k' := by omega
        have hq' : ¬ nP s ≤ q := by omega
        by_cases e : k' = q <;> simp (disch := omega) only [fn_250_38, ↓LMb L1, LM L1, RM M1, hP.1, hk', hq', e, eq_self, Nat.le_refl, Nat.lt_irrefl, some_if, Option.bind_some, Option.bind_none, Option.some.injEq, ↓reduceIte, reduceCtorEq, Bool.false_eq_true, Bool.true_eq_false, not_true_eq_false, not_false_eq_true, cmb0, cmb1, Nat.reduceAdd, Nat.reduceMul, Nat.reduceSub, Nat.add_zero, Bool.not_eq_true, Bool.not_eq_false, Nat.reduceEqDiff, Nat.reduceLeDiff, Nat.reduceLT, Int32.reduceLT, Int32.reduceLE, iin_nI, iin_lit, iin_m1, tn_nI, tn_lit, nI_lm, nI_ml, nI_al, nI_la, nI_add, pk_mul, nI_le_l, nI_l_le, nI_lt_l, nI_l_lt, nI_eq_l, nI_l_eq, nI_eqP, nI_leP, nI_ltP, nI_m1, m1_nI, nI_ll, m1_l, l_m1]
      · simp (disch := omega) only [fn_250_38, LM L1, RM M1, hP.1, eq_self, Nat.le_refl, Nat.lt_irrefl, some_if, Option.bind_some, Option.bind_none, Option.some.injEq, ↓reduceIte, reduceCtorEq, Bool.false_eq_true, Bool.true_eq_false, not_true_eq_false, not_false_eq_true, cmb0, cmb1, Nat.reduceAdd, Nat.reduceMul, Nat.reduceSub, Nat.add_zero, Bool.not_eq_true, Bool.not_eq_false, Nat.reduceEqDiff, Nat.reduceLeDiff, Nat.reduceLT, Int32.reduceLT, Int32.reduceLE, iin_nI, iin_lit, iin_m1, tn_nI, tn_lit, nI_lm, nI_ml, nI_al, nI_la, nI_add, pk_mul, nI_le_l, nI_l_le, nI_lt_l, nI_l_lt, nI_eq_l, nI_l_eq, nI_eqP, nI_leP, nI_ltP, nI_m1, m1_nI, nI_ll, m1_l, l_m1]
    have e1 : fn_250 96 (nI b) (nI q) (nI a) x = fn_250_32 96 (nI b) (nI q) (nI a) x := by
      simp (disch := omega) only [fn_250, ↓LMb L1, ↓mBoxb L1 M1 I.2.1, ↓mWhob L1 M1 I.1, ↓mThingb L1 M1 I.1, ↓mAheadb L1 M1 I.2.1, LM L1, d1, eq_self, Nat.le_refl, Nat.lt_irrefl, some_if, Option.bind_some, Option.bind_none, Option.some.injEq, ↓reduceIte, reduceCtorEq, Bool.false_eq_true, Bool.true_eq_false, not_true_eq_false, not_false_eq_true, cmb0, cmb1, Nat.reduceAdd, Nat.reduceMul, Nat.reduceSub, Nat.add_zero, Bool.not_eq_true, Bool.not_eq_false, Nat.reduceEqDiff, Nat.reduceLeDiff, Nat.reduceLT, Int32.reduceLT, Int32.reduceLE, iin_nI, iin_lit, iin_m1, tn_nI, tn_lit, nI_lm, nI_ml, nI_al, nI_la, nI_add, pk_mul, nI_le_l, nI_l_le, nI_lt_l, nI_l_lt, nI_eq_l, nI_l_eq, nI_eqP, nI_leP, nI_ltP, nI_m1, m1_nI, nI_ll, m1_l, l_m1]
    rw [e1, lp, hsum_but, if_pos hq, ← hsumP, Int32.add_comm (nI a)]
    unfold fn_250_80
    by_cases e : 100 < hsum s b 12 - s 121 (12 * b + q) + nI a
    · rw [if_pos e, if_neg (by rw [Int32.not_le]; exact e)]
      simp (disch := omega) only [LM L1, m198 L1, eq_self, Nat.le_refl, Nat.lt_irrefl, some_if, Option.bind_some, Option.bind_none, Option.some.injEq, ↓reduceIte, reduceCtorEq, Bool.false_eq_true, Bool.true_eq_false, not_true_eq_false, not_false_eq_true, cmb0, cmb1, Nat.reduceAdd, Nat.reduceMul, Nat.reduceSub, Nat.add_zero, Bool.not_eq_true, Bool.not_eq_false, Nat.reduceEqDiff, Nat.reduceLeDiff, Nat.reduceLT, Int32.reduceLT, Int32.reduceLE, iin_nI, iin_lit, iin_m1, tn_nI, tn_lit, nI_lm, nI_ml, nI_al, nI_la, nI_add, pk_mul, nI_le_l, nI_l_le, nI_lt_l, nI_l_lt, nI_eq_l, nI_l_eq, nI_eqP, nI_leP, nI_ltP, nI_m1, m1_nI, nI_ll, m1_l, l_m1]
    · rw [if_neg e, if_pos (by rw [← Int32.not_lt]; exact e)]
  by_cases e : 100 < hsum s b 12 - s 121 (12 * b + q) + nI a
  · refine ok_ref (r := false) g 0 (by omega) ?_ (fun x L1 M1 _ => ?_)
    · rw [c1, if_pos e]
    · rw [m1 x L1 M1, if_pos e]
  have h18 : fn_18 w (nI b) (nI q) = some true := by
    unfold fn_18
    rw [if_neg (nI_pos (by omega)), if_neg (show ¬ (40 : Int32) ≤ nI b from nI_ge (b := 40) (by omega) (by decide)), if_neg (nI_pos (by omega)), if_neg (show ¬ (12 : Int32) ≤ nI q from nI_ge (b := 12) (by omega) (by decide))]
  refine ok_st (fun x => cm_sI x 121 (12 * b + q) (nI a)) (r := true) (w1 := cm_sI w 39 (12 * b + q) (nI a)) (s' := cm_up s 121 (12 * b + q) (nI a)) g ?_ (fun x L1 M1 => ⟨?_, L1, M1.up, fun a' ha' j => I_ne (by omega), rfl⟩) L (M.sI rfl) V.setH (fun a' ha' j => I_ne (by omega)) (sa_up rfl) rfl (I.2.1.holder hb hq hP.2 ⟨a, ha, rfl⟩)
  · rw [c1, if_neg e]
    simp (disch := omega) only [fn_160_81, fn_102, h18, ↓LCb L, ↓LStb L, LC L, LSt L, cm_w2, Nat.reduceLeDiff, Nat.reduceLT, decide_true, Bool.and_self, Bool.and_true, eq_self, Nat.le_refl, Nat.lt_irrefl, some_if, Option.bind_some, Option.bind_none, Option.some.injEq, ↓reduceIte, reduceCtorEq, Bool.false_eq_true, Bool.true_eq_false, not_true_eq_false, not_false_eq_true, cmb0, cmb1, Nat.reduceAdd, Nat.reduceMul, Nat.reduceSub, Nat.add_zero, Bool.not_eq_true, Bool.not_eq_false, Nat.reduceEqDiff, Nat.reduceLeDiff, Nat.reduceLT, Int32.reduceLT, Int32.reduceLE, iin_nI, iin_lit, iin_m1, tn_nI, tn_lit, nI_lm, nI_ml, nI_al, nI_la, nI_add, pk_mul, nI_le_l, nI_l_le, nI_lt_l, nI_l_lt, nI_eq_l, nI_l_eq, nI_eqP, nI_leP, nI_ltP, nI_m1, m1_nI, nI_ll, m1_l, l_m1]
  · rw [m1 x L1 M1, if_neg e]
    simp (disch := omega) only [fn_250_93, ↓LMb L1, LM L1, cm_w2, Nat.reduceLeDiff, Nat.reduceLT, decide_true, Bool.and_self, Bool.and_true, eq_self, Nat.le_refl, Nat.lt_irrefl, some_if, Option.bind_some, Option.bind_none, Option.some.injEq, ↓reduceIte, reduceCtorEq, Bool.false_eq_true, Bool.true_eq_false, not_true_eq_false, not_false_eq_true, cmb0, cmb1, Nat.reduceAdd, Nat.reduceMul, Nat.reduceSub, Nat.add_zero, Bool.not_eq_true, Bool.not_eq_false, Nat.reduceEqDiff, Nat.reduceLeDiff, Nat.reduceLT, Int32.reduceLT, Int32.reduceLE, iin_nI, iin_lit, iin_m1, tn_nI, tn_lit, nI_lm, nI_ml, nI_al, nI_la, nI_add, pk_mul, nI_le_l, nI_l_le, nI_lt_l, nI_l_lt, nI_eq_l, nI_l_eq, nI_eqP, nI_leP, nI_ltP, nI_m1, m1_nI, nI_ll, m1_l, l_m1]
theorem StC_addB (V : StC w 30 s) (hB2 : nB s < 40) {x0 x1 x2 x4 : Int32} (h : chB s s' x0 x1 x2 x4)
    (hw : ∀ a j, ¬ (a = 31 ∧ j = 2) → ¬ (a = 32 ∧ 6 * nB s ≤ j ∧ j < 6 * nB s + 6) → ¬ (a = 39 ∧ 12 * nB s ≤ j ∧ j < 12 * nB s + 12) → cm_I w' a j = cm_I w a j)
    (w2 : cm_I w' 31 2 = nI (nB s + 1)) (k0 : cm_I w' 32 (6 * nB s) = x0) (k1 : cm_I w' 32 (6 * nB s + 1) = x1) (k2 : cm_I w' 32 (6 * nB s + 2) = x2) (k3 : cm_I w' 32 (6 * nB s + 3) = -1) (k4 : cm_I w' 32 (6 * nB s + 4) = x4) (k5 : cm_I w' 32 (6 * nB s + 5) = s 96 8) (kh : ∀ p, p < 12 → cm_I w' 39 (12 * nB s + p) = 0) : StC w' 30 s' := by
  obtain ⟨ea, f38, g0, g1, g2, g3, g4, g5, g6, g7⟩ := h
  have e1 : nB s' = nB s + 1 := by unfold nB at f38 ⊢; rw [f38]; exact nI_clamp (by unfold nB at hB2; omega)
  have e2 : nP s' = nP s := by unfold nP; rw [ea _ _ (by omega) (by omega) (by omega)]
  have e3 : nR s' = nR s := by unfold nR; rw [ea _ _ (by omega) (by omega) (by omega)]
  have e4 : nL s' = nL s := by unfold nL; rw [ea _ _ (by omega) (by omega) (by omega)]
  have e5 : nK s' = nK s := by unfold nK; rw [ea _ _ (by omega) (by omega) (by omega)]
  obtain ⟨h1, h2, h3, h4, h5, h6, h7, h8⟩ := V
  unfold StC
  rw [e1, e2, e3, e4, e5, f38, ea 96 39 (by omega) (by omega) (by omega), ea 96 51 (by omega) (by omega) (by omega), ea 96 58 (by omega) (by omega) (by omega), ea 96 8 (by omega) (by omega) (by omega)]
  refine ⟨?_, ?_, ?_, ?_, ?_, ?_, ?_, ?_⟩
  · rw [show cm_I w' (30 + 1) 2 = _ from w2, hw _ _ (by omega) (by omega) (by omega), hw _ _ (by omega) (by omega) (by omega), hw _ _ (by omega) (by omega) (by omega), hw _ _ (by omega) (by omega) (by omega)]
    exact ⟨rfl, h1.2⟩
  · rw [hw _ _ (by omega) (by omega) (by omega), hw _ _ (by omega) (by omega) (by omega), hw _ _ (by omega) (by omega) (by omega), hw _ _ (by omega) (by omega) (by omega)]
    exact h2
  · intro r hr k' hk'
    by_cases q : r = nB s
    · subst q
      rcases (show k' = 0 ∨ k' = 1 ∨ k' = 2 ∨ k' = 3 ∨ k' = 4 ∨ k' = 5 by omega) with rfl | rfl | rfl | rfl | rfl | rfl
      · exact k0.trans g0.symm
      · exact k1.trans g1.symm
      · exact k2.trans g2.symm
      · exact k3.trans g3.symm
      · exact k4.trans g4.symm
      · exact k5.trans g5.symm
    · rw [ea _ _ (by omega) (by omega) (by omega), hw _ _ (by omega) (by omega) (by omega)]
      exact h3 r (by omega) k' hk'
  · intro x' hx k' hk'
    rw [ea _ _ (by omega) (by omega) (by omega), hw _ _ (by omega) (by omega) (by omega)]
    exact h4 x' hx k' hk'
  · intro x' hx k' hk'
    rw [ea _ _ (by omega) (by omega) (by omega), hw _ _ (by omega) (by omega) (by omega)]
    exact h5 x' hx k' hk'
  · intro x' hx k' hk'
    rw [ea _ _ (by omega) (by omega) (by omega), hw _ _ (by omega) (by omega) (by omega)]
    exact h6 x' hx k' hk'
  · intro r hr p hp
    by_cases q : r = nB s
    · subst q
      exact (kh p hp).trans (g7 p hp).symm
    · rw [ea _ _ (by omega) (by omega) (by omega), hw _ _ (by omega) (by omega) (by omega)]
      exact h7 r (by omega) p hp
  · intro x' hx
    rw [ea _ _ (by omega) (by omega) (by omega), hw _ _ (by omega) (by omega) (by omega)]
    exact h8 x' hx
theorem fup_no {α : Type} {p : Nat → Prop} [DecidablePred p] {f : α → α} {a : α} (n : Nat) (h : ∀ k, k < n → ¬ p k) : fup (fun k x => if p k then f x else x) a n = a := fup_inv (fun _ x => x = a) rfl n fun k x hk e => by rw [if_neg (h k hk)]; exact e
theorem InvS_addB (h : InvS s) (hB2 : nB s < 40) {x0 x1 x2 x4 : Int32} (hc : chB s s' x0 x1 x2 x4) (r0 : rg x0 (nP s)) (r1 : rg x1 (nT s)) (r2 : rg x2 (nP s)) : InvS s' := by
  obtain ⟨ea, f38, g0, g1, g2, g3, g4, g5, g6, g7⟩ := hc
  have e1 : nB s' = nB s + 1 := by unfold nB at f38 ⊢; rw [f38]; exact nI_clamp (by unfold nB at hB2; omega)
  have e2 : nP s' = nP s := by unfold nP; rw [ea _ _ (by omega) (by omega) (by omega)]
  have e3 : nR s' = nR s := by unfold nR; rw [ea _ _ (by omega) (by omega) (by omega)]
  have e4 : nL s' = nL s := by unfold nL; rw [ea _ _ (by omega) (by omega) (by omega)]
  have e5 : nK s' = nK s := by unfold nK; rw [ea _ _ (by omega) (by omega) (by omega)]
  have e6 : nT s' = nT s := by unfold nT; rw [ea _ _ (by omega) (by omega) (by omega)]
  have e7 : nM s' = nM s := by unfold nM; rw [ea _ _ (by omega) (by omega) (by omega)]
  have eb : ∀ a j, a ≠ 96 → 121 < a → s' a j = s a j := fun a j h1 h2 => ea a j (by omega) (by omega) (by omega)
  have eo : ∀ a x, 114 ≤ a → a ≤ 120 → x < nB s → s' a x = s a x := fun a x h1 h2 h3 => ea a x (by omega) (by omega) (by omega)
  have e8 : nIn s' = nIn s := by
    unfold nIn
    rw [e1]
    show (if s' 117 (nB s) = -1 then _ else _) = _
    rw [if_pos g3]
    exact fup_cg fun b x hb => by rw [eo 117 b (by omega) (by omega) hb]
  obtain ⟨i1, i2, i3, i4, i5, i6, i7, i8, i9, i10, i11⟩ := h
  unfold InvS
  rw [e2, e3, e4, e5, e6, e7, e8, e1, f38, ea 96 39 (by omega) (by omega) (by omega), ea 96 51 (by omega) (by omega) (by omega), ea 96 58 (by omega) (by omega) (by omega), ea 96 8 (by omega) (by omega) (by omega)]
  simp (disch := omega) only [eb]
  refine ⟨i1, ⟨trivial, by omega⟩, i3, i4, i5, fun x hx => ?_, ?_, fun x hx p hp => ?_, fun r hr => ?_, fun l hl => ?_, fun k hk => ?_⟩
  · by_cases q : x = nB s
    · subst q
      rw [g0, g1, g2, g3, g6]
      refine ⟨r0, r1, r2, Or.inl rfl, ?_⟩
      exact (fup_no (p := fun r => s 122 (7 * r) = nI (nB s)) (f := fun a => a + 1) (nR s) fun r hr e => by
        obtain ⟨k, hk, ek⟩ := (i9 r hr).1
        have := (nI_eq (by omega) (by omega)).mp (ek.symm.trans e)
        omega).symm
    · rw [eo 114 x (by omega) (by omega) (by omega), eo 115 x (by omega) (by omega) (by omega), eo 116 x (by omega) (by omega) (by omega), eo 117 x (by omega) (by omega) (by omega), eo 120 x (by omega) (by omega) (by omega)]
      obtain ⟨j1, j2, j3, j4, j5⟩ := i6 x (by omega)
      exact ⟨j1, j2, j3, j4.imp_right fun z => rg_mono z (by omega), j5⟩
  · obtain ⟨d, hd⟩ := i7
    refine ⟨fun x => if x = nB s then 0 else d x, fun x hx => ?_⟩
    by_cases q : x = nB s
    · subst q
      refine ⟨by show (if nB s = nB s then 0 else _) ≤ _; rw [if_pos rfl]; omega, fun e he hxe => ?_⟩
      rw [g3, m1_nI (by omega)] at hxe; cases hxe
    · refine ⟨by show (if x = nB s then 0 else d x) ≤ _; rw [if_neg q]; exact (hd x (by omega)).1, fun e he hxe => ?_⟩
      rw [eo 117 x (by omega) (by omega) (by omega)] at hxe
      show (if e = nB s then 0 else d e) < (if x = nB s then 0 else d x)
      rw [if_neg q]
      rcases (i6 x (by omega)).2.2.2.1 with z | ⟨e', he', z⟩
      · rw [z, m1_nI (by omega)] at hxe; cases hxe
      · have := (nI_eq (by omega) (by omega)).mp (z.symm.trans hxe)
        subst this
        rw [if_neg (by omega)]
        exact (hd x (by omega)).2 e' he' z
  · by_cases q : x = nB s
    · subst q
      rw [g7 p hp]
      exact ⟨⟨0, by omega, rfl⟩, fun _ => rfl⟩
    · rw [ea _ _ (by omega) (by omega) (by omega)]
      exact i8 x (by omega) p hp
  · obtain ⟨j1, j2⟩ := i9 r hr
    exact ⟨rg_mono j1 (by omega), j2⟩
  · obtain ⟨j1, j2⟩ := i10 l hl
    exact ⟨rg_mono j1 (by omega), j2⟩
  · obtain ⟨j1, j2⟩ := i11 k hk
    exact ⟨rg_mono j1 (by omega), j2⟩
theorem c103 (L : Lay v c w) (V : StC w 30 s) (I : InvS s) (hB2 : nB s < 40) {p t : Nat} (hp : p < 12) : ∃ y, fn_103 30 (nI p) (nI t) w = some (nI (nB s), y) ∧ Lay v c y ∧ (∀ a j, ¬ (a = 31 ∧ j = 2) → ¬ (a = 32 ∧ 6 * nB s ≤ j ∧ j < 6 * nB s + 6) → ¬ (a = 39 ∧ 12 * nB s ≤ j ∧ j < 12 * nB s + 12) → cm_I y a j = cm_I w a j) ∧ cm_I y 31 2 = nI (nB s + 1) ∧ cm_I y 32 (6 * nB s) = nI p ∧ cm_I y 32 (6 * nB s + 1) = nI t ∧ cm_I y 32 (6 * nB s + 2) = nI p ∧ cm_I y 32 (6 * nB s + 3) = -1 ∧ cm_I y 32 (6 * nB s + 4) = (1 : Int32) <<< (nI p &&& 31) ∧ cm_I y 32 (6 * nB s + 5) = s 96 8 ∧ (∀ q, q < 12 → cm_I y 39 (12 * nB s + q) = 0) ∧ cm_L y = cm_L w := by
  have hn := V.1.1.trans I.2.1.1
  have a1 : fn_98 31 w = some (nI (nB s), cm_sI w 31 2 (nI (nB s + 1))) := app_in (by simp only [LSt L]) (by rw [fulB L V I]; simp; omega) hn (by decide)
  unfold fn_103
  rw [if_pos (S30 L), R30_0 L, if_pos (S31 L), a1, Option.bind_some]
  dsimp only
  rw [if_pos (S30 (w := (cm_sI w 31 2 (nI (nB s + 1)))) L), R30_0 (w := (cm_sI w 31 2 (nI (nB s + 1)))) L, if_pos (S31 (w := (cm_sI w 31 2 (nI (nB s + 1)))) L), setBb (w := (cm_sI w 31 2 (nI (nB s + 1)))) (n := nB s + 1) (k := nB s) (j := 0) L (by simp (disch := omega) only [I_ne, I_nk]; exact V.2.1.1) (by simp (disch := omega) only [I_ne, I_nk, I_eq]) (by omega) (Nat.lt_succ_self _) (by decide)]
  rw [if_pos (S30 (w := (cm_sI (cm_sI w 31 2 (nI (nB s + 1))) 32 (6 * nB s + 0) (nI p))) L), R30_0 (w := (cm_sI (cm_sI w 31 2 (nI (nB s + 1))) 32 (6 * nB s + 0) (nI p))) L, if_pos (S31 (w := (cm_sI (cm_sI w 31 2 (nI (nB s + 1))) 32 (6 * nB s + 0) (nI p))) L), setBb (w := (cm_sI (cm_sI w 31 2 (nI (nB s + 1))) 32 (6 * nB s + 0) (nI p))) (n := nB s + 1) (k := nB s) (j := 1) L (by simp (disch := omega) only [I_ne, I_nk]; exact V.2.1.1) (by simp (disch := omega) only [I_ne, I_nk, I_eq]) (by omega) (Nat.lt_succ_self _) (by decide)]
  rw [if_pos (S30 (w := (cm_sI (cm_sI (cm_sI w 31 2 (nI (nB s + 1))) 32 (6 * nB s + 0) (nI p)) 32 (6 * nB s + 1) (nI t))) L), R30_0 (w := (cm_sI (cm_sI (cm_sI w 31 2 (nI (nB s + 1))) 32 (6 * nB s + 0) (nI p)) 32 (6 * nB s + 1) (nI t))) L, if_pos (S31 (w := (cm_sI (cm_sI (cm_sI w 31 2 (nI (nB s + 1))) 32 (6 * nB s + 0) (nI p)) 32 (6 * nB s + 1) (nI t))) L), setBb (w := (cm_sI (cm_sI (cm_sI w 31 2 (nI (nB s + 1))) 32 (6 * nB s + 0) (nI p)) 32 (6 * nB s + 1) (nI t))) (n := nB s + 1) (k := nB s) (j := 2) L (by simp (disch := omega) only [I_ne, I_nk]; exact V.2.1.1) (by simp (disch := omega) only [I_ne, I_nk, I_eq]) (by omega) (Nat.lt_succ_self _) (by decide)]
  rw [if_pos (S30 (w := (cm_sI (cm_sI (cm_sI (cm_sI w 31 2 (nI (nB s + 1))) 32 (6 * nB s + 0) (nI p)) 32 (6 * nB s + 1) (nI t)) 32 (6 * nB s + 2) (nI p))) L), R30_0 (w := (cm_sI (cm_sI (cm_sI (cm_sI w 31 2 (nI (nB s + 1))) 32 (6 * nB s + 0) (nI p)) 32 (6 * nB s + 1) (nI t)) 32 (6 * nB s + 2) (nI p))) L, if_pos (S31 (w := (cm_sI (cm_sI (cm_sI (cm_sI w 31 2 (nI (nB s + 1))) 32 (6 * nB s + 0) (nI p)) 32 (6 * nB s + 1) (nI t)) 32 (6 * nB s + 2) (nI p))) L), setBb (w := (cm_sI (cm_sI (cm_sI (cm_sI w 31 2 (nI (nB s + 1))) 32 (6 * nB s + 0) (nI p)) 32 (6 * nB s + 1) (nI t)) 32 (6 * nB s + 2) (nI p))) (n := nB s + 1) (k := nB s) (j := 3) L (by simp (disch := omega) only [I_ne, I_nk]; exact V.2.1.1) (by simp (disch := omega) only [I_ne, I_nk, I_eq]) (by omega) (Nat.lt_succ_self _) (by decide)]
  rw [if_pos (S30 (w := (cm_sI (cm_sI (cm_sI (cm_sI (cm_sI w 31 2 (nI (nB s + 1))) 32 (6 * nB s + 0) (nI p)) 32 (6 * nB s + 1) (nI t)) 32 (6 * nB s + 2) (nI p)) 32 (6 * nB s + 3) (-1))) L), R30_0 (w := (cm_sI (cm_sI (cm_sI (cm_sI (cm_sI w 31 2 (nI (nB s + 1))) 32 (6 * nB s + 0) (nI p)) 32 (6 * nB s + 1) (nI t)) 32 (6 * nB s + 2) (nI p)) 32 (6 * nB s + 3) (-1))) L, if_pos (S31 (w := (cm_sI (cm_sI (cm_sI (cm_sI (cm_sI w 31 2 (nI (nB s + 1))) 32 (6 * nB s + 0) (nI p)) 32 (6 * nB s + 1) (nI t)) 32 (6 * nB s + 2) (nI p)) 32 (6 * nB s + 3) (-1))) L), setBb (w := (cm_sI (cm_sI (cm_sI (cm_sI (cm_sI w 31 2 (nI (nB s + 1))) 32 (6 * nB s + 0) (nI p)) 32 (6 * nB s + 1) (nI t)) 32 (6 * nB s + 2) (nI p)) 32 (6 * nB s + 3) (-1))) (n := nB s + 1) (k := nB s) (j := 4) L (by simp (disch := omega) only [I_ne, I_nk]; exact V.2.1.1) (by simp (disch := omega) only [I_ne, I_nk, I_eq]) (by omega) (Nat.lt_succ_self _) (by decide)]
  have k6 : ∀ y, y = (cm_sI (cm_sI (cm_sI (cm_sI (cm_sI (cm_sI w 31 2 (nI (nB s + 1))) 32 (6 * nB s + 0) (nI p)) 32 (6 * nB s + 1) (nI t)) 32 (6 * nB s + 2) (nI p)) 32 (6 * nB s + 3) (-1)) 32 (6 * nB s + 4) 0) → cm_I y 30 6 = s 96 8 := fun y e => by subst e; simp (disch := omega) only [I_ne]; exact V.1.2.2.2.2
  rw [k6 _ rfl]
  rw [if_pos (S30 (w := (cm_sI (cm_sI (cm_sI (cm_sI (cm_sI (cm_sI w 31 2 (nI (nB s + 1))) 32 (6 * nB s + 0) (nI p)) 32 (6 * nB s + 1) (nI t)) 32 (6 * nB s + 2) (nI p)) 32 (6 * nB s + 3) (-1)) 32 (6 * nB s + 4) 0)) L), R30_0 (w := (cm_sI (cm_sI (cm_sI (cm_sI (cm_sI (cm_sI w 31 2 (nI (nB s + 1))) 32 (6 * nB s + 0) (nI p)) 32 (6 * nB s + 1) (nI t)) 32 (6 * nB s + 2) (nI p)) 32 (6 * nB s + 3) (-1)) 32 (6 * nB s + 4) 0)) L, if_pos (S31 (w := (cm_sI (cm_sI (cm_sI (cm_sI (cm_sI (cm_sI w 31 2 (nI (nB s + 1))) 32 (6 * nB s + 0) (nI p)) 32 (6 * nB s + 1) (nI t)) 32 (6 * nB s + 2) (nI p)) 32 (6 * nB s + 3) (-1)) 32 (6 * nB s + 4) 0)) L), setBb (w := (cm_sI (cm_sI (cm_sI (cm_sI (cm_sI (cm_sI w 31 2 (nI (nB s + 1))) 32 (6 * nB s + 0) (nI p)) 32 (6 * nB s + 1) (nI t)) 32 (6 * nB s + 2) (nI p)) 32 (6 * nB s + 3) (-1)) 32 (6 * nB s + 4) 0)) (n := nB s + 1) (k := nB s) (j := 5) L (by simp (disch := omega) only [I_ne, I_nk]; exact V.2.1.1) (by simp (disch := omega) only [I_ne, I_nk, I_eq]) (by omega) (Nat.lt_succ_self _) (by decide)]
  obtain ⟨y1, hy1⟩ : ∃ y, y = (cm_sI (cm_sI (cm_sI (cm_sI (cm_sI (cm_sI (cm_sI w 31 2 (nI (nB s + 1))) 32 (6 * nB s + 0) (nI p)) 32 (6 * nB s + 1) (nI t)) 32 (6 * nB s + 2) (nI p)) 32 (6 * nB s + 3) (-1)) 32 (6 * nB s + 4) 0) 32 (6 * nB s + 5) (s 96 8)) := ⟨_, rfl⟩
  rw [← hy1]
  have L_1 : Lay v c y1 := by rw [hy1]; exact L
  have q0 : cm_I y1 31 0 = 6 := by rw [hy1]; simp (disch := omega) only [I_ne, I_nk]; exact V.2.1.1
  have q2 : cm_I y1 31 2 = nI (nB s + 1) := by rw [hy1]; simp (disch := omega) only [I_ne, I_eq]
  have q4 : cm_I y1 32 (6 * nB s + 4) = 0 := by rw [hy1]; simp (disch := omega) only [I_nk, I_eq]
  have g4 : fn_1 y1 31 (nI (nB s)) 4 = some 0 := (get_in (W := 6) (n := nB s + 1) (N := 240) (ce := 32) (c := 4) (S31 L_1) (by simp only [LSt L_1]) (by intro i; simp only [LSt L_1]) q0 q2 (by omega) (by omega) (by omega) (Nat.lt_succ_self _) (by omega) (by omega)).trans (congrArg some q4)
  have s4 : ∀ z : Int32, fn_99 31 (nI (nB s)) 4 z y1 = some (cm_sI y1 32 (6 * nB s + 4) z) := fun z => setB (w := y1) (n := nB s + 1) (k := nB s) (j := 4) L_1 q0 q2 (by omega) (Nat.lt_succ_self _) (by decide)
  have e1 : fn_101 30 (nI (nB s)) (nI p) y1 = some (cm_sI y1 32 (6 * nB s + 4) ((1 : Int32) <<< (nI p &&& 31))) := by
    simp (disch := omega) only [fn_101, c100, ↓LStb L_1, LSt L_1, g4, s4, Int32.zero_or, eq_self, Nat.le_refl, Nat.lt_irrefl, some_if, Option.bind_some, Option.bind_none, Option.some.injEq, ↓reduceIte, reduceCtorEq, Bool.false_eq_true, Bool.true_eq_false, not_true_eq_false, not_false_eq_true, cmb0, cmb1, Nat.reduceAdd, Nat.reduceMul, Nat.reduceSub, Nat.add_zero, Bool.not_eq_true, Bool.not_eq_false, Nat.reduceEqDiff, Nat.reduceLeDiff, Nat.reduceLT, Int32.reduceLT, Int32.reduceLE, iin_nI, iin_lit, iin_m1, tn_nI, tn_lit, nI_lm, nI_ml, nI_al, nI_la, nI_add, pk_mul, nI_le_l, nI_l_le, nI_lt_l, nI_l_lt, nI_eq_l, nI_l_eq, nI_eqP, nI_leP, nI_ltP, nI_m1, m1_nI, nI_ll, m1_l, l_m1]
  rw [if_pos (S30 L_1), e1, Option.bind_some]
  obtain ⟨y2, hy2⟩ : ∃ y, y = cm_sI y1 32 (6 * nB s + 4) ((1 : Int32) <<< (nI p &&& 31)) := ⟨_, rfl⟩
  rw [← hy2]
  have L_2 : Lay v c y2 := by rw [hy2]; exact L_1
  have Lk : ∀ k, Lay v c (fup (fun q y => cm_sI y 39 (12 * nB s + q) 0) y2 k) := by
    intro k
    induction k with
    | zero => exact L_2
    | succ k ih => exact ih
  have lp : fn_103_80 cm_N 30 (nI (nB s)) 0 y2 = some (nI (nB s), fup (fun q y => cm_sI y 39 (12 * nB s + q) 0) y2 12) := by
    refine up_0 (fun m k a => fn_103_80 m 30 (nI (nB s)) (nI k) a) 12 (fun k a => a = fup (fun q y => cm_sI y 39 (12 * nB s + q) 0) y2 k) (fun o => o = _) y2 (by omega) rfl (fun m k a hk ha => Or.inr ⟨_, rfl, ?_⟩) (fun m a ha => ?_)
    · subst ha
      have hk' : ¬ 12 ≤ k := by omega
      have LL := Lk k
      have h18 : fn_18 (fup (fun q y => cm_sI y 39 (12 * nB s + q) 0) y2 k) (nI (nB s)) (nI k) = some true := by
        unfold fn_18
        rw [if_neg (nI_pos (by omega)), if_neg (show ¬ (40 : Int32) ≤ nI (nB s) from nI_ge (b := 40) (by omega) (by decide)), if_neg (nI_pos (by omega)), if_neg (show ¬ (12 : Int32) ≤ nI k from nI_ge (b := 12) (by omega) (by decide))]
      have e2 : fn_102 30 (nI (nB s)) (nI k) 0 (fup (fun q y => cm_sI y 39 (12 * nB s + q) 0) y2 k) = some (cm_sI (fup (fun q y => cm_sI y 39 (12 * nB s + q) 0) y2 k) 39 (12 * nB s + k) 0) := by
        simp (disch := omega) only [fn_102, h18, ↓LStb LL, LSt LL, cm_w2, Nat.reduceLeDiff, Nat.reduceLT, decide_true, Bool.and_self, Bool.and_true, eq_self, Nat.le_refl, Nat.lt_irrefl, some_if, Option.bind_some, Option.bind_none, Option.some.injEq, ↓reduceIte, reduceCtorEq, Bool.false_eq_true, Bool.true_eq_false, not_true_eq_false, not_false_eq_true, cmb0, cmb1, Nat.reduceAdd, Nat.reduceMul, Nat.reduceSub, Nat.add_zero, Bool.not_eq_true, Bool.not_eq_false, Nat.reduceEqDiff, Nat.reduceLeDiff, Nat.reduceLT, Int32.reduceLT, Int32.reduceLE, iin_nI, iin_lit, iin_m1, tn_nI, tn_lit, nI_lm, nI_ml, nI_al, nI_la, nI_add, pk_mul, nI_le_l, nI_l_le, nI_lt_l, nI_l_lt, nI_eq_l, nI_l_eq, nI_eqP, nI_leP, nI_ltP, nI_m1, m1_nI, nI_ll, m1_l, l_m1]
      simp (disch := omega) only [fn_103_80, hk', S30 LL, e2, eq_self, Nat.le_refl, Nat.lt_irrefl, some_if, Option.bind_some, Option.bind_none, Option.some.injEq, ↓reduceIte, reduceCtorEq, Bool.false_eq_true, Bool.true_eq_false, not_true_eq_false, not_false_eq_true, cmb0, cmb1, Nat.reduceAdd, Nat.reduceMul, Nat.reduceSub, Nat.add_zero, Bool.not_eq_true, Bool.not_eq_false, Nat.reduceEqDiff, Nat.reduceLeDiff, Nat.reduceLT, Int32.reduceLT, Int32.reduceLE, iin_nI, iin_lit, iin_m1, tn_nI, tn_lit, nI_lm, nI_ml, nI_al, nI_la, nI_add, pk_mul, nI_le_l, nI_l_le, nI_lt_l, nI_l_lt, nI_eq_l, nI_l_eq, nI_eqP, nI_leP, nI_ltP, nI_m1, m1_nI, nI_ll, m1_l, l_m1]
      rfl
    · subst ha
      simp (disch := omega) only [fn_103_80, eq_self, Nat.le_refl, Nat.lt_irrefl, some_if, Option.bind_some, Option.bind_none, Option.some.injEq, ↓reduceIte, reduceCtorEq, Bool.false_eq_true, Bool.true_eq_false, not_true_eq_false, not_false_eq_true, cmb0, cmb1, Nat.reduceAdd, Nat.reduceMul, Nat.reduceSub, Nat.add_zero, Bool.not_eq_true, Bool.not_eq_false, Nat.reduceEqDiff, Nat.reduceLeDiff, Nat.reduceLT, Int32.reduceLT, Int32.reduceLE, iin_nI, iin_lit, iin_m1, tn_nI, tn_lit, nI_lm, nI_ml, nI_al, nI_la, nI_add, pk_mul, nI_le_l, nI_l_le, nI_lt_l, nI_l_lt, nI_eq_l, nI_l_eq, nI_eqP, nI_leP, nI_ltP, nI_m1, m1_nI, nI_ll, m1_l, l_m1]
  have fr : ∀ k a j, ¬ (a = 39 ∧ 12 * nB s ≤ j ∧ j < 12 * nB s + k) → cm_I (fup (fun q y => cm_sI y 39 (12 * nB s + q) 0) y2 k) a j = cm_I y2 a j := by
    intro k
    induction k with
    | zero => intro a j _; rfl
    | succ k ih =>
      intro a j h
      show cm_I (cm_sI _ 39 (12 * nB s + k) 0) a j = _
      rw [I_if, if_neg (by omega)]
      exact ih a j (by omega)
  have fz : ∀ k q, q < k → cm_I (fup (fun q y => cm_sI y 39 (12 * nB s + q) 0) y2 k) 39 (12 * nB s + q) = 0 := by
    intro k
    induction k with
    | zero => intro q h; omega
    | succ k ih =>
      intro q h
      show cm_I (cm_sI _ 39 (12 * nB s + k) 0) 39 (12 * nB s + q) = _
      by_cases e : q = k
      · subst e; exact I_eq
      · rw [I_nk (by omega)]; exact ih q (by omega)
  have fL : ∀ k, cm_L (fup (fun q y => cm_sI y 39 (12 * nB s + q) 0) y2 k) = cm_L y2 := by
    intro k
    induction k with
    | zero => rfl
    | succ k ih => exact ih
  have out : ∀ a j, ¬ (a = 31 ∧ j = 2) → ¬ (a = 32 ∧ 6 * nB s ≤ j ∧ j < 6 * nB s + 6) → cm_I y2 a j = cm_I w a j := by
    intro a j h1 h2
    rw [hy2, hy1]
    rw [I_if, if_neg (by omega), I_if, if_neg (by omega), I_if, if_neg (by omega), I_if, if_neg (by omega), I_if, if_neg (by omega), I_if, if_neg (by omega), I_if, if_neg (by omega), I_if, if_neg h1]
  refine ⟨_, lp, Lk 12, fun a j h1 h2 h3 => (fr 12 a j h3).trans (out a j h1 h2), ?_, ?_, ?_, ?_, ?_, ?_, ?_, fz 12, (fL 12).trans (by rw [hy2, hy1]; rfl)⟩
  · rw [fr _ _ _ (by omega), hy2, I_ne (by omega)]; exact q2
  · rw [fr _ _ _ (by omega), hy2, hy1]; simp (disch := omega) only [I_nk, I_eq]; rw [I_if, if_pos ⟨rfl, rfl⟩]
  · rw [fr _ _ _ (by omega), hy2, hy1]; simp (disch := omega) only [I_nk, I_eq]
  · rw [fr _ _ _ (by omega), hy2, hy1]; simp (disch := omega) only [I_nk, I_eq]
  · rw [fr _ _ _ (by omega), hy2, hy1]; simp (disch := omega) only [I_nk, I_eq]
  · rw [fr _ _ _ (by omega), hy2]; simp (disch := omega) only [I_nk, I_eq]
  · rw [fr _ _ _ (by omega), hy2, hy1]; simp (disch := omega) only [I_nk, I_eq]
end BOX
