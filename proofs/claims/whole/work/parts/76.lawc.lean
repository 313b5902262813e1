/-! lost, law, best: the calls -/
def bst (s : St) (m : Nat) : Nat → Nat
  | 0 => 0
  | k + 1 => if lostv s (bst s m k) m ≤ lostv s k m then bst s m k else k
def rpo (s : St) (i : Int32) (m : Nat) : Int32 := rp (mkt s 1 i (-1) m)
def bsm (s : St) (i : Int32) : Nat → Nat
  | 0 => 0
  | k + 1 => if rpo s i k ≤ rpo s i (bsm s i k) then bsm s i k else k
section LAWC
variable {v c u n m l : Nat} {w w' : cm_W} {s s' : St}
theorem m277 (L : Lay v c w) (R : RelM w s) (I : InvV s) : fn_277 w 96 = some (decide (0 < nT s ∧ 0 < nP s)) := by
  have hT := I.1
  have hP := I.2.1
  by_cases a : nT s = 0
  · rw [decide_eq_false (fun h => by omega)]
    simp (disch := omega) only [fn_277, LM L, RM R, hT.1, a, eq_self, Nat.le_refl, Nat.lt_irrefl, some_if, Option.bind_some, Option.bind_none, Option.some.injEq, ↓reduceIte, reduceCtorEq, Bool.false_eq_true, Bool.true_eq_false, not_true_eq_false, not_false_eq_true, cmb0, cmb1, Nat.reduceAdd, Nat.reduceMul, Nat.reduceSub, Nat.add_zero, Bool.not_eq_true, Bool.not_eq_false, Nat.reduceEqDiff, Nat.reduceLeDiff, Nat.reduceLT, Int32.reduceLT, Int32.reduceLE, iin_nI, iin_lit, iin_m1, tn_nI, tn_lit, nI_lm, nI_ml, nI_al, nI_la, nI_add, pk_mul, nI_le_l, nI_l_le, nI_lt_l, nI_l_lt, nI_eq_l, nI_l_eq, nI_eqP, nI_leP, nI_ltP, nI_m1, m1_nI, nI_ll, m1_l, l_m1]
  · by_cases b : nP s = 0
    · rw [decide_eq_false (fun h => by omega)]
      have a' : ¬ nT s ≤ 0 := by omega
      simp (disch := omega) only [fn_277, LM L, RM R, hT.1, hP.1, a', b, eq_self, Nat.le_refl, Nat.lt_irrefl, some_if, Option.bind_some, Option.bind_none, Option.some.injEq, ↓reduceIte, reduceCtorEq, Bool.false_eq_true, Bool.true_eq_false, not_true_eq_false, not_false_eq_true, cmb0, cmb1, Nat.reduceAdd, Nat.reduceMul, Nat.reduceSub, Nat.add_zero, Bool.not_eq_true, Bool.not_eq_false, Nat.reduceEqDiff, Nat.reduceLeDiff, Nat.reduceLT, Int32.reduceLT, Int32.reduceLE, iin_nI, iin_lit, iin_m1, tn_nI, tn_lit, nI_lm, nI_ml, nI_al, nI_la, nI_add, pk_mul, nI_le_l, nI_l_le, nI_lt_l, nI_l_lt, nI_eq_l, nI_l_eq, nI_eqP, nI_leP, nI_ltP, nI_m1, m1_nI, nI_ll, m1_l, l_m1]
    · have a' : ¬ nT s ≤ 0 := by omega
      have b' : ¬ nP s ≤ 0 := by omega
      rw [decide_eq_true ⟨by omega, by omega⟩]
      simp (disch := omega) only [fn_277, LM L, RM R, hT.1, hP.1, a', b', eq_self, Nat.le_refl, Nat.lt_irrefl, some_if, Option.bind_some, Option.bind_none, Option.some.injEq, ↓reduceIte, reduceCtorEq, Bool.false_eq_true, Bool.true_eq_false, not_true_eq_false, not_false_eq_true, cmb0, cmb1, Nat.reduceAdd, Nat.reduceMul, Nat.reduceSub, Nat.add_zero, Bool.not_eq_true, Bool.not_eq_false, Nat.reduceEqDiff, Nat.reduceLeDiff, Nat.reduceLT, Int32.reduceLT, Int32.reduceLE, iin_nI, iin_lit, iin_m1, tn_nI, tn_lit, nI_lm, nI_ml, nI_al, nI_la, nI_add, pk_mul, nI_le_l, nI_l_le, nI_lt_l, nI_l_lt, nI_eq_l, nI_l_eq, nI_eqP, nI_leP, nI_ltP, nI_m1, m1_nI, nI_ll, m1_l, l_m1]
theorem w_lost (g : GG v c w s) (i1 i2 : Int32) : OKW (fn_174 2 i1 i2) (fn_278 96 i1 i2) w := by
  obtain ⟨L, M, C, Z, I⟩ := id g
  have hv := L.1
  have V := C.2.1
  rcases iin_cs i1 (n := 4) (by omega) with h | ⟨l, hl, rfl⟩
  · refine ok_bad g ?_ (fun x L1 M1 => ?_)
    · simp (disch := omega) only [fn_174, claw, h, eq_self, Nat.le_refl, Nat.lt_irrefl, some_if, Option.bind_some, Option.bind_none, Option.some.injEq, ↓reduceIte, reduceCtorEq, Bool.false_eq_true, Bool.true_eq_false, not_true_eq_false, not_false_eq_true, cmb0, cmb1, Nat.reduceAdd, Nat.reduceMul, Nat.reduceSub, Nat.add_zero, Bool.not_eq_true, Bool.not_eq_false, Nat.reduceEqDiff, Nat.reduceLeDiff, Nat.reduceLT, Int32.reduceLT, Int32.reduceLE, iin_nI, iin_lit, iin_m1, tn_nI, tn_lit, nI_lm, nI_ml, nI_al, nI_la, nI_add, pk_mul, nI_le_l, nI_l_le, nI_lt_l, nI_l_lt, nI_eq_l, nI_l_eq, nI_eqP, nI_leP, nI_ltP, nI_m1, m1_nI, nI_ll, m1_l, l_m1]
    · simp (disch := omega) only [fn_278, mlaw, h, eq_self, Nat.le_refl, Nat.lt_irrefl, some_if, Option.bind_some, Option.bind_none, Option.some.injEq, ↓reduceIte, reduceCtorEq, Bool.false_eq_true, Bool.true_eq_false, not_true_eq_false, not_false_eq_true, cmb0, cmb1, Nat.reduceAdd, Nat.reduceMul, Nat.reduceSub, Nat.add_zero, Bool.not_eq_true, Bool.not_eq_false, Nat.reduceEqDiff, Nat.reduceLeDiff, Nat.reduceLT, Int32.reduceLT, Int32.reduceLE, iin_nI, iin_lit, iin_m1, tn_nI, tn_lit, nI_lm, nI_ml, nI_al, nI_la, nI_add, pk_mul, nI_le_l, nI_l_le, nI_lt_l, nI_l_lt, nI_eq_l, nI_l_eq, nI_eqP, nI_leP, nI_ltP, nI_m1, m1_nI, nI_ll, m1_l, l_m1]
  rcases iin_cs i2 (n := 6) (by omega) with h | ⟨m, hm, rfl⟩
  · refine ok_bad g ?_ (fun x L1 M1 => ?_)
    · simp (disch := omega) only [fn_174, claw, bmon, h, eq_self, Nat.le_refl, Nat.lt_irrefl, some_if, Option.bind_some, Option.bind_none, Option.some.injEq, ↓reduceIte, reduceCtorEq, Bool.false_eq_true, Bool.true_eq_false, not_true_eq_false, not_false_eq_true, cmb0, cmb1, Nat.reduceAdd, Nat.reduceMul, Nat.reduceSub, Nat.add_zero, Bool.not_eq_true, Bool.not_eq_false, Nat.reduceEqDiff, Nat.reduceLeDiff, Nat.reduceLT, Int32.reduceLT, Int32.reduceLE, iin_nI, iin_lit, iin_m1, tn_nI, tn_lit, nI_lm, nI_ml, nI_al, nI_la, nI_add, pk_mul, nI_le_l, nI_l_le, nI_lt_l, nI_l_lt, nI_eq_l, nI_l_eq, nI_eqP, nI_leP, nI_ltP, nI_m1, m1_nI, nI_ll, m1_l, l_m1]
    · simp (disch := omega) only [fn_278, mlaw, mmon (a := 0) _ L1, h, eq_self, Nat.le_refl, Nat.lt_irrefl, some_if, Option.bind_some, Option.bind_none, Option.some.injEq, ↓reduceIte, reduceCtorEq, Bool.false_eq_true, Bool.true_eq_false, not_true_eq_false, not_false_eq_true, cmb0, cmb1, Nat.reduceAdd, Nat.reduceMul, Nat.reduceSub, Nat.add_zero, Bool.not_eq_true, Bool.not_eq_false, Nat.reduceEqDiff, Nat.reduceLeDiff, Nat.reduceLT, Int32.reduceLT, Int32.reduceLE, iin_nI, iin_lit, iin_m1, tn_nI, tn_lit, nI_lm, nI_ml, nI_al, nI_la, nI_add, pk_mul, nI_le_l, nI_l_le, nI_lt_l, nI_l_lt, nI_eq_l, nI_l_eq, nI_eqP, nI_leP, nI_ltP, nI_m1, m1_nI, nI_ll, m1_l, l_m1]
  obtain ⟨y, y1, F⟩ := c47 L hv V I.1 hl hm
  refine ok_ro (r := lostv s l m) g ⟨y, ?_, F⟩ (fun x L1 M1 _ => ?_)
  · simp (disch := omega) only [fn_174, claw, bmon, ↓LCb L, LC L, y1, eq_self, Nat.le_refl, Nat.lt_irrefl, some_if, Option.bind_some, Option.bind_none, Option.some.injEq, ↓reduceIte, reduceCtorEq, Bool.false_eq_true, Bool.true_eq_false, not_true_eq_false, not_false_eq_true, cmb0, cmb1, Nat.reduceAdd, Nat.reduceMul, Nat.reduceSub, Nat.add_zero, Bool.not_eq_true, Bool.not_eq_false, Nat.reduceEqDiff, Nat.reduceLeDiff, Nat.reduceLT, Int32.reduceLT, Int32.reduceLE, iin_nI, iin_lit, iin_m1, tn_nI, tn_lit, nI_lm, nI_ml, nI_al, nI_la, nI_add, pk_mul, nI_le_l, nI_l_le, nI_lt_l, nI_l_lt, nI_eq_l, nI_l_eq, nI_eqP, nI_leP, nI_ltP, nI_m1, m1_nI, nI_ll, m1_l, l_m1]
  · have e := m277 L1 M1 I.1
    by_cases z : 0 < nT s ∧ 0 < nP s
    · rw [decide_eq_true z] at e
      obtain ⟨y, y1, F⟩ := m276 L1 M1 I.1 hl hm
      refine ⟨y, ?_, F⟩
      simp (disch := omega) only [fn_278, mlaw, mmon (a := 0) _ L1, LM L1, e, y1, eq_self, Nat.le_refl, Nat.lt_irrefl, some_if, Option.bind_some, Option.bind_none, Option.some.injEq, ↓reduceIte, reduceCtorEq, Bool.false_eq_true, Bool.true_eq_false, not_true_eq_false, not_false_eq_true, cmb0, cmb1, Nat.reduceAdd, Nat.reduceMul, Nat.reduceSub, Nat.add_zero, Bool.not_eq_true, Bool.not_eq_false, Nat.reduceEqDiff, Nat.reduceLeDiff, Nat.reduceLT, Int32.reduceLT, Int32.reduceLE, iin_nI, iin_lit, iin_m1, tn_nI, tn_lit, nI_lm, nI_ml, nI_al, nI_la, nI_add, pk_mul, nI_le_l, nI_l_le, nI_lt_l, nI_l_lt, nI_eq_l, nI_l_eq, nI_eqP, nI_leP, nI_ltP, nI_m1, m1_nI, nI_ll, m1_l, l_m1]
    · rw [decide_eq_false z] at e
      refine ⟨x, ?_, FM.rf L1 M1⟩
      rw [lostv_0 I.1 hl (by omega)]
      simp (disch := omega) only [fn_278, mlaw, mmon (a := 0) _ L1, LM L1, e, eq_self, Nat.le_refl, Nat.lt_irrefl, some_if, Option.bind_some, Option.bind_none, Option.some.injEq, ↓reduceIte, reduceCtorEq, Bool.false_eq_true, Bool.true_eq_false, not_true_eq_false, not_false_eq_true, cmb0, cmb1, Nat.reduceAdd, Nat.reduceMul, Nat.reduceSub, Nat.add_zero, Bool.not_eq_true, Bool.not_eq_false, Nat.reduceEqDiff, Nat.reduceLeDiff, Nat.reduceLT, Int32.reduceLT, Int32.reduceLE, iin_nI, iin_lit, iin_m1, tn_nI, tn_lit, nI_lm, nI_ml, nI_al, nI_la, nI_add, pk_mul, nI_le_l, nI_l_le, nI_lt_l, nI_l_lt, nI_eq_l, nI_l_eq, nI_eqP, nI_leP, nI_ltP, nI_m1, m1_nI, nI_ll, m1_l, l_m1]
theorem bst_lt : ∀ k, bst s m (k + 1) ≤ k := by
  intro k
  induction k with
  | zero => show (if _ then _ else _) ≤ 0; split <;> exact Nat.le_refl _
  | succ k ih =>
    show (if _ then bst s m (k + 1) else k + 1) ≤ k + 1
    split
    · exact Nat.le_succ_of_le ih
    · exact Nat.le_refl _
theorem w_law (g : GG v c w s) (i1 : Int32) : OKW (fn_175 2 i1) (fn_279 96 i1) w := by
  obtain ⟨L, M, C, Z, I⟩ := id g
  have hv := L.1
  have V := C.2.1
  rcases iin_cs i1 (n := 6) (by omega) with h | ⟨m, hm, rfl⟩
  · refine ok_bad g ?_ (fun x L1 M1 => ?_)
    · have : ∀ n, fn_175_7 (n + 1) 2 i1 (-1) 0 0 w = some (-1, w) := fun n => by
        simp (disch := omega) only [fn_175_7, bmon, h, eq_self, Nat.le_refl, Nat.lt_irrefl, some_if, Option.bind_some, Option.bind_none, Option.some.injEq, ↓reduceIte, reduceCtorEq, Bool.false_eq_true, Bool.true_eq_false, not_true_eq_false, not_false_eq_true, cmb0, cmb1, Nat.reduceAdd, Nat.reduceMul, Nat.reduceSub, Nat.add_zero, Bool.not_eq_true, Bool.not_eq_false, Nat.reduceEqDiff, Nat.reduceLeDiff, Nat.reduceLT, Int32.reduceLT, Int32.reduceLE, iin_nI, iin_lit, iin_m1, tn_nI, tn_lit, nI_lm, nI_ml, nI_al, nI_la, nI_add, pk_mul, nI_le_l, nI_l_le, nI_lt_l, nI_l_lt, nI_eq_l, nI_l_eq, nI_eqP, nI_leP, nI_ltP, nI_m1, m1_nI, nI_ll, m1_l, l_m1]
      exact this 99999
    · simp (disch := omega) only [fn_279, mmon (a := 0) _ L1, h, eq_self, Nat.le_refl, Nat.lt_irrefl, some_if, Option.bind_some, Option.bind_none, Option.some.injEq, ↓reduceIte, reduceCtorEq, Bool.false_eq_true, Bool.true_eq_false, not_true_eq_false, not_false_eq_true, cmb0, cmb1, Nat.reduceAdd, Nat.reduceMul, Nat.reduceSub, Nat.add_zero, Bool.not_eq_true, Bool.not_eq_false, Nat.reduceEqDiff, Nat.reduceLeDiff, Nat.reduceLT, Int32.reduceLT, Int32.reduceLE, iin_nI, iin_lit, iin_m1, tn_nI, tn_lit, nI_lm, nI_ml, nI_al, nI_la, nI_add, pk_mul, nI_le_l, nI_l_le, nI_lt_l, nI_l_lt, nI_eq_l, nI_l_eq, nI_eqP, nI_leP, nI_ltP, nI_m1, m1_nI, nI_ll, m1_l, l_m1]
  by_cases z : 0 < nT s ∧ 0 < nP s
  · have cl : ∃ y, fn_175 2 (nI m) w = some (nI (bst s m 4), y) ∧ FC v c w y := by
      refine up_0 (fun n k (a : (Int32 × Int32) × cm_W) => fn_175_7 n 2 (nI m) a.1.1 a.1.2 (nI k) a.2) 4 (fun k a => FC v c w a.2 ∧ (k = 0 → a.1.1 = -1) ∧ (k ≠ 0 → a.1 = (nI (bst s m k), lostv s (bst s m k) m))) (fun o => ∃ y, o = some (nI (bst s m 4), y) ∧ FC v c w y) ((-1, 0), w) (by omega) ⟨FC.rf L, fun _ => rfl, fun h => absurd rfl h⟩ (fun n k a hk ha => Or.inr ?_) (fun n a ha => ?_)
      · obtain ⟨⟨a1, a2⟩, a⟩ := a
        obtain ⟨F, h1, h2⟩ := ha
        dsimp only at F h1 h2 ⊢
        have hk' : ¬ 4 ≤ k := by omega
        obtain ⟨y, y1, F2⟩ := c47 F.1 hv (F.V V hv) I.1 (l := k) hk hm
        obtain ⟨x, hx, ex⟩ := lostv_n I.1 (l := k) hk hm z.1 z.2
        have nx : ¬ lostv s k m = -1 := by rw [ex, nI_m1 (by omega)]; exact id
        refine ⟨((nI (bst s m (k + 1)), lostv s (bst s m (k + 1)) m), y), ⟨F.tr F2, fun h => by omega, fun _ => rfl⟩, ?_⟩
        by_cases k0 : k = 0
        · subst k0
          have h1 := h1 rfl
          subst h1
          have b1 : bst s m (0 + 1) = 0 := by
            show (if _ then 0 else 0) = 0
            split <;> rfl
          rw [b1]
          simp (disch := omega) only [fn_175_7, fn_175_53, fn_175_59, bmon, hk', ↓LCb F.1, LC F.1, y1, nx, eq_self, Nat.le_refl, Nat.lt_irrefl, some_if, Option.bind_some, Option.bind_none, Option.some.injEq, ↓reduceIte, reduceCtorEq, Bool.false_eq_true, Bool.true_eq_false, not_true_eq_false, not_false_eq_true, cmb0, cmb1, Nat.reduceAdd, Nat.reduceMul, Nat.reduceSub, Nat.add_zero, Bool.not_eq_true, Bool.not_eq_false, Nat.reduceEqDiff, Nat.reduceLeDiff, Nat.reduceLT, Int32.reduceLT, Int32.reduceLE, iin_nI, iin_lit, iin_m1, tn_nI, tn_lit, nI_lm, nI_ml, nI_al, nI_la, nI_add, pk_mul, nI_le_l, nI_l_le, nI_lt_l, nI_l_lt, nI_eq_l, nI_l_eq, nI_eqP, nI_leP, nI_ltP, nI_m1, m1_nI, nI_ll, m1_l, l_m1]
        · have h2 := h2 k0
          injection h2 with h2 h3
          subst h2 h3
          have bs : bst s m (k + 1) = if lostv s (bst s m k) m ≤ lostv s k m then bst s m k else k := rfl
          have bl := bst_lt (s := s) (m := m) (k - 1)
          rw [show k - 1 + 1 = k by omega] at bl
          rw [bs]
          by_cases q : lostv s (bst s m k) m ≤ lostv s k m <;> simp (disch := omega) only [fn_175_7, fn_175_53, fn_175_59, bmon, hk', ↓LCb F.1, LC F.1, y1, nx, q, eq_self, Nat.le_refl, Nat.lt_irrefl, some_if, Option.bind_some, Option.bind_none, Option.some.injEq, ↓reduceIte, reduceCtorEq, Bool.false_eq_true, Bool.true_eq_false, not_true_eq_false, not_false_eq_true, cmb0, cmb1, Nat.reduceAdd, Nat.reduceMul, Nat.reduceSub, Nat.add_zero, Bool.not_eq_true, Bool.not_eq_false, Nat.reduceEqDiff, Nat.reduceLeDiff, Nat.reduceLT, Int32.reduceLT, Int32.reduceLE, iin_nI, iin_lit, iin_m1, tn_nI, tn_lit, nI_lm, nI_ml, nI_al, nI_la, nI_add, pk_mul, nI_le_l, nI_l_le, nI_lt_l, nI_l_lt, nI_eq_l, nI_l_eq, nI_eqP, nI_leP, nI_ltP, nI_m1, m1_nI, nI_ll, m1_l, l_m1]
      · obtain ⟨⟨a1, a2⟩, a⟩ := a
        obtain ⟨F, h1, h2⟩ := ha
        have h2 := h2 (by omega)
        injection h2 with h2 h3
        subst h2 h3
        refine ⟨a, ?_, F⟩
        simp (disch := omega) only [fn_175_7, eq_self, Nat.le_refl, Nat.lt_irrefl, some_if, Option.bind_some, Option.bind_none, Option.some.injEq, ↓reduceIte, reduceCtorEq, Bool.false_eq_true, Bool.true_eq_false, not_true_eq_false, not_false_eq_true, cmb0, cmb1, Nat.reduceAdd, Nat.reduceMul, Nat.reduceSub, Nat.add_zero, Bool.not_eq_true, Bool.not_eq_false, Nat.reduceEqDiff, Nat.reduceLeDiff, Nat.reduceLT, Int32.reduceLT, Int32.reduceLE, iin_nI, iin_lit, iin_m1, tn_nI, tn_lit, nI_lm, nI_ml, nI_al, nI_la, nI_add, pk_mul, nI_le_l, nI_l_le, nI_lt_l, nI_l_lt, nI_eq_l, nI_l_eq, nI_eqP, nI_leP, nI_ltP, nI_m1, m1_nI, nI_ll, m1_l, l_m1]
    obtain ⟨y, y1, F⟩ := cl
    refine ok_ro (r := nI (bst s m 4)) g ⟨y, y1, F⟩ (fun x L1 M1 _ => ?_)
    have e := m277 L1 M1 I.1
    rw [decide_eq_true z] at e
    have e0 : fn_279 96 (nI m) x = fn_279_20 cm_N 96 (nI m) 0 1 x := by
      simp (disch := omega) only [fn_279, fn_279_16, mmon (a := 0) _ L1, LM L1, e, eq_self, Nat.le_refl, Nat.lt_irrefl, some_if, Option.bind_some, Option.bind_none, Option.some.injEq, ↓reduceIte, reduceCtorEq, Bool.false_eq_true, Bool.true_eq_false, not_true_eq_false, not_false_eq_true, cmb0, cmb1, Nat.reduceAdd, Nat.reduceMul, Nat.reduceSub, Nat.add_zero, Bool.not_eq_true, Bool.not_eq_false, Nat.reduceEqDiff, Nat.reduceLeDiff, Nat.reduceLT, Int32.reduceLT, Int32.reduceLE, iin_nI, iin_lit, iin_m1, tn_nI, tn_lit, nI_lm, nI_ml, nI_al, nI_la, nI_add, pk_mul, nI_le_l, nI_l_le, nI_lt_l, nI_l_lt, nI_eq_l, nI_l_eq, nI_eqP, nI_leP, nI_ltP, nI_m1, m1_nI, nI_ll, m1_l, l_m1]
    rw [e0]
    refine up_0 (fun n k (a : Int32 × cm_W) => fn_279_20 n 96 (nI m) a.1 (nI (k + 1)) a.2) 3 (fun k a => FM v c x a.2 s ∧ a.1 = nI (bst s m (k + 1))) (fun o => ∃ y, o = some (nI (bst s m 4), y) ∧ FM v c x y s) (0, x) (by omega) ⟨FM.rf L1 M1, ?_⟩ (fun n k a hk ha => Or.inr ?_) (fun n a ha => ?_)
    · have b1 : bst s m (0 + 1) = 0 := by
        show (if _ then 0 else 0) = 0
        split <;> rfl
      rw [b1]; rfl
    · obtain ⟨a1, a⟩ := a
      obtain ⟨F, h1⟩ := ha
      dsimp only at F h1 ⊢
      subst h1
      have hk' : ¬ 4 ≤ k + 1 := by omega
      have bl := bst_lt (s := s) (m := m) k
      obtain ⟨y1, b1, G1⟩ := m276 F.1 F.2.1 I.1 (l := k + 1) (by omega) hm
      obtain ⟨y2, b2, G2⟩ := m276 G1.1 G1.2.1 I.1 (l := bst s m (k + 1)) (by omega) hm
      have bs : bst s m (k + 1 + 1) = if lostv s (bst s m (k + 1)) m ≤ lostv s (k + 1) m then bst s m (k + 1) else k + 1 := rfl
      refine ⟨(nI (bst s m (k + 1 + 1)), y2), ⟨(F.tr G1).tr G2, rfl⟩, ?_⟩
      rw [bs]
      by_cases q : lostv s (bst s m (k + 1)) m ≤ lostv s (k + 1) m <;> simp (disch := omega) only [fn_279_20, fn_279_42, hk', LM F.1, b1, LM G1.1, b2, q, eq_self, Nat.le_refl, Nat.lt_irrefl, some_if, Option.bind_some, Option.bind_none, Option.some.injEq, ↓reduceIte, reduceCtorEq, Bool.false_eq_true, Bool.true_eq_false, not_true_eq_false, not_false_eq_true, cmb0, cmb1, Nat.reduceAdd, Nat.reduceMul, Nat.reduceSub, Nat.add_zero, Bool.not_eq_true, Bool.not_eq_false, Nat.reduceEqDiff, Nat.reduceLeDiff, Nat.reduceLT, Int32.reduceLT, Int32.reduceLE, iin_nI, iin_lit, iin_m1, tn_nI, tn_lit, nI_lm, nI_ml, nI_al, nI_la, nI_add, pk_mul, nI_le_l, nI_l_le, nI_lt_l, nI_l_lt, nI_eq_l, nI_l_eq, nI_eqP, nI_leP, nI_ltP, nI_m1, m1_nI, nI_ll, m1_l, l_m1]
    · obtain ⟨a1, a⟩ := a
      obtain ⟨F, h1⟩ := ha
      dsimp only at F h1 ⊢
      subst h1
      refine ⟨a, ?_, F⟩
      simp (disch := omega) only [fn_279_20, eq_self, Nat.le_refl, Nat.lt_irrefl, some_if, Option.bind_some, Option.bind_none, Option.some.injEq, ↓reduceIte, reduceCtorEq, Bool.false_eq_true, Bool.true_eq_false, not_true_eq_false, not_false_eq_true, cmb0, cmb1, Nat.reduceAdd, Nat.reduceMul, Nat.reduceSub, Nat.add_zero, Bool.not_eq_true, Bool.not_eq_false, Nat.reduceEqDiff, Nat.reduceLeDiff, Nat.reduceLT, Int32.reduceLT, Int32.reduceLE, iin_nI, iin_lit, iin_m1, tn_nI, tn_lit, nI_lm, nI_ml, nI_al, nI_la, nI_add, pk_mul, nI_le_l, nI_l_le, nI_lt_l, nI_l_lt, nI_eq_l, nI_l_eq, nI_eqP, nI_leP, nI_ltP, nI_m1, m1_nI, nI_ll, m1_l, l_m1]
  · have cl : ∃ y, fn_175 2 (nI m) w = some (-1, y) ∧ FC v c w y := by
      refine up_0 (fun n k (a : (Int32 × Int32) × cm_W) => fn_175_7 n 2 (nI m) a.1.1 a.1.2 (nI k) a.2) 4 (fun k a => FC v c w a.2 ∧ a.1.1 = -1) (fun o => ∃ y, o = some (-1, y) ∧ FC v c w y) ((-1, 0), w) (by omega) ⟨FC.rf L, rfl⟩ (fun n k a hk ha => Or.inr ?_) (fun n a ha => ?_)
      · obtain ⟨⟨a1, a2⟩, a⟩ := a
        obtain ⟨F, h1⟩ := ha
        dsimp only at F h1 ⊢
        subst h1
        have hk' : ¬ 4 ≤ k := by omega
        obtain ⟨y, y1, F2⟩ := c47 F.1 hv (F.V V hv) I.1 (l := k) hk hm
        rw [lostv_0 I.1 (l := k) hk (by omega)] at y1
        refine ⟨((-1, a2), y), ⟨F.tr F2, rfl⟩, ?_⟩
        simp (disch := omega) only [fn_175_7, fn_175_59, bmon, hk', ↓LCb F.1, LC F.1, y1, eq_self, Nat.le_refl, Nat.lt_irrefl, some_if, Option.bind_some, Option.bind_none, Option.some.injEq, ↓reduceIte, reduceCtorEq, Bool.false_eq_true, Bool.true_eq_false, not_true_eq_false, not_false_eq_true, cmb0, cmb1, Nat.reduceAdd, Nat.reduceMul, Nat.reduceSub, Nat.add_zero, Bool.not_eq_true, Bool.not_eq_false, Nat.reduceEqDiff, Nat.reduceLeDiff, Nat.reduceLT, Int32.reduceLT, Int32.reduceLE, iin_nI, iin_lit, iin_m1, tn_nI, tn_lit, nI_lm, nI_ml, nI_al, nI_la, nI_add, pk_mul, nI_le_l, nI_l_le, nI_lt_l, nI_l_lt, nI_eq_l, nI_l_eq, nI_eqP, nI_leP, nI_ltP, nI_m1, m1_nI, nI_ll, m1_l, l_m1]
      · obtain ⟨⟨a1, a2⟩, a⟩ := a
        obtain ⟨F, h1⟩ := ha
        dsimp only at F h1 ⊢
        subst h1
        refine ⟨a, ?_, F⟩
        simp (disch := omega) only [fn_175_7, eq_self, Nat.le_refl, Nat.lt_irrefl, some_if, Option.bind_some, Option.bind_none, Option.some.injEq, ↓reduceIte, reduceCtorEq, Bool.false_eq_true, Bool.true_eq_false, not_true_eq_false, not_false_eq_true, cmb0, cmb1, Nat.reduceAdd, Nat.reduceMul, Nat.reduceSub, Nat.add_zero, Bool.not_eq_true, Bool.not_eq_false, Nat.reduceEqDiff, Nat.reduceLeDiff, Nat.reduceLT, Int32.reduceLT, Int32.reduceLE, iin_nI, iin_lit, iin_m1, tn_nI, tn_lit, nI_lm, nI_ml, nI_al, nI_la, nI_add, pk_mul, nI_le_l, nI_l_le, nI_lt_l, nI_l_lt, nI_eq_l, nI_l_eq, nI_eqP, nI_leP, nI_ltP, nI_m1, m1_nI, nI_ll, m1_l, l_m1]
    obtain ⟨y, y1, F⟩ := cl
    refine ok_ro (r := -1) g ⟨y, y1, F⟩ (fun x L1 M1 _ => ⟨x, ?_, FM.rf L1 M1⟩)
    have e := m277 L1 M1 I.1
    rw [decide_eq_false z] at e
    simp (disch := omega) only [fn_279, mmon (a := 0) _ L1, LM L1, e, eq_self, Nat.le_refl, Nat.lt_irrefl, some_if, Option.bind_some, Option.bind_none, Option.some.injEq, ↓reduceIte, reduceCtorEq, Bool.false_eq_true, Bool.true_eq_false, not_true_eq_false, not_false_eq_true, cmb0, cmb1, Nat.reduceAdd, Nat.reduceMul, Nat.reduceSub, Nat.add_zero, Bool.not_eq_true, Bool.not_eq_false, Nat.reduceEqDiff, Nat.reduceLeDiff, Nat.reduceLT, Int32.reduceLT, Int32.reduceLE, iin_nI, iin_lit, iin_m1, tn_nI, tn_lit, nI_lm, nI_ml, nI_al, nI_la, nI_add, pk_mul, nI_le_l, nI_l_le, nI_lt_l, nI_l_lt, nI_eq_l, nI_l_eq, nI_eqP, nI_leP, nI_ltP, nI_m1, m1_nI, nI_ll, m1_l, l_m1]
end LAWC
