/-! apart, wanted -/
/-- the count with one box more -/
def hm1 (s : St) (b : Nat) (y x : Int32) : Int32 := hm s y x (nB s) + if s 115 b = x then 1 else 0
def mor (s : St) (b p : Nat) : Int32 := pw s (hm1 s b (nI p)) (nQ s) - pw s (fun x => hm s (nI p) x (nB s)) (nQ s)
def wst (s : St) (b : Nat) : Nat → Int32 × Int32 := fup (fun p z => if ho s b = nI p then z else if z.2 < mor s b p then (nI p, mor s b p) else z) (-1, 0)
section APART
variable {v c u n : Nat} {w w' : cm_W} {s s' : St}
theorem ap_E (s : St) (h0 : Int32 → Int32) (hp : Nat → Int32 → Int32) (n : Nat) : ∀ q, fup (fun k a => a + s 110 k * fup (fun p a => a - pmn s (hp p) k) (pmn s h0 k) (n + 1)) 0 q = fup (fun k a => a + s 110 k * fup (fun p a => a - pmn s (hp p) k) (pmn s h0 k) n) 0 q - pw s (hp n) q := by
  intro q
  induction q with
  | zero => show (0 : Int32) = 0 - 0; rfl
  | succ q ih =>
    show fup (fun k a => a + s 110 k * fup (fun p a => a - pmn s (hp p) k) (pmn s h0 k) (n + 1)) 0 q + s 110 q * (fup (fun p a => a - pmn s (hp p) q) (pmn s h0 q) n - pmn s (hp n) q) = (fup (fun k a => a + s 110 k * fup (fun p a => a - pmn s (hp p) k) (pmn s h0 k) n) 0 q + s 110 q * fup (fun p a => a - pmn s (hp p) q) (pmn s h0 q) n) - (pw s (hp n) q + pmn s (hp n) q * s 110 q)
    rw [ih]
    generalize fup (fun k a => a + s 110 k * fup (fun p a => a - pmn s (hp p) k) (pmn s h0 k) n) 0 q = x1
    generalize pw s (hp n) q = x2
    generalize fup (fun p a => a - pmn s (hp p) q) (pmn s h0 q) n = x3
    generalize pmn s (hp n) q = x4
    generalize s 110 q = x5
    grind
theorem ap_D (s : St) (h0 : Int32 → Int32) (hp : Nat → Int32 → Int32) (q : Nat) : ∀ n, fup (fun p a => a - pw s (hp p) q) (pw s h0 q) n = fup (fun k a => a + s 110 k * fup (fun p a => a - pmn s (hp p) k) (pmn s h0 k) n) 0 q := by
  intro n
  induction n with
  | zero =>
    show pw s h0 q = fup (fun k a => a + s 110 k * pmn s h0 k) 0 q
    unfold pw
    exact fup_cg fun k x _ => by rw [Int32.mul_comm]
  | succ n ih =>
    rw [ap_E, ← ih]; rfl
theorem w_apart (g : GG v c w s) : OKW (fn_162 2) (fun x => (fn_255 x 96).map (fun r => (r, x))) w := by
  obtain ⟨L, M, C, Z, I⟩ := id g
  have hv := L.1
  have V := C.2.2.1
  have hM := I.2.1.1
  have hP := I.1.2.1
  have hQ := I.1.2.2.1
  by_cases h5 : 5 ≤ nM s
  rotate_left
  · have h6 : nM s < 5 := by omega
    refine ok_ro (r := -1) g ⟨w, ?_, FC.rf L⟩ (fun x L1 M1 _ => ⟨x, ?_, FM.rf L1 M1⟩)
    · simp (disch := omega) only [fn_162, ↓LCb L, ↓LStb L, ↓LVb L hv, ↓hasBb L V I.2.1, ↓hasTb L hv C.2.1 I.1, ↓hasPb L hv C.2.1 I.1, ↓c146b L V I.2.1, LC L, LSt L, LV L hv, h5, decide_false, eq_self, Nat.le_refl, Nat.lt_irrefl, some_if, Option.bind_some, Option.bind_none, Option.some.injEq, ↓reduceIte, reduceCtorEq, Bool.false_eq_true, Bool.true_eq_false, not_true_eq_false, not_false_eq_true, cmb0, cmb1, Nat.reduceAdd, Nat.reduceMul, Nat.reduceSub, Nat.add_zero, Bool.not_eq_true, Bool.not_eq_false, Nat.reduceEqDiff, Nat.reduceLeDiff, Nat.reduceLT, Int32.reduceLT, Int32.reduceLE, iin_nI, iin_lit, iin_m1, tn_nI, tn_lit, nI_lm, nI_ml, nI_al, nI_la, nI_add, pk_mul, nI_le_l, nI_l_le, nI_lt_l, nI_l_lt, nI_eq_l, nI_l_eq, nI_eqP, nI_leP, nI_ltP, nI_m1, m1_nI, nI_ll, m1_l, l_m1]
    · simp (disch := omega) only [fn_255, ↓LMb L1, ↓mBoxb L1 M1 I.2.1, ↓mWhob L1 M1 I.1, ↓mThingb L1 M1 I.1, ↓mAheadb L1 M1 I.2.1, LM L1, h6, decide_true, Option.map_some, eq_self, Nat.le_refl, Nat.lt_irrefl, some_if, Option.bind_some, Option.bind_none, Option.some.injEq, ↓reduceIte, reduceCtorEq, Bool.false_eq_true, Bool.true_eq_false, not_true_eq_false, not_false_eq_true, cmb0, cmb1, Nat.reduceAdd, Nat.reduceMul, Nat.reduceSub, Nat.add_zero, Bool.not_eq_true, Bool.not_eq_false, Nat.reduceEqDiff, Nat.reduceLeDiff, Nat.reduceLT, Int32.reduceLT, Int32.reduceLE, iin_nI, iin_lit, iin_m1, tn_nI, tn_lit, nI_lm, nI_ml, nI_al, nI_la, nI_add, pk_mul, nI_le_l, nI_l_le, nI_lt_l, nI_l_lt, nI_eq_l, nI_l_eq, nI_eqP, nI_leP, nI_ltP, nI_m1, m1_nI, nI_ll, m1_l, l_m1]
  have h6 : ¬ nM s < 5 := by omega
  obtain ⟨y, y1, F, y2⟩ := c23 L V I
  have e3 := c25 F.1 hv (F.V C.2.1 hv) I.1 (h := fun x => hm s (-1) x (nB s)) y2
  have e9 : fn_162 2 w = fn_162_34 cm_N 2 (pw s (fun x => hm s (-1) x (nB s)) (nQ s)) 0 y := by
    simp (disch := omega) only [fn_162, fn_162_9, ↓LCb L, ↓LStb L, ↓LVb L hv, ↓hasBb L V I.2.1, ↓hasTb L hv C.2.1 I.1, ↓hasPb L hv C.2.1 I.1, ↓c146b L V I.2.1, LC L, LSt L, LV L hv, h5, decide_true, y1, ↓LCb F.1, LC F.1, e3, eq_self, Nat.le_refl, Nat.lt_irrefl, some_if, Option.bind_some, Option.bind_none, Option.some.injEq, ↓reduceIte, reduceCtorEq, Bool.false_eq_true, Bool.true_eq_false, not_true_eq_false, not_false_eq_true, cmb0, cmb1, Nat.reduceAdd, Nat.reduceMul, Nat.reduceSub, Nat.add_zero, Bool.not_eq_true, Bool.not_eq_false, Nat.reduceEqDiff, Nat.reduceLeDiff, Nat.reduceLT, Int32.reduceLT, Int32.reduceLE, iin_nI, iin_lit, iin_m1, tn_nI, tn_lit, nI_lm, nI_ml, nI_al, nI_la, nI_add, pk_mul, nI_le_l, nI_l_le, nI_lt_l, nI_l_lt, nI_eq_l, nI_l_eq, nI_eqP, nI_leP, nI_ltP, nI_m1, m1_nI, nI_ll, m1_l, l_m1]
  have lp : ∃ z, fn_162_34 cm_N 2 (pw s (fun x => hm s (-1) x (nB s)) (nQ s)) 0 y = some (fup (fun p a => a - pw s (fun x => hm s (nI p) x (nB s)) (nQ s)) (pw s (fun x => hm s (-1) x (nB s)) (nQ s)) (nP s), z) ∧ FC v c w z := by
    refine up_0 (fun m k (a : Int32 × cm_W) => fn_162_34 m 2 a.1 (nI k) a.2) (nP s) (fun k a => a.1 = fup (fun p a => a - pw s (fun x => hm s (nI p) x (nB s)) (nQ s)) (pw s (fun x => hm s (-1) x (nB s)) (nQ s)) k ∧ FC v c w a.2) (fun o => ∃ z, o = some (_, z) ∧ FC v c w z) (pw s (fun x => hm s (-1) x (nB s)) (nQ s), y) (by omega) ⟨rfl, F⟩ (fun m p a hp ha => Or.inr ?_) (fun m a ha => ?_)
    · obtain ⟨a1, a⟩ := a
      obtain ⟨rfl, F⟩ := ha
      dsimp only at F ⊢
      have hp' : ¬ nP s ≤ p := by omega
      obtain ⟨z, z1, F2, z2⟩ := c22 F.1 (F.S V) I (p := p) (by omega)
      have F3 := F.tr F2
      have VV := F.V C.2.1 hv
      have e4 := c25 F3.1 hv (F3.V C.2.1 hv) I.1 (h := fun x => hm s (nI p) x (nB s)) z2
      refine ⟨(_, z), ⟨rfl, F3⟩, ?_⟩
      simp (disch := omega) only [fn_162_34, ↓LCb F.1, ↓LVb F.1 hv, LC F.1, LV F.1 hv, VV.1, hP.1, hp', z1, ↓LCb F3.1, LC F3.1, e4, eq_self, Nat.le_refl, Nat.lt_irrefl, some_if, Option.bind_some, Option.bind_none, Option.some.injEq, ↓reduceIte, reduceCtorEq, Bool.false_eq_true, Bool.true_eq_false, not_true_eq_false, not_false_eq_true, cmb0, cmb1, Nat.reduceAdd, Nat.reduceMul, Nat.reduceSub, Nat.add_zero, Bool.not_eq_true, Bool.not_eq_false, Nat.reduceEqDiff, Nat.reduceLeDiff, Nat.reduceLT, Int32.reduceLT, Int32.reduceLE, iin_nI, iin_lit, iin_m1, tn_nI, tn_lit, nI_lm, nI_ml, nI_al, nI_la, nI_add, pk_mul, nI_le_l, nI_l_le, nI_lt_l, nI_l_lt, nI_eq_l, nI_l_eq, nI_eqP, nI_leP, nI_ltP, nI_m1, m1_nI, nI_ll, m1_l, l_m1]
    · obtain ⟨a1, a⟩ := a
      obtain ⟨rfl, F⟩ := ha
      have VV := F.V C.2.1 hv
      refine ⟨a, ?_, F⟩
      simp (disch := omega) only [fn_162_34, ↓LCb F.1, ↓LVb F.1 hv, LC F.1, LV F.1 hv, VV.1, hP.1, eq_self, Nat.le_refl, Nat.lt_irrefl, some_if, Option.bind_some, Option.bind_none, Option.some.injEq, ↓reduceIte, reduceCtorEq, Bool.false_eq_true, Bool.true_eq_false, not_true_eq_false, not_false_eq_true, cmb0, cmb1, Nat.reduceAdd, Nat.reduceMul, Nat.reduceSub, Nat.add_zero, Bool.not_eq_true, Bool.not_eq_false, Nat.reduceEqDiff, Nat.reduceLeDiff, Nat.reduceLT, Int32.reduceLT, Int32.reduceLE, iin_nI, iin_lit, iin_m1, tn_nI, tn_lit, nI_lm, nI_ml, nI_al, nI_la, nI_add, pk_mul, nI_le_l, nI_l_le, nI_lt_l, nI_l_lt, nI_eq_l, nI_l_eq, nI_eqP, nI_leP, nI_ltP, nI_m1, m1_nI, nI_ll, m1_l, l_m1]
  obtain ⟨z, z1, z2⟩ := lp
  refine ok_ro (r := fup (fun p a => a - pw s (fun x => hm s (nI p) x (nB s)) (nQ s)) (pw s (fun x => hm s (-1) x (nB s)) (nQ s)) (nP s)) g ⟨z, e9.trans z1, z2⟩ (fun x L1 M1 _ => ⟨x, ?_, FM.rf L1 M1⟩)
  rw [ap_D s (fun x => hm s (-1) x (nB s)) (fun p x => hm s (nI p) x (nB s))]
  have l1 : fn_255_9 x 96 = some (fup (fun k a => a + s 110 k * fup (fun p a => a - pmn s (fun x => hm s (nI p) x (nB s)) k) (pmn s (fun x => hm s (-1) x (nB s)) k) (nP s)) 0 (nQ s)) := by
    refine up_f (fun m k a => fn_255_13 x m 96 a (nI k)) (nQ s) (fun k a => a + s 110 k * fup (fun p a => a - pmn s (fun x => hm s (nI p) x (nB s)) k) (pmn s (fun x => hm s (-1) x (nB s)) k) (nP s)) 0 _ (by omega) (fun m k a hk => ?_) (fun m => ?_)
    · have hk' : ¬ nQ s ≤ k := by omega
      have inner : fn_255_31 x (fn_255_13 x m) cm_N 96 a (nI k) (pmn s (fun x => hm s (-1) x (nB s)) k) 0 = fn_255_56 x (fn_255_13 x m) 96 a (nI k) (fup (fun p a => a - pmn s (fun x => hm s (nI p) x (nB s)) k) (pmn s (fun x => hm s (-1) x (nB s)) k) (nP s)) := by
        refine up_f (fun m' p z => fn_255_31 x (fn_255_13 x m) m' 96 a (nI k) z (nI p)) (nP s) (fun p a => a - pmn s (fun x => hm s (nI p) x (nB s)) k) (pmn s (fun x => hm s (-1) x (nB s)) k) _ (by omega) (fun m' p z hp => ?_) (fun m' => ?_)
        · have hp' : ¬ nP s ≤ p := by omega
          simp (disch := omega) only [fn_255_31, ↓LMb L1, LM L1, RM M1, hP.1, hp', m253 L1 M1 I (nI p) hk, eq_self, Nat.le_refl, Nat.lt_irrefl, some_if, Option.bind_some, Option.bind_none, Option.some.injEq, ↓reduceIte, reduceCtorEq, Bool.false_eq_true, Bool.true_eq_false, not_true_eq_false, not_false_eq_true, cmb0, cmb1, Nat.reduceAdd, Nat.reduceMul, Nat.reduceSub, Nat.add_zero, Bool.not_eq_true, Bool.not_eq_false, Nat.reduceEqDiff, Nat.reduceLeDiff, Nat.reduceLT, Int32.reduceLT, Int32.reduceLE, iin_nI, iin_lit, iin_m1, tn_nI, tn_lit, nI_lm, nI_ml, nI_al, nI_la, nI_add, pk_mul, nI_le_l, nI_l_le, nI_lt_l, nI_l_lt, nI_eq_l, nI_l_eq, nI_eqP, nI_leP, nI_ltP, nI_m1, m1_nI, nI_ll, m1_l, l_m1]
        · simp (disch := omega) only [fn_255_31, ↓LMb L1, LM L1, RM M1, hP.1, eq_self, Nat.le_refl, Nat.lt_irrefl, some_if, Option.bind_some, Option.bind_none, Option.some.injEq, ↓reduceIte, reduceCtorEq, Bool.false_eq_true, Bool.true_eq_false, not_true_eq_false, not_false_eq_true, cmb0, cmb1, Nat.reduceAdd, Nat.reduceMul, Nat.reduceSub, Nat.add_zero, Bool.not_eq_true, Bool.not_eq_false, Nat.reduceEqDiff, Nat.reduceLeDiff, Nat.reduceLT, Int32.reduceLT, Int32.reduceLE, iin_nI, iin_lit, iin_m1, tn_nI, tn_lit, nI_lm, nI_ml, nI_al, nI_la, nI_add, pk_mul, nI_le_l, nI_l_le, nI_lt_l, nI_l_lt, nI_eq_l, nI_l_eq, nI_eqP, nI_leP, nI_ltP, nI_m1, m1_nI, nI_ll, m1_l, l_m1]
      simp (disch := omega) only [fn_255_13, ↓LMb L1, LM L1, RM M1, hQ.1, hk', m253 L1 M1 I (-1) hk, inner, fn_255_56, eq_self, Nat.le_refl, Nat.lt_irrefl, some_if, Option.bind_some, Option.bind_none, Option.some.injEq, ↓reduceIte, reduceCtorEq, Bool.false_eq_true, Bool.true_eq_false, not_true_eq_false, not_false_eq_true, cmb0, cmb1, Nat.reduceAdd, Nat.reduceMul, Nat.reduceSub, Nat.add_zero, Bool.not_eq_true, Bool.not_eq_false, Nat.reduceEqDiff, Nat.reduceLeDiff, Nat.reduceLT, Int32.reduceLT, Int32.reduceLE, iin_nI, iin_lit, iin_m1, tn_nI, tn_lit, nI_lm, nI_ml, nI_al, nI_la, nI_add, pk_mul, nI_le_l, nI_l_le, nI_lt_l, nI_l_lt, nI_eq_l, nI_l_eq, nI_eqP, nI_leP, nI_ltP, nI_m1, m1_nI, nI_ll, m1_l, l_m1]
    · simp (disch := omega) only [fn_255_13, ↓LMb L1, LM L1, RM M1, hQ.1, eq_self, Nat.le_refl, Nat.lt_irrefl, some_if, Option.bind_some, Option.bind_none, Option.some.injEq, ↓reduceIte, reduceCtorEq, Bool.false_eq_true, Bool.true_eq_false, not_true_eq_false, not_false_eq_true, cmb0, cmb1, Nat.reduceAdd, Nat.reduceMul, Nat.reduceSub, Nat.add_zero, Bool.not_eq_true, Bool.not_eq_false, Nat.reduceEqDiff, Nat.reduceLeDiff, Nat.reduceLT, Int32.reduceLT, Int32.reduceLE, iin_nI, iin_lit, iin_m1, tn_nI, tn_lit, nI_lm, nI_ml, nI_al, nI_la, nI_add, pk_mul, nI_le_l, nI_l_le, nI_lt_l, nI_l_lt, nI_eq_l, nI_l_eq, nI_eqP, nI_leP, nI_ltP, nI_m1, m1_nI, nI_ll, m1_l, l_m1]
  simp (disch := omega) only [fn_255, ↓LMb L1, ↓mBoxb L1 M1 I.2.1, ↓mWhob L1 M1 I.1, ↓mThingb L1 M1 I.1, ↓mAheadb L1 M1 I.2.1, LM L1, h6, decide_false, l1, Option.map_some, eq_self, Nat.le_refl, Nat.lt_irrefl, some_if, Option.bind_some, Option.bind_none, Option.some.injEq, ↓reduceIte, reduceCtorEq, Bool.false_eq_true, Bool.true_eq_false, not_true_eq_false, not_false_eq_true, cmb0, cmb1, Nat.reduceAdd, Nat.reduceMul, Nat.reduceSub, Nat.add_zero, Bool.not_eq_true, Bool.not_eq_false, Nat.reduceEqDiff, Nat.reduceLeDiff, Nat.reduceLT, Int32.reduceLT, Int32.reduceLE, iin_nI, iin_lit, iin_m1, tn_nI, tn_lit, nI_lm, nI_ml, nI_al, nI_la, nI_add, pk_mul, nI_le_l, nI_l_le, nI_lt_l, nI_l_lt, nI_eq_l, nI_l_eq, nI_eqP, nI_leP, nI_ltP, nI_m1, m1_nI, nI_ll, m1_l, l_m1]
theorem mor_sum (s : St) (h h' : Int32 → Int32) : ∀ q, fup (fun k a => a + s 110 k * (pmn s h' k - pmn s h k)) 0 q = pw s h' q - pw s h q := by
  intro q
  induction q with
  | zero => show (0 : Int32) = 0 - 0; rfl
  | succ q ih =>
    show fup (fun k a => a + s 110 k * (pmn s h' k - pmn s h k)) 0 q + s 110 q * (pmn s h' q - pmn s h q) = (pw s h' q + pmn s h' q * s 110 q) - (pw s h q + pmn s h q * s 110 q)
    rw [ih]
    generalize pw s h' q = x1
    generalize pw s h q = x2
    generalize pmn s h' q = x3
    generalize pmn s h q = x4
    generalize s 110 q = x5
    grind
theorem wst_pos (s : St) (b : Nat) : ∀ n, 0 ≤ (wst s b n).2 := by
  intro n
  induction n with
  | zero => exact Int32.le_refl _
  | succ n ih =>
    show 0 ≤ (if ho s b = nI n then wst s b n else if (wst s b n).2 < mor s b n then (nI n, mor s b n) else wst s b n).2
    split
    · exact ih
    · split
      · rename_i h; exact Int32.le_of_lt (Int32.lt_of_le_of_lt ih h)
      · exact ih
theorem c26 (L : Lay v c w) (hv : v = 10 ∨ v = 20) (V : VilC w v s) (S : StC w 30 s) (I : Inv s) {p b : Nat} (hp : p < 12) (hb : b < nB s) (h0 : hsum s b 12 = 0) : ∃ y, fn_26 46 v 30 (nI p) (nI b) w = some (mor s b p, y) ∧ FC v c w y := by
  obtain ⟨y, y1, F, y2⟩ := c22 L S I hp
  have e1 := c25 F.1 hv (F.V V hv) I.1 (h := fun x => hm s (nI p) x (nB s)) y2
  obtain ⟨z, z1, F2, z2⟩ := c21 F.1 (F.S S) I hb
  have F3 := F.tr F2
  have e2 := c25 F3.1 hv (F3.V V hv) I.1 (h := hm1 s b (nI p)) (fun t ht => by
    rw [z2 t ht, y2 t ht]
    unfold hm1
    by_cases q : s 115 b = nI t
    · rw [if_pos ⟨q, h0⟩, if_pos q]
    · rw [if_neg (fun z => q z.1), if_neg q])
  refine ⟨z, ?_, F3⟩
  unfold mor
  simp (disch := omega) only [fn_26, LC L, y1, LC F.1, e1, z1, LC F3.1, e2, eq_self, Nat.le_refl, Nat.lt_irrefl, some_if, Option.bind_some, Option.bind_none, Option.some.injEq, ↓reduceIte, reduceCtorEq, Bool.false_eq_true, Bool.true_eq_false, not_true_eq_false, not_false_eq_true, cmb0, cmb1, Nat.reduceAdd, Nat.reduceMul, Nat.reduceSub, Nat.add_zero, Bool.not_eq_true, Bool.not_eq_false, Nat.reduceEqDiff, Nat.reduceLeDiff, Nat.reduceLT, Int32.reduceLT, Int32.reduceLE, iin_nI, iin_lit, iin_m1, tn_nI, tn_lit, nI_lm, nI_ml, nI_al, nI_la, nI_add, pk_mul, nI_le_l, nI_l_le, nI_lt_l, nI_l_lt, nI_eq_l, nI_l_eq, nI_eqP, nI_leP, nI_ltP, nI_m1, m1_nI, nI_ll, m1_l, l_m1]
theorem w_wanted (g : GG v c w s) (i j : Int32) : OKW (fn_169 2 i j) (fun x => (fn_256 x 96 i j).map (fun r => (r, x))) w := by
  obtain ⟨L, M, C, Z, I⟩ := id g
  have hv := L.1
  have V := C.2.2.1
  have hB := I.2.1.2.1
  have hM := I.2.1.1
  have hP := I.1.2.1
  have hQ := I.1.2.2.1
  have e2 : ∀ x, fn_194 x j (0 : Int32) (1 : Int32) = some (cm_iin j 2) := fun x => isIn_lit x j 1 (by decide)
  by_cases h5 : 5 ≤ nM s
  rotate_left
  · have h6 : nM s < 5 := by omega
    refine ok_ro (r := -1) g ⟨w, ?_, FC.rf L⟩ (fun x L1 M1 _ => ⟨x, ?_, FM.rf L1 M1⟩)
    · simp (disch := omega) only [fn_169, ↓LCb L, ↓LStb L, ↓LVb L hv, ↓hasBb L V I.2.1, ↓hasTb L hv C.2.1 I.1, ↓hasPb L hv C.2.1 I.1, ↓c146b L V I.2.1, LC L, LSt L, LV L hv, h5, decide_false, eq_self, Nat.le_refl, Nat.lt_irrefl, some_if, Option.bind_some, Option.bind_none, Option.some.injEq, ↓reduceIte, reduceCtorEq, Bool.false_eq_true, Bool.true_eq_false, not_true_eq_false, not_false_eq_true, cmb0, cmb1, Nat.reduceAdd, Nat.reduceMul, Nat.reduceSub, Nat.add_zero, Bool.not_eq_true, Bool.not_eq_false, Nat.reduceEqDiff, Nat.reduceLeDiff, Nat.reduceLT, Int32.reduceLT, Int32.reduceLE, iin_nI, iin_lit, iin_m1, tn_nI, tn_lit, nI_lm, nI_ml, nI_al, nI_la, nI_add, pk_mul, nI_le_l, nI_l_le, nI_lt_l, nI_l_lt, nI_eq_l, nI_l_eq, nI_eqP, nI_leP, nI_ltP, nI_m1, m1_nI, nI_ll, m1_l, l_m1]
    · cases h : cm_iin i (nB s) <;> cases h' : cm_iin j 2 <;> simp (disch := omega) only [fn_256, ↓LMb L1, ↓mBoxb L1 M1 I.2.1, ↓mWhob L1 M1 I.1, ↓mThingb L1 M1 I.1, ↓mAheadb L1 M1 I.2.1, LM L1, e2, h, h', h6, decide_true, Option.map_some, eq_self, Nat.le_refl, Nat.lt_irrefl, some_if, Option.bind_some, Option.bind_none, Option.some.injEq, ↓reduceIte, reduceCtorEq, Bool.false_eq_true, Bool.true_eq_false, not_true_eq_false, not_false_eq_true, cmb0, cmb1, Nat.reduceAdd, Nat.reduceMul, Nat.reduceSub, Nat.add_zero, Bool.not_eq_true, Bool.not_eq_false, Nat.reduceEqDiff, Nat.reduceLeDiff, Nat.reduceLT, Int32.reduceLT, Int32.reduceLE, iin_nI, iin_lit, iin_m1, tn_nI, tn_lit, nI_lm, nI_ml, nI_al, nI_la, nI_add, pk_mul, nI_le_l, nI_l_le, nI_lt_l, nI_l_lt, nI_eq_l, nI_l_eq, nI_eqP, nI_leP, nI_ltP, nI_m1, m1_nI, nI_ll, m1_l, l_m1]
  have h6 : ¬ nM s < 5 := by omega
  rcases iin_cs i (n := nB s) (by omega) with h | ⟨b, hb, rfl⟩
  · refine ok_ro (r := -1) g ⟨w, ?_, FC.rf L⟩ (fun x L1 M1 _ => ⟨x, ?_, FM.rf L1 M1⟩)
    · simp (disch := omega) only [fn_169, ↓LCb L, ↓LStb L, ↓LVb L hv, ↓hasBb L V I.2.1, ↓hasTb L hv C.2.1 I.1, ↓hasPb L hv C.2.1 I.1, ↓c146b L V I.2.1, LC L, LSt L, LV L hv, h5, h, decide_true, eq_self, Nat.le_refl, Nat.lt_irrefl, some_if, Option.bind_some, Option.bind_none, Option.some.injEq, ↓reduceIte, reduceCtorEq, Bool.false_eq_true, Bool.true_eq_false, not_true_eq_false, not_false_eq_true, cmb0, cmb1, Nat.reduceAdd, Nat.reduceMul, Nat.reduceSub, Nat.add_zero, Bool.not_eq_true, Bool.not_eq_false, Nat.reduceEqDiff, Nat.reduceLeDiff, Nat.reduceLT, Int32.reduceLT, Int32.reduceLE, iin_nI, iin_lit, iin_m1, tn_nI, tn_lit, nI_lm, nI_ml, nI_al, nI_la, nI_add, pk_mul, nI_le_l, nI_l_le, nI_lt_l, nI_l_lt, nI_eq_l, nI_l_eq, nI_eqP, nI_leP, nI_ltP, nI_m1, m1_nI, nI_ll, m1_l, l_m1]
    · simp (disch := omega) only [fn_256, ↓LMb L1, ↓mBoxb L1 M1 I.2.1, ↓mWhob L1 M1 I.1, ↓mThingb L1 M1 I.1, ↓mAheadb L1 M1 I.2.1, LM L1, h, Option.map_some, eq_self, Nat.le_refl, Nat.lt_irrefl, some_if, Option.bind_some, Option.bind_none, Option.some.injEq, ↓reduceIte, reduceCtorEq, Bool.false_eq_true, Bool.true_eq_false, not_true_eq_false, not_false_eq_true, cmb0, cmb1, Nat.reduceAdd, Nat.reduceMul, Nat.reduceSub, Nat.add_zero, Bool.not_eq_true, Bool.not_eq_false, Nat.reduceEqDiff, Nat.reduceLeDiff, Nat.reduceLT, Int32.reduceLT, Int32.reduceLE, iin_nI, iin_lit, iin_m1, tn_nI, tn_lit, nI_lm, nI_ml, nI_al, nI_la, nI_add, pk_mul, nI_le_l, nI_l_le, nI_lt_l, nI_l_lt, nI_eq_l, nI_l_eq, nI_eqP, nI_leP, nI_ltP, nI_m1, m1_nI, nI_ll, m1_l, l_m1]
  obtain ⟨x0, hx0, ex0⟩ := hsum_n I.2.1 hb 12 (by omega)
  have e20 := (c20 L V hB.2 hb).trans (congrArg some ex0)
  by_cases q0 : x0 = 0
  rotate_left
  · have q0' : ¬ x0 ≤ 0 := by omega
    have q1 : ¬ hsum s b 12 = 0 := by
      rw [ex0]; exact fun z => q0 ((nI_eq (a := x0) (b := 0) (by omega) (by omega)).mp z)
    refine ok_ro (r := -1) g ⟨w, ?_, FC.rf L⟩ (fun x L1 M1 _ => ⟨x, ?_, FM.rf L1 M1⟩)
    · simp (disch := omega) only [fn_169, ↓LCb L, ↓LStb L, ↓LVb L hv, ↓hasBb L V I.2.1, ↓hasTb L hv C.2.1 I.1, ↓hasPb L hv C.2.1 I.1, ↓c146b L V I.2.1, LC L, LSt L, LV L hv, h5, e20, q0', decide_true, eq_self, Nat.le_refl, Nat.lt_irrefl, some_if, Option.bind_some, Option.bind_none, Option.some.injEq, ↓reduceIte, reduceCtorEq, Bool.false_eq_true, Bool.true_eq_false, not_true_eq_false, not_false_eq_true, cmb0, cmb1, Nat.reduceAdd, Nat.reduceMul, Nat.reduceSub, Nat.add_zero, Bool.not_eq_true, Bool.not_eq_false, Nat.reduceEqDiff, Nat.reduceLeDiff, Nat.reduceLT, Int32.reduceLT, Int32.reduceLE, iin_nI, iin_lit, iin_m1, tn_nI, tn_lit, nI_lm, nI_ml, nI_al, nI_la, nI_add, pk_mul, nI_le_l, nI_l_le, nI_lt_l, nI_l_lt, nI_eq_l, nI_l_eq, nI_eqP, nI_leP, nI_ltP, nI_m1, m1_nI, nI_ll, m1_l, l_m1]
    · have e1 := m251 L1 M1 I hb
      rw [decide_eq_true q1] at e1
      cases h' : cm_iin j 2 <;> simp (disch := omega) only [fn_256, ↓LMb L1, ↓mBoxb L1 M1 I.2.1, ↓mWhob L1 M1 I.1, ↓mThingb L1 M1 I.1, ↓mAheadb L1 M1 I.2.1, LM L1, e2, h', h6, e1, decide_false, Option.map_some, eq_self, Nat.le_refl, Nat.lt_irrefl, some_if, Option.bind_some, Option.bind_none, Option.some.injEq, ↓reduceIte, reduceCtorEq, Bool.false_eq_true, Bool.true_eq_false, not_true_eq_false, not_false_eq_true, cmb0, cmb1, Nat.reduceAdd, Nat.reduceMul, Nat.reduceSub, Nat.add_zero, Bool.not_eq_true, Bool.not_eq_false, Nat.reduceEqDiff, Nat.reduceLeDiff, Nat.reduceLT, Int32.reduceLT, Int32.reduceLE, iin_nI, iin_lit, iin_m1, tn_nI, tn_lit, nI_lm, nI_ml, nI_al, nI_la, nI_add, pk_mul, nI_le_l, nI_l_le, nI_lt_l, nI_l_lt, nI_eq_l, nI_l_eq, nI_eqP, nI_leP, nI_ltP, nI_m1, m1_nI, nI_ll, m1_l, l_m1]
  subst q0
  have q1 : hsum s b 12 = 0 := ex0
  -- the class
  have cl : ∃ y, fn_169 2 (nI b) j w = fn_169_113 j (wst s b (nP s)).2 (wst s b (nP s)).1 y ∧ FC v c w y := by
    have e9 : fn_169 2 (nI b) j w = fn_169_42 cm_N 2 (nI b) j 0 (-1) 0 w := by
      simp (disch := omega) only [fn_169, fn_169_34, ↓LCb L, ↓LStb L, ↓LVb L hv, ↓hasBb L V I.2.1, ↓hasTb L hv C.2.1 I.1, ↓hasPb L hv C.2.1 I.1, ↓c146b L V I.2.1, LC L, LSt L, LV L hv, h5, e20, decide_true, eq_self, Nat.le_refl, Nat.lt_irrefl, some_if, Option.bind_some, Option.bind_none, Option.some.injEq, ↓reduceIte, reduceCtorEq, Bool.false_eq_true, Bool.true_eq_false, not_true_eq_false, not_false_eq_true, cmb0, cmb1, Nat.reduceAdd, Nat.reduceMul, Nat.reduceSub, Nat.add_zero, Bool.not_eq_true, Bool.not_eq_false, Nat.reduceEqDiff, Nat.reduceLeDiff, Nat.reduceLT, Int32.reduceLT, Int32.reduceLE, iin_nI, iin_lit, iin_m1, tn_nI, tn_lit, nI_lm, nI_ml, nI_al, nI_la, nI_add, pk_mul, nI_le_l, nI_l_le, nI_lt_l, nI_l_lt, nI_eq_l, nI_l_eq, nI_eqP, nI_leP, nI_ltP, nI_m1, m1_nI, nI_ll, m1_l, l_m1]
    rw [e9]
    refine up_0 (fun m k (a : (Int32 × Int32) × cm_W) => fn_169_42 m 2 (nI b) j a.1.2 a.1.1 (nI k) a.2) (nP s) (fun k a => a.1 = wst s b k ∧ FC v c w a.2) (fun o => ∃ y, o = fn_169_113 j (wst s b (nP s)).2 (wst s b (nP s)).1 y ∧ FC v c w y) ((-1, 0), w) (by omega) ⟨rfl, FC.rf L⟩ (fun m p a hp ha => Or.inr ?_) (fun m a ha => ?_)
    · obtain ⟨a1, a⟩ := a
      obtain ⟨rfl, F⟩ := ha
      dsimp only at F ⊢
      have hp' : ¬ nP s ≤ p := by omega
      have VV := F.V C.2.1 hv
      have SS := F.S V
      have e17 := c17 F.1 SS I.2.1 hb
      have wp := wst_pos s b p
      have ws : wst s b (p + 1) = if ho s b = nI p then wst s b p else if (wst s b p).2 < mor s b p then (nI p, mor s b p) else wst s b p := rfl
      by_cases q : ho s b = nI p
      · rw [if_pos q] at ws
        refine ⟨(wst s b (p + 1), a), ⟨rfl, F⟩, ?_⟩
        rw [ws]
        simp (disch := omega) only [fn_169_42, fn_169_107, ↓LCb F.1, ↓LVb F.1 hv, LC F.1, LSt F.1, LV F.1 hv, VV.1, hP.1, hp', e17, q, wp, eq_self, Nat.le_refl, Nat.lt_irrefl, some_if, Option.bind_some, Option.bind_none, Option.some.injEq, ↓reduceIte, reduceCtorEq, Bool.false_eq_true, Bool.true_eq_false, not_true_eq_false, not_false_eq_true, cmb0, cmb1, Nat.reduceAdd, Nat.reduceMul, Nat.reduceSub, Nat.add_zero, Bool.not_eq_true, Bool.not_eq_false, Nat.reduceEqDiff, Nat.reduceLeDiff, Nat.reduceLT, Int32.reduceLT, Int32.reduceLE, iin_nI, iin_lit, iin_m1, tn_nI, tn_lit, nI_lm, nI_ml, nI_al, nI_la, nI_add, pk_mul, nI_le_l, nI_l_le, nI_lt_l, nI_l_lt, nI_eq_l, nI_l_eq, nI_eqP, nI_leP, nI_ltP, nI_m1, m1_nI, nI_ll, m1_l, l_m1]
      · rw [if_neg q] at ws
        have q' : ¬ nI p = ho s b := fun z => q z.symm
        obtain ⟨y, y1, F2⟩ := c26 F.1 hv VV SS I (p := p) (by omega) hb q1
        refine ⟨(wst s b (p + 1), y), ⟨rfl, F.tr F2⟩, ?_⟩
        rw [ws]
        by_cases q2 : (wst s b p).2 < mor s b p
        · have q3 : ¬ mor s b p ≤ (wst s b p).2 := by rw [Int32.not_le]; exact q2
          simp (disch := omega) only [fn_169_42, fn_169_74, fn_169_107, ↓LCb F.1, ↓LVb F.1 hv, LC F.1, LSt F.1, LV F.1 hv, VV.1, hP.1, hp', e17, q', y1, q2, q3, eq_self, Nat.le_refl, Nat.lt_irrefl, some_if, Option.bind_some, Option.bind_none, Option.some.injEq, ↓reduceIte, reduceCtorEq, Bool.false_eq_true, Bool.true_eq_false, not_true_eq_false, not_false_eq_true, cmb0, cmb1, Nat.reduceAdd, Nat.reduceMul, Nat.reduceSub, Nat.add_zero, Bool.not_eq_true, Bool.not_eq_false, Nat.reduceEqDiff, Nat.reduceLeDiff, Nat.reduceLT, Int32.reduceLT, Int32.reduceLE, iin_nI, iin_lit, iin_m1, tn_nI, tn_lit, nI_lm, nI_ml, nI_al, nI_la, nI_add, pk_mul, nI_le_l, nI_l_le, nI_lt_l, nI_l_lt, nI_eq_l, nI_l_eq, nI_eqP, nI_leP, nI_ltP, nI_m1, m1_nI, nI_ll, m1_l, l_m1]
        · have q3 : mor s b p ≤ (wst s b p).2 := by rw [← Int32.not_lt]; exact q2
          simp (disch := omega) only [fn_169_42, fn_169_74, fn_169_107, ↓LCb F.1, ↓LVb F.1 hv, LC F.1, LSt F.1, LV F.1 hv, VV.1, hP.1, hp', e17, q', y1, q2, q3, eq_self, Nat.le_refl, Nat.lt_irrefl, some_if, Option.bind_some, Option.bind_none, Option.some.injEq, ↓reduceIte, reduceCtorEq, Bool.false_eq_true, Bool.true_eq_false, not_true_eq_false, not_false_eq_true, cmb0, cmb1, Nat.reduceAdd, Nat.reduceMul, Nat.reduceSub, Nat.add_zero, Bool.not_eq_true, Bool.not_eq_false, Nat.reduceEqDiff, Nat.reduceLeDiff, Nat.reduceLT, Int32.reduceLT, Int32.reduceLE, iin_nI, iin_lit, iin_m1, tn_nI, tn_lit, nI_lm, nI_ml, nI_al, nI_la, nI_add, pk_mul, nI_le_l, nI_l_le, nI_lt_l, nI_l_lt, nI_eq_l, nI_l_eq, nI_eqP, nI_leP, nI_ltP, nI_m1, m1_nI, nI_ll, m1_l, l_m1]
    · obtain ⟨a1, a⟩ := a
      obtain ⟨rfl, F⟩ := ha
      have VV := F.V C.2.1 hv
      refine ⟨a, ?_, F⟩
      simp (disch := omega) only [fn_169_42, ↓LCb F.1, ↓LVb F.1 hv, LC F.1, LV F.1 hv, VV.1, hP.1, eq_self, Nat.le_refl, Nat.lt_irrefl, some_if, Option.bind_some, Option.bind_none, Option.some.injEq, ↓reduceIte, reduceCtorEq, Bool.false_eq_true, Bool.true_eq_false, not_true_eq_false, not_false_eq_true, cmb0, cmb1, Nat.reduceAdd, Nat.reduceMul, Nat.reduceSub, Nat.add_zero, Bool.not_eq_true, Bool.not_eq_false, Nat.reduceEqDiff, Nat.reduceLeDiff, Nat.reduceLT, Int32.reduceLT, Int32.reduceLE, iin_nI, iin_lit, iin_m1, tn_nI, tn_lit, nI_lm, nI_ml, nI_al, nI_la, nI_add, pk_mul, nI_le_l, nI_l_le, nI_lt_l, nI_l_lt, nI_eq_l, nI_l_eq, nI_eqP, nI_leP, nI_ltP, nI_m1, m1_nI, nI_ll, m1_l, l_m1]
  obtain ⟨y, y1, F⟩ := cl
  -- the reference
  have ml : ∀ x, Lay v c x → RelM x s → fn_256_34 x 96 (nI b) j = fn_256_217 x j (wst s b (nP s)).1 (wst s b (nP s)).2 := by
    intro x L1 M1
    refine up_0 (fun m k (a : Int32 × Int32) => fn_256_42 x m 96 (nI b) j a.1 a.2 (nI k)) (nP s) (fun k a => a = wst s b k) (fun o => o = _) (-1, 0) (by omega) rfl (fun m p a hp ha => Or.inr ⟨_, rfl, ?_⟩) (fun m a ha => ?_)
    · subst ha
      have hp' : ¬ nP s ≤ p := by omega
      have e17 := m231 L1 M1 I.2.1 hb
      have ws : wst s b (p + 1) = if ho s b = nI p then wst s b p else if (wst s b p).2 < mor s b p then (nI p, mor s b p) else wst s b p := rfl
      rw [ws]
      by_cases q : ho s b = nI p
      · simp (disch := omega) only [fn_256_42, fn_256_211, ↓LMb L1, LM L1, RM M1, hP.1, hp', e17, q, eq_self, Nat.le_refl, Nat.lt_irrefl, some_if, Option.bind_some, Option.bind_none, Option.some.injEq, ↓reduceIte, reduceCtorEq, Bool.false_eq_true, Bool.true_eq_false, not_true_eq_false, not_false_eq_true, cmb0, cmb1, Nat.reduceAdd, Nat.reduceMul, Nat.reduceSub, Nat.add_zero, Bool.not_eq_true, Bool.not_eq_false, Nat.reduceEqDiff, Nat.reduceLeDiff, Nat.reduceLT, Int32.reduceLT, Int32.reduceLE, iin_nI, iin_lit, iin_m1, tn_nI, tn_lit, nI_lm, nI_ml, nI_al, nI_la, nI_add, pk_mul, nI_le_l, nI_l_le, nI_lt_l, nI_l_lt, nI_eq_l, nI_l_eq, nI_eqP, nI_leP, nI_ltP, nI_m1, m1_nI, nI_ll, m1_l, l_m1]
      · have inner : fn_256_64 x (fn_256_42 x m) 96 (nI b) j (wst s b p).1 (wst s b p).2 (nI p) = fn_256_194 x (fn_256_42 x m) 96 (nI b) j (wst s b p).1 (wst s b p).2 (nI p) (mor s b p) := by
          unfold mor
          rw [← mor_sum]
          refine up_f (fun m' k z => fn_256_70 x (fn_256_42 x m) m' 96 (nI b) j (wst s b p).1 (wst s b p).2 (nI p) z (nI k)) (nQ s) (fun k a => a + s 110 k * (pmn s (hm1 s b (nI p)) k - pmn s (fun x => hm s (nI p) x (nB s)) k)) 0 _ (by omega) (fun m' k z hk => ?_) (fun m' => ?_)
          · have hk' : ¬ nQ s ≤ k := by omega
            have e53 := m253 L1 M1 I (nI p) hk
            have e52 := m252 L1 M1 I
            have d1 : pmn s (hm1 s b (nI p)) k = if hm s (nI p) (s 109 k) (nB s) + (if s 115 b = s 109 k then 1 else 0) < hm s (nI p) (s 108 k) (nB s) + (if s 115 b = s 108 k then 1 else 0) then hm s (nI p) (s 109 k) (nB s) + (if s 115 b = s 109 k then 1 else 0) else hm s (nI p) (s 108 k) (nB s) + (if s 115 b = s 108 k then 1 else 0) := rfl
            rw [d1]
            by_cases q1 : s 108 k = s 115 b
            · by_cases q2 : s 109 k = s 115 b
              · simp (disch := omega) only [fn_256_70, fn_195, ↓LMb L1, LM L1, RM M1, hQ.1, hk', e52, e53, q1, q2, eq_self, Nat.le_refl, Nat.lt_irrefl, some_if, Option.bind_some, Option.bind_none, Option.some.injEq, ↓reduceIte, reduceCtorEq, Bool.false_eq_true, Bool.true_eq_false, not_true_eq_false, not_false_eq_true, cmb0, cmb1, Nat.reduceAdd, Nat.reduceMul, Nat.reduceSub, Nat.add_zero, Bool.not_eq_true, Bool.not_eq_false, Nat.reduceEqDiff, Nat.reduceLeDiff, Nat.reduceLT, Int32.reduceLT, Int32.reduceLE, iin_nI, iin_lit, iin_m1, tn_nI, tn_lit, nI_lm, nI_ml, nI_al, nI_la, nI_add, pk_mul, nI_le_l, nI_l_le, nI_lt_l, nI_l_lt, nI_eq_l, nI_l_eq, nI_eqP, nI_leP, nI_ltP, nI_m1, m1_nI, nI_ll, m1_l, l_m1]
              · have q2' : ¬ s 115 b = s 109 k := fun z => q2 z.symm
                simp (disch := omega) only [fn_256_70, fn_195, ↓LMb L1, LM L1, RM M1, hQ.1, hk', e52, e53, q1, q2, q2', eq_self, Nat.le_refl, Nat.lt_irrefl, some_if, Option.bind_some, Option.bind_none, Option.some.injEq, ↓reduceIte, reduceCtorEq, Bool.false_eq_true, Bool.true_eq_false, not_true_eq_false, not_false_eq_true, cmb0, cmb1, Nat.reduceAdd, Nat.reduceMul, Nat.reduceSub, Nat.add_zero, Bool.not_eq_true, Bool.not_eq_false, Nat.reduceEqDiff, Nat.reduceLeDiff, Nat.reduceLT, Int32.reduceLT, Int32.reduceLE, iin_nI, iin_lit, iin_m1, tn_nI, tn_lit, nI_lm, nI_ml, nI_al, nI_la, nI_add, pk_mul, nI_le_l, nI_l_le, nI_lt_l, nI_l_lt, nI_eq_l, nI_l_eq, nI_eqP, nI_leP, nI_ltP, nI_m1, m1_nI, nI_ll, m1_l, l_m1]
            · have q1' : ¬ s 115 b = s 108 k := fun z => q1 z.symm
              by_cases q2 : s 109 k = s 115 b
              · simp (disch := omega) only [fn_256_70, fn_195, ↓LMb L1, LM L1, RM M1, hQ.1, hk', e52, e53, q1, q1', q2, eq_self, Nat.le_refl, Nat.lt_irrefl, some_if, Option.bind_some, Option.bind_none, Option.some.injEq, ↓reduceIte, reduceCtorEq, Bool.false_eq_true, Bool.true_eq_false, not_true_eq_false, not_false_eq_true, cmb0, cmb1, Nat.reduceAdd, Nat.reduceMul, Nat.reduceSub, Nat.add_zero, Bool.not_eq_true, Bool.not_eq_false, Nat.reduceEqDiff, Nat.reduceLeDiff, Nat.reduceLT, Int32.reduceLT, Int32.reduceLE, iin_nI, iin_lit, iin_m1, tn_nI, tn_lit, nI_lm, nI_ml, nI_al, nI_la, nI_add, pk_mul, nI_le_l, nI_l_le, nI_lt_l, nI_l_lt, nI_eq_l, nI_l_eq, nI_eqP, nI_leP, nI_ltP, nI_m1, m1_nI, nI_ll, m1_l, l_m1]
              · have q2' : ¬ s 115 b = s 109 k := fun z => q2 z.symm
                simp (disch := omega) only [fn_256_70, fn_195, ↓LMb L1, LM L1, RM M1, hQ.1, hk', e52, e53, q1, q1', q2, q2', eq_self, Nat.le_refl, Nat.lt_irrefl, some_if, Option.bind_some, Option.bind_none, Option.some.injEq, ↓reduceIte, reduceCtorEq, Bool.false_eq_true, Bool.true_eq_false, not_true_eq_false, not_false_eq_true, cmb0, cmb1, Nat.reduceAdd, Nat.reduceMul, Nat.reduceSub, Nat.add_zero, Bool.not_eq_true, Bool.not_eq_false, Nat.reduceEqDiff, Nat.reduceLeDiff, Nat.reduceLT, Int32.reduceLT, Int32.reduceLE, iin_nI, iin_lit, iin_m1, tn_nI, tn_lit, nI_lm, nI_ml, nI_al, nI_la, nI_add, pk_mul, nI_le_l, nI_l_le, nI_lt_l, nI_l_lt, nI_eq_l, nI_l_eq, nI_eqP, nI_leP, nI_ltP, nI_m1, m1_nI, nI_ll, m1_l, l_m1]
          · simp (disch := omega) only [fn_256_70, ↓LMb L1, LM L1, RM M1, hQ.1, eq_self, Nat.le_refl, Nat.lt_irrefl, some_if, Option.bind_some, Option.bind_none, Option.some.injEq, ↓reduceIte, reduceCtorEq, Bool.false_eq_true, Bool.true_eq_false, not_true_eq_false, not_false_eq_true, cmb0, cmb1, Nat.reduceAdd, Nat.reduceMul, Nat.reduceSub, Nat.add_zero, Bool.not_eq_true, Bool.not_eq_false, Nat.reduceEqDiff, Nat.reduceLeDiff, Nat.reduceLT, Int32.reduceLT, Int32.reduceLE, iin_nI, iin_lit, iin_m1, tn_nI, tn_lit, nI_lm, nI_ml, nI_al, nI_la, nI_add, pk_mul, nI_le_l, nI_l_le, nI_lt_l, nI_l_lt, nI_eq_l, nI_l_eq, nI_eqP, nI_leP, nI_ltP, nI_m1, m1_nI, nI_ll, m1_l, l_m1]
        by_cases q2 : (wst s b p).2 < mor s b p <;> simp (disch := omega) only [fn_256_42, fn_256_194, fn_256_204, fn_256_211, ↓LMb L1, LM L1, RM M1, hP.1, hp', e17, q, q2, inner, eq_self, Nat.le_refl, Nat.lt_irrefl, some_if, Option.bind_some, Option.bind_none, Option.some.injEq, ↓reduceIte, reduceCtorEq, Bool.false_eq_true, Bool.true_eq_false, not_true_eq_false, not_false_eq_true, cmb0, cmb1, Nat.reduceAdd, Nat.reduceMul, Nat.reduceSub, Nat.add_zero, Bool.not_eq_true, Bool.not_eq_false, Nat.reduceEqDiff, Nat.reduceLeDiff, Nat.reduceLT, Int32.reduceLT, Int32.reduceLE, iin_nI, iin_lit, iin_m1, tn_nI, tn_lit, nI_lm, nI_ml, nI_al, nI_la, nI_add, pk_mul, nI_le_l, nI_l_le, nI_lt_l, nI_l_lt, nI_eq_l, nI_l_eq, nI_eqP, nI_leP, nI_ltP, nI_m1, m1_nI, nI_ll, m1_l, l_m1]
    · subst ha
      simp (disch := omega) only [fn_256_42, ↓LMb L1, LM L1, RM M1, hP.1, eq_self, Nat.le_refl, Nat.lt_irrefl, some_if, Option.bind_some, Option.bind_none, Option.some.injEq, ↓reduceIte, reduceCtorEq, Bool.false_eq_true, Bool.true_eq_false, not_true_eq_false, not_false_eq_true, cmb0, cmb1, Nat.reduceAdd, Nat.reduceMul, Nat.reduceSub, Nat.add_zero, Bool.not_eq_true, Bool.not_eq_false, Nat.reduceEqDiff, Nat.reduceLeDiff, Nat.reduceLT, Int32.reduceLT, Int32.reduceLE, iin_nI, iin_lit, iin_m1, tn_nI, tn_lit, nI_lm, nI_ml, nI_al, nI_la, nI_add, pk_mul, nI_le_l, nI_l_le, nI_lt_l, nI_l_lt, nI_eq_l, nI_l_eq, nI_eqP, nI_leP, nI_ltP, nI_m1, m1_nI, nI_ll, m1_l, l_m1]
  have ml2 : ∀ x, Lay v c x → RelM x s → fn_256 x 96 (nI b) j = if cm_iin j 2 = true then fn_256_217 x j (wst s b (nP s)).1 (wst s b (nP s)).2 else some (-1) := fun x L1 M1 => by
    have e1 := m251 L1 M1 I hb
    rw [decide_eq_false (fun z => z q1)] at e1
    cases h' : cm_iin j 2
    · simp (disch := omega) only [fn_256, ↓LMb L1, ↓mBoxb L1 M1 I.2.1, ↓mWhob L1 M1 I.1, ↓mThingb L1 M1 I.1, ↓mAheadb L1 M1 I.2.1, LM L1, e2, h', eq_self, Nat.le_refl, Nat.lt_irrefl, some_if, Option.bind_some, Option.bind_none, Option.some.injEq, ↓reduceIte, reduceCtorEq, Bool.false_eq_true, Bool.true_eq_false, not_true_eq_false, not_false_eq_true, cmb0, cmb1, Nat.reduceAdd, Nat.reduceMul, Nat.reduceSub, Nat.add_zero, Bool.not_eq_true, Bool.not_eq_false, Nat.reduceEqDiff, Nat.reduceLeDiff, Nat.reduceLT, Int32.reduceLT, Int32.reduceLE, iin_nI, iin_lit, iin_m1, tn_nI, tn_lit, nI_lm, nI_ml, nI_al, nI_la, nI_add, pk_mul, nI_le_l, nI_l_le, nI_lt_l, nI_l_lt, nI_eq_l, nI_l_eq, nI_eqP, nI_leP, nI_ltP, nI_m1, m1_nI, nI_ll, m1_l, l_m1]
    · simp (disch := omega) only [fn_256, ↓LMb L1, ↓mBoxb L1 M1 I.2.1, ↓mWhob L1 M1 I.1, ↓mThingb L1 M1 I.1, ↓mAheadb L1 M1 I.2.1, LM L1, e2, h', h6, e1, decide_false, ml x L1 M1, eq_self, Nat.le_refl, Nat.lt_irrefl, some_if, Option.bind_some, Option.bind_none, Option.some.injEq, ↓reduceIte, reduceCtorEq, Bool.false_eq_true, Bool.true_eq_false, not_true_eq_false, not_false_eq_true, cmb0, cmb1, Nat.reduceAdd, Nat.reduceMul, Nat.reduceSub, Nat.add_zero, Bool.not_eq_true, Bool.not_eq_false, Nat.reduceEqDiff, Nat.reduceLeDiff, Nat.reduceLT, Int32.reduceLT, Int32.reduceLE, iin_nI, iin_lit, iin_m1, tn_nI, tn_lit, nI_lm, nI_ml, nI_al, nI_la, nI_add, pk_mul, nI_le_l, nI_l_le, nI_lt_l, nI_l_lt, nI_eq_l, nI_l_eq, nI_eqP, nI_leP, nI_ltP, nI_m1, m1_nI, nI_ll, m1_l, l_m1]
  by_cases z : (wst s b (nP s)).1 = -1
  · refine ok_ro (r := -1) g ⟨y, ?_, F⟩ (fun x L1 M1 _ => ⟨x, ?_, FM.rf L1 M1⟩)
    · rw [y1]
      simp (disch := omega) only [fn_169_113, z, eq_self, Nat.le_refl, Nat.lt_irrefl, some_if, Option.bind_some, Option.bind_none, Option.some.injEq, ↓reduceIte, reduceCtorEq, Bool.false_eq_true, Bool.true_eq_false, not_true_eq_false, not_false_eq_true, cmb0, cmb1, Nat.reduceAdd, Nat.reduceMul, Nat.reduceSub, Nat.add_zero, Bool.not_eq_true, Bool.not_eq_false, Nat.reduceEqDiff, Nat.reduceLeDiff, Nat.reduceLT, Int32.reduceLT, Int32.reduceLE, iin_nI, iin_lit, iin_m1, tn_nI, tn_lit, nI_lm, nI_ml, nI_al, nI_la, nI_add, pk_mul, nI_le_l, nI_l_le, nI_lt_l, nI_l_lt, nI_eq_l, nI_l_eq, nI_eqP, nI_leP, nI_ltP, nI_m1, m1_nI, nI_ll, m1_l, l_m1]
    · show (fn_256 x 96 (nI b) j).map _ = _
      rw [ml2 x L1 M1]
      cases h' : cm_iin j 2 <;> simp (disch := omega) only [fn_256_217, z, Option.map_some, eq_self, Nat.le_refl, Nat.lt_irrefl, some_if, Option.bind_some, Option.bind_none, Option.some.injEq, ↓reduceIte, reduceCtorEq, Bool.false_eq_true, Bool.true_eq_false, not_true_eq_false, not_false_eq_true, cmb0, cmb1, Nat.reduceAdd, Nat.reduceMul, Nat.reduceSub, Nat.add_zero, Bool.not_eq_true, Bool.not_eq_false, Nat.reduceEqDiff, Nat.reduceLeDiff, Nat.reduceLT, Int32.reduceLT, Int32.reduceLE, iin_nI, iin_lit, iin_m1, tn_nI, tn_lit, nI_lm, nI_ml, nI_al, nI_la, nI_add, pk_mul, nI_le_l, nI_l_le, nI_lt_l, nI_l_lt, nI_eq_l, nI_l_eq, nI_eqP, nI_leP, nI_ltP, nI_m1, m1_nI, nI_ll, m1_l, l_m1]
  · by_cases j0 : j = 0
    · subst j0
      refine ok_ro (r := (wst s b (nP s)).1) g ⟨y, ?_, F⟩ (fun x L1 M1 _ => ⟨x, ?_, FM.rf L1 M1⟩)
      · rw [y1]
        simp (disch := omega) only [fn_169_113, fn_169_121, z, eq_self, Nat.le_refl, Nat.lt_irrefl, some_if, Option.bind_some, Option.bind_none, Option.some.injEq, ↓reduceIte, reduceCtorEq, Bool.false_eq_true, Bool.true_eq_false, not_true_eq_false, not_false_eq_true, cmb0, cmb1, Nat.reduceAdd, Nat.reduceMul, Nat.reduceSub, Nat.add_zero, Bool.not_eq_true, Bool.not_eq_false, Nat.reduceEqDiff, Nat.reduceLeDiff, Nat.reduceLT, Int32.reduceLT, Int32.reduceLE, iin_nI, iin_lit, iin_m1, tn_nI, tn_lit, nI_lm, nI_ml, nI_al, nI_la, nI_add, pk_mul, nI_le_l, nI_l_le, nI_lt_l, nI_l_lt, nI_eq_l, nI_l_eq, nI_eqP, nI_leP, nI_ltP, nI_m1, m1_nI, nI_ll, m1_l, l_m1]
      · show (fn_256 x 96 (nI b) 0).map _ = _
        rw [ml2 x L1 M1]
        simp (disch := omega) only [fn_256_217, fn_256_226, z, Option.map_some, eq_self, Nat.le_refl, Nat.lt_irrefl, some_if, Option.bind_some, Option.bind_none, Option.some.injEq, ↓reduceIte, reduceCtorEq, Bool.false_eq_true, Bool.true_eq_false, not_true_eq_false, not_false_eq_true, cmb0, cmb1, Nat.reduceAdd, Nat.reduceMul, Nat.reduceSub, Nat.add_zero, Bool.not_eq_true, Bool.not_eq_false, Nat.reduceEqDiff, Nat.reduceLeDiff, Nat.reduceLT, Int32.reduceLT, Int32.reduceLE, iin_nI, iin_lit, iin_m1, tn_nI, tn_lit, nI_lm, nI_ml, nI_al, nI_la, nI_add, pk_mul, nI_le_l, nI_l_le, nI_lt_l, nI_l_lt, nI_eq_l, nI_l_eq, nI_eqP, nI_leP, nI_ltP, nI_m1, m1_nI, nI_ll, m1_l, l_m1]
    · by_cases j1 : j = 1
      · subst j1
        refine ok_ro (r := (wst s b (nP s)).2) g ⟨y, ?_, F⟩ (fun x L1 M1 _ => ⟨x, ?_, FM.rf L1 M1⟩)
        · rw [y1]
          simp (disch := omega) only [fn_169_113, fn_169_121, fn_169_130, z, eq_self, Nat.le_refl, Nat.lt_irrefl, some_if, Option.bind_some, Option.bind_none, Option.some.injEq, ↓reduceIte, reduceCtorEq, Bool.false_eq_true, Bool.true_eq_false, not_true_eq_false, not_false_eq_true, cmb0, cmb1, Nat.reduceAdd, Nat.reduceMul, Nat.reduceSub, Nat.add_zero, Bool.not_eq_true, Bool.not_eq_false, Nat.reduceEqDiff, Nat.reduceLeDiff, Nat.reduceLT, Int32.reduceLT, Int32.reduceLE, iin_nI, iin_lit, iin_m1, tn_nI, tn_lit, nI_lm, nI_ml, nI_al, nI_la, nI_add, pk_mul, nI_le_l, nI_l_le, nI_lt_l, nI_l_lt, nI_eq_l, nI_l_eq, nI_eqP, nI_leP, nI_ltP, nI_m1, m1_nI, nI_ll, m1_l, l_m1]
        · show (fn_256 x 96 (nI b) 1).map _ = _
          rw [ml2 x L1 M1]
          simp (disch := omega) only [fn_256_217, fn_256_226, z, Option.map_some, eq_self, Nat.le_refl, Nat.lt_irrefl, some_if, Option.bind_some, Option.bind_none, Option.some.injEq, ↓reduceIte, reduceCtorEq, Bool.false_eq_true, Bool.true_eq_false, not_true_eq_false, not_false_eq_true, cmb0, cmb1, Nat.reduceAdd, Nat.reduceMul, Nat.reduceSub, Nat.add_zero, Bool.not_eq_true, Bool.not_eq_false, Nat.reduceEqDiff, Nat.reduceLeDiff, Nat.reduceLT, Int32.reduceLT, Int32.reduceLE, iin_nI, iin_lit, iin_m1, tn_nI, tn_lit, nI_lm, nI_ml, nI_al, nI_la, nI_add, pk_mul, nI_le_l, nI_l_le, nI_lt_l, nI_l_lt, nI_eq_l, nI_l_eq, nI_eqP, nI_leP, nI_ltP, nI_m1, m1_nI, nI_ll, m1_l, l_m1]
      · have h2 : cm_iin j 2 = false := by
          rcases iin_cs j (n := 2) (by omega) with h | ⟨a, ha, e⟩
          · exact h
          · rcases (show a = 0 ∨ a = 1 by omega) with rfl | rfl
            · exact absurd e j0
            · exact absurd e j1
        refine ok_ro (r := -1) g ⟨y, ?_, F⟩ (fun x L1 M1 _ => ⟨x, ?_, FM.rf L1 M1⟩)
        · rw [y1]
          simp (disch := omega) only [fn_169_113, fn_169_121, fn_169_130, z, j0, j1, eq_self, Nat.le_refl, Nat.lt_irrefl, some_if, Option.bind_some, Option.bind_none, Option.some.injEq, ↓reduceIte, reduceCtorEq, Bool.false_eq_true, Bool.true_eq_false, not_true_eq_false, not_false_eq_true, cmb0, cmb1, Nat.reduceAdd, Nat.reduceMul, Nat.reduceSub, Nat.add_zero, Bool.not_eq_true, Bool.not_eq_false, Nat.reduceEqDiff, Nat.reduceLeDiff, Nat.reduceLT, Int32.reduceLT, Int32.reduceLE, iin_nI, iin_lit, iin_m1, tn_nI, tn_lit, nI_lm, nI_ml, nI_al, nI_la, nI_add, pk_mul, nI_le_l, nI_l_le, nI_lt_l, nI_l_lt, nI_eq_l, nI_l_eq, nI_eqP, nI_leP, nI_ltP, nI_m1, m1_nI, nI_ll, m1_l, l_m1]
        · show (fn_256 x 96 (nI b) j).map _ = _
          rw [ml2 x L1 M1, h2]
          rfl
end APART
