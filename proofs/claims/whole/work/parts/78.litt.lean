/-! little -/
section LITT
variable {v c u n m l p : Nat} {w w' : cm_W} {s s' : St} {M : Mk}
theorem c37 (L : Lay v c w) (hv : v = 10 ∨ v = 20) (V : VilC w v s) (I : InvV s) (hp : p < nP s) : ∃ y, fn_37 51 v (nI p) w = some y ∧ FC v c w y ∧ (cm_I y = cm_I w) ∧ ∀ t, t < 8 → cm_L y 52 t = lN ((mko s p m).D t) := by
  refine up_0 (fun n k a => fn_37_2 n 51 v (nI p) (nI k) a) 8 (fun k a => FC v c w a ∧ cm_I a = cm_I w ∧ ∀ q, q < k → cm_L a 52 q = lN ((mko s p m).D q)) (fun o => ∃ y, o = some y ∧ FC v c w y ∧ (cm_I y = cm_I w) ∧ ∀ q, q < 8 → cm_L y 52 q = lN ((mko s p m).D q)) w (by omega) ⟨FC.rf L, rfl, fun q h => by omega⟩ (fun n k a hk ha => Or.inr ?_) (fun n a ha => ?_)
  · obtain ⟨F, hi, h⟩ := ha
    have hk' : ¬ 8 ≤ k := by omega
    have LL := F.1
    have e8 : ∃ z, fn_8 a v (nI p) (nI k) = some z ∧ z.toInt64 = lN ((mko s p m).D k) := by
      by_cases q : k < nT s
      · obtain ⟨es, hs⟩ := sh_n I hp q
        have d : (mko s p m).D k = tn (s 107 (8 * p + k)) := if_pos q
        refine ⟨_, (c8 LL hv (F.V V hv) I hp q).trans (congrArg some es), ?_⟩
        rw [d, nI_l (by omega)]
      · have d : (mko s p m).D k = 0 := if_neg q
        have hT := I.1
        refine ⟨0, c8t LL hv (F.V V hv) I (iin_no (by omega) (by omega)), ?_⟩
        rw [d]; rfl
    obtain ⟨z, e8, ez⟩ := e8
    refine ⟨cm_sL a 52 k (lN ((mko s p m).D k)), ⟨F.sL (by omega), hi, fun q h' => ?_⟩, ?_⟩
    · by_cases z : q = k
      · subst z; rw [L_eq]
      · rw [L_nk z]; exact h q (by omega)
    · rw [← ez]
      simp (disch := omega) only [fn_37_2, hk', ↓LCb LL, LC LL, LV LL hv, e8, cm_w2, Nat.reduceLeDiff, Nat.reduceLT, decide_true, Bool.and_self, Bool.and_true, eq_self, Nat.le_refl, Nat.lt_irrefl, some_if, Option.bind_some, Option.bind_none, Option.some.injEq, ↓reduceIte, reduceCtorEq, Bool.false_eq_true, Bool.true_eq_false, not_true_eq_false, not_false_eq_true, cmb0, cmb1, Nat.reduceAdd, Nat.reduceMul, Nat.reduceSub, Nat.add_zero, Bool.not_eq_true, Bool.not_eq_false, Nat.reduceEqDiff, Nat.reduceLeDiff, Nat.reduceLT, Int32.reduceLT, Int32.reduceLE, iin_nI, iin_lit, iin_m1, tn_nI, tn_lit, nI_lm, nI_ml, nI_al, nI_la, nI_add, pk_mul, nI_le_l, nI_l_le, nI_lt_l, nI_l_lt, nI_eq_l, nI_l_eq, nI_eqP, nI_leP, nI_ltP, nI_m1, m1_nI, nI_ll, m1_l, l_m1]
  · obtain ⟨F, hi, h⟩ := ha
    refine ⟨a, ?_, F, hi, h⟩
    simp (disch := omega) only [fn_37_2, eq_self, Nat.le_refl, Nat.lt_irrefl, some_if, Option.bind_some, Option.bind_none, Option.some.injEq, ↓reduceIte, reduceCtorEq, Bool.false_eq_true, Bool.true_eq_false, not_true_eq_false, not_false_eq_true, cmb0, cmb1, Nat.reduceAdd, Nat.reduceMul, Nat.reduceSub, Nat.add_zero, Bool.not_eq_true, Bool.not_eq_false, Nat.reduceEqDiff, Nat.reduceLeDiff, Nat.reduceLT, Int32.reduceLT, Int32.reduceLE, iin_nI, iin_lit, iin_m1, tn_nI, tn_lit, nI_lm, nI_ml, nI_al, nI_la, nI_add, pk_mul, nI_le_l, nI_l_le, nI_lt_l, nI_l_lt, nI_eq_l, nI_l_eq, nI_eqP, nI_leP, nI_ltP, nI_m1, m1_nI, nI_ll, m1_l, l_m1]
theorem c_mko (L : Lay v c w) (hv : v = 10 ∨ v = 20) (V : VilC w v s) (I : InvV s) (hp : p < nP s) (hm : m < 6) : ∃ y1 y, fn_32 51 v (nI m) w = some y1 ∧ FC v c w y1 ∧ fn_37 51 v (nI p) y1 = some y ∧ FC v c w y ∧ MkC y (mko s p m) := by
  obtain ⟨y1, a1, F1, h1⟩ := c32 L hv V I hm
  obtain ⟨y2, a2, F2, i2, h2⟩ := c37 (m := m) F1.1 hv (F1.V V hv) I hp
  refine ⟨y1, y2, a1, F1, a2, F1.tr F2, fun t ht => h2 t ht, fun t ht => ?_⟩
  rw [i2]
  exact h1 t ht
theorem mx_sub {a b : Nat} (ha : a < 1000000) (hb : b < 1000000) : (if (0 : Int32) < nI a - nI b then nI a - nI b else 0) = nI (a - b) := by
  have e := pk_sub_toInt (a := a) (b := b) (by omega) (by omega)
  have z : ((0 : Int32) < nI a - nI b) = (b < a) := by
    refine propext (Iff.trans Int32.lt_iff_toInt_lt ?_)
    rw [e]
    show (0 : Int) < _ ↔ _
    omega
  by_cases q : b < a
  · rw [if_pos (by rw [z]; exact q), pk_sub (by omega)]
  · rw [if_neg (by rw [z]; exact q), show a - b = 0 by omega]; rfl
theorem c48 (L : Lay v c w) (K : MkC w M) (O : M.Ok) (hD : ∀ t, M.D t ≤ 99) {x : Nat} (hx : x < 1000) : fn_48 w 51 (nI x) = some (if M.tot = 0 then -1 else nI (sgm (fun t => M.D t * (M.U t - x)) M.n * 100 / M.tot)) := by
  have tl := tot_le O
  have e0 : fn_48 w 51 (nI x) = fn_48_11 w cm_N 51 (nI x) (lN M.tot) 0 0 := by
    simp (disch := omega) only [fn_48, LC L, c46 L K O, eq_self, Nat.le_refl, Nat.lt_irrefl, some_if, Option.bind_some, Option.bind_none, Option.some.injEq, ↓reduceIte, reduceCtorEq, Bool.false_eq_true, Bool.true_eq_false, not_true_eq_false, not_false_eq_true, cmb0, cmb1, Nat.reduceAdd, Nat.reduceMul, Nat.reduceSub, Nat.add_zero, Bool.not_eq_true, Bool.not_eq_false, Nat.reduceEqDiff, Nat.reduceLeDiff, Nat.reduceLT, Int32.reduceLT, Int32.reduceLE, iin_nI, iin_lit, iin_m1, tn_nI, tn_lit, nI_lm, nI_ml, nI_al, nI_la, nI_add, pk_mul, nI_le_l, nI_l_le, nI_lt_l, nI_l_lt, nI_eq_l, nI_l_eq, nI_eqP, nI_leP, nI_ltP, nI_m1, m1_nI, nI_ll, m1_l, l_m1]
  rw [e0]
  have hn := O.2.2.1
  refine up_0 (fun n k a => fn_48_11 w n 51 (nI x) (lN M.tot) a (nI k)) 8 (fun k a => a = lN (sgm (fun t => M.D t * (M.U t - x)) k)) (fun o => o = _) (0 : Int64) (by omega) rfl (fun n k a hk ha => Or.inr ⟨_, rfl, ?_⟩) (fun n a ha => ?_)
  · subst ha
    have hk' : ¬ 8 ≤ k := by omega
    show fn_48_11 w (n + 1) 51 (nI x) (lN M.tot) (lN (sgm (fun t => M.D t * (M.U t - x)) k)) (nI k) = fn_48_11 w n 51 (nI x) (lN M.tot) (lN (sgm (fun t => M.D t * (M.U t - x)) k + M.D k * (M.U k - x))) (nI (k + 1))
    by_cases q : k < M.n
    · have k1 := (K.2 k q).1
      have k2 := O.1 k q
      have mx := mx_sub (a := M.U k) (b := x) (by omega) (by omega)
      simp (disch := omega) only [fn_48_11, hk', ↓LCb L, LC L, K.1 k hk, k1, mx, nI_l, lN_mul, lN_add, eq_self, Nat.le_refl, Nat.lt_irrefl, some_if, Option.bind_some, Option.bind_none, Option.some.injEq, ↓reduceIte, reduceCtorEq, Bool.false_eq_true, Bool.true_eq_false, not_true_eq_false, not_false_eq_true, cmb0, cmb1, Nat.reduceAdd, Nat.reduceMul, Nat.reduceSub, Nat.add_zero, Bool.not_eq_true, Bool.not_eq_false, Nat.reduceEqDiff, Nat.reduceLeDiff, Nat.reduceLT, Int32.reduceLT, Int32.reduceLE, iin_nI, iin_lit, iin_m1, tn_nI, tn_lit, nI_lm, nI_ml, nI_al, nI_la, nI_add, pk_mul, nI_le_l, nI_l_le, nI_lt_l, nI_l_lt, nI_eq_l, nI_l_eq, nI_eqP, nI_leP, nI_ltP, nI_m1, m1_nI, nI_ll, m1_l, l_m1]
    · have d0 := O.D0 (t := k) (by omega)
      have l0 : ∀ x : Int64, lN 0 * x = 0 := fun x => Int64.zero_mul
      rw [d0, Nat.zero_mul]
      simp (disch := omega) only [fn_48_11, hk', ↓LCb L, LC L, K.1 k hk, d0, l0, Int64.add_zero, eq_self, Nat.le_refl, Nat.lt_irrefl, some_if, Option.bind_some, Option.bind_none, Option.some.injEq, ↓reduceIte, reduceCtorEq, Bool.false_eq_true, Bool.true_eq_false, not_true_eq_false, not_false_eq_true, cmb0, cmb1, Nat.reduceAdd, Nat.reduceMul, Nat.reduceSub, Nat.add_zero, Bool.not_eq_true, Bool.not_eq_false, Nat.reduceEqDiff, Nat.reduceLeDiff, Nat.reduceLT, Int32.reduceLT, Int32.reduceLE, iin_nI, iin_lit, iin_m1, tn_nI, tn_lit, nI_lm, nI_ml, nI_al, nI_la, nI_add, pk_mul, nI_le_l, nI_l_le, nI_lt_l, nI_l_lt, nI_eq_l, nI_l_eq, nI_eqP, nI_leP, nI_ltP, nI_m1, m1_nI, nI_ll, m1_l, l_m1]
  · subst ha
    have e : sgm (fun t => M.D t * (M.U t - x)) 8 = sgm (fun t => M.D t * (M.U t - x)) M.n := sgm8 O (fun k hk => by rw [O.D0 hk, Nat.zero_mul])
    have b := sgm_bd (f := fun t => M.D t * (M.U t - x)) 98901 M.n (fun k hk => by
      have := hD k
      have := (O.1 k hk).2.1
      have := Nat.mul_le_mul (hD k) (show M.U k - x ≤ 999 by omega)
      exact this)
    rw [e]
    generalize sgm (fun t => M.D t * (M.U t - x)) M.n = A at *
    by_cases z : M.tot = 0
    · simp (disch := omega) only [fn_48_11, fn_48_51, lgc_le, lle0, z, eq_self, Nat.le_refl, Nat.lt_irrefl, some_if, Option.bind_some, Option.bind_none, Option.some.injEq, ↓reduceIte, reduceCtorEq, Bool.false_eq_true, Bool.true_eq_false, not_true_eq_false, not_false_eq_true, cmb0, cmb1, Nat.reduceAdd, Nat.reduceMul, Nat.reduceSub, Nat.add_zero, Bool.not_eq_true, Bool.not_eq_false, Nat.reduceEqDiff, Nat.reduceLeDiff, Nat.reduceLT, Int32.reduceLT, Int32.reduceLE, iin_nI, iin_lit, iin_m1, tn_nI, tn_lit, nI_lm, nI_ml, nI_al, nI_la, nI_add, pk_mul, nI_le_l, nI_l_le, nI_lt_l, nI_l_lt, nI_eq_l, nI_l_eq, nI_eqP, nI_leP, nI_ltP, nI_m1, m1_nI, nI_ll, m1_l, l_m1]
    · have e1 : lN A * 100 / lN M.tot = lN (A * 100 / M.tot) := by
        rw [show (100 : Int64) = lN 100 from rfl, lN_mul, pk_lDiv (by omega) (by omega) (by omega)]
      rw [if_neg z]
      simp (disch := omega) only [fn_48_11, fn_48_51, lgc_le, lle0, leq0, z, e1, lN_i, eq_self, Nat.le_refl, Nat.lt_irrefl, some_if, Option.bind_some, Option.bind_none, Option.some.injEq, ↓reduceIte, reduceCtorEq, Bool.false_eq_true, Bool.true_eq_false, not_true_eq_false, not_false_eq_true, cmb0, cmb1, Nat.reduceAdd, Nat.reduceMul, Nat.reduceSub, Nat.add_zero, Bool.not_eq_true, Bool.not_eq_false, Nat.reduceEqDiff, Nat.reduceLeDiff, Nat.reduceLT, Int32.reduceLT, Int32.reduceLE, iin_nI, iin_lit, iin_m1, tn_nI, tn_lit, nI_lm, nI_ml, nI_al, nI_la, nI_add, pk_mul, nI_le_l, nI_l_le, nI_lt_l, nI_l_lt, nI_eq_l, nI_l_eq, nI_eqP, nI_leP, nI_ltP, nI_m1, m1_nI, nI_ll, m1_l, l_m1]
theorem shs_sg (I : InvV s) (hp : p < nP s) : tn (shs s p) = (mko s p m).tot := by
  have hT := I.1
  have h : ∀ n, n ≤ nT s → fup (fun t a => a + s 107 (8 * p + t)) 0 n = nI (sgm (mko s p m).D n) := by
    intro n
    induction n with
    | zero => intro _; rfl
    | succ n ih =>
      intro hn
      show fup (fun t a => a + s 107 (8 * p + t)) 0 n + s 107 (8 * p + n) = nI (sgm (mko s p m).D n + (mko s p m).D n)
      rw [ih (by omega), (sh_n I hp (t := n) (by omega)).1, nI_add]
      have : (mko s p m).D n = tn (s 107 (8 * p + n)) := if_pos (by omega)
      rw [this]
  have b := sgm_bd (f := (mko s p m).D) 99 (nT s) (fun k hk => by
    have := (sh_n I hp hk).2
    show (if k < nT s then tn (s 107 (8 * p + k)) else 0) ≤ 99
    rw [if_pos hk]; omega)
  show tn (fup (fun t a => a + s 107 (8 * p + t)) 0 (nT s)) = _
  rw [h _ (Nat.le_refl _), tn_nIe (by omega)]
  rfl
theorem mko_D (I : InvV s) (hp : p < nP s) (t : Nat) : (mko s p m).D t ≤ 99 := by
  show (if t < nT s then tn (s 107 (8 * p + t)) else 0) ≤ 99
  split
  · rename_i h
    have := (sh_n I hp h).2
    omega
  · omega
theorem w_little (g : GG v c w s) (i1 i2 i3 : Int32) : OKW (fn_179 2 i1 i2 i3) (fun x => (fn_282 x 96 i1 i2 i3).map (fun r => (r, x))) w := by
  obtain ⟨L, M, C, Z, I⟩ := id g
  have hv := L.1
  have V := C.2.1
  have hT := I.1.1
  have hP := I.1.2.1
  have e1 : ∀ x, fn_194 x i3 (0 : Int32) (999 : Int32) = some (cm_iin i3 1000) := fun x => isIn_lit x i3 999 (by decide)
  rcases iin_cs i1 (n := nP s) (by omega) with h | ⟨p, hp, rfl⟩
  · refine ok_bad g ?_ (fun x L1 M1 => ?_)
    · simp (disch := omega) only [fn_179, fn_177, ↓LCb L, LC L, LV L hv, c10o L hv V I.1 h, eq_self, Nat.le_refl, Nat.lt_irrefl, some_if, Option.bind_some, Option.bind_none, Option.some.injEq, ↓reduceIte, reduceCtorEq, Bool.false_eq_true, Bool.true_eq_false, not_true_eq_false, not_false_eq_true, cmb0, cmb1, Nat.reduceAdd, Nat.reduceMul, Nat.reduceSub, Nat.add_zero, Bool.not_eq_true, Bool.not_eq_false, Nat.reduceEqDiff, Nat.reduceLeDiff, Nat.reduceLT, Int32.reduceLT, Int32.reduceLE, iin_nI, iin_lit, iin_m1, tn_nI, tn_lit, nI_lm, nI_ml, nI_al, nI_la, nI_add, pk_mul, nI_le_l, nI_l_le, nI_lt_l, nI_l_lt, nI_eq_l, nI_l_eq, nI_eqP, nI_leP, nI_ltP, nI_m1, m1_nI, nI_ll, m1_l, l_m1]
    · simp (disch := omega) only [fn_282, LM L1, mWho L1 M1 I.1, h, Option.map_some, eq_self, Nat.le_refl, Nat.lt_irrefl, some_if, Option.bind_some, Option.bind_none, Option.some.injEq, ↓reduceIte, reduceCtorEq, Bool.false_eq_true, Bool.true_eq_false, not_true_eq_false, not_false_eq_true, cmb0, cmb1, Nat.reduceAdd, Nat.reduceMul, Nat.reduceSub, Nat.add_zero, Bool.not_eq_true, Bool.not_eq_false, Nat.reduceEqDiff, Nat.reduceLeDiff, Nat.reduceLT, Int32.reduceLT, Int32.reduceLE, iin_nI, iin_lit, iin_m1, tn_nI, tn_lit, nI_lm, nI_ml, nI_al, nI_la, nI_add, pk_mul, nI_le_l, nI_l_le, nI_lt_l, nI_l_lt, nI_eq_l, nI_l_eq, nI_eqP, nI_leP, nI_ltP, nI_m1, m1_nI, nI_ll, m1_l, l_m1]
  obtain ⟨es, hs, hs2⟩ := shs_n I.1 hp
  have e10 := (c10 L hv V I.1 hp).trans (congrArg some es)
  have tt := shs_sg (m := 0) I.1 hp
  by_cases t0 : nT s = 0
  · have z : tn (shs s p) = 0 := by
      rw [tt]
      show sgm _ (nT s) = 0
      rw [t0]; rfl
    refine ok_bad g ?_ (fun x L1 M1 => ?_)
    · simp (disch := omega) only [fn_179, fn_177, ↓LCb L, LC L, LV L hv, e10, z, eq_self, Nat.le_refl, Nat.lt_irrefl, some_if, Option.bind_some, Option.bind_none, Option.some.injEq, ↓reduceIte, reduceCtorEq, Bool.false_eq_true, Bool.true_eq_false, not_true_eq_false, not_false_eq_true, cmb0, cmb1, Nat.reduceAdd, Nat.reduceMul, Nat.reduceSub, Nat.add_zero, Bool.not_eq_true, Bool.not_eq_false, Nat.reduceEqDiff, Nat.reduceLeDiff, Nat.reduceLT, Int32.reduceLT, Int32.reduceLE, iin_nI, iin_lit, iin_m1, tn_nI, tn_lit, nI_lm, nI_ml, nI_al, nI_la, nI_add, pk_mul, nI_le_l, nI_l_le, nI_lt_l, nI_l_lt, nI_eq_l, nI_l_eq, nI_eqP, nI_leP, nI_ltP, nI_m1, m1_nI, nI_ll, m1_l, l_m1]
    · cases h2 : cm_iin i2 6 <;> cases h3 : cm_iin i3 1000 <;> simp (disch := omega) only [fn_282, LM L1, RM M1, hT.1, mWho L1 M1 I.1, mmon (a := 0) _ L1, e1, h2, h3, t0, Option.map_some, eq_self, Nat.le_refl, Nat.lt_irrefl, some_if, Option.bind_some, Option.bind_none, Option.some.injEq, ↓reduceIte, reduceCtorEq, Bool.false_eq_true, Bool.true_eq_false, not_true_eq_false, not_false_eq_true, cmb0, cmb1, Nat.reduceAdd, Nat.reduceMul, Nat.reduceSub, Nat.add_zero, Bool.not_eq_true, Bool.not_eq_false, Nat.reduceEqDiff, Nat.reduceLeDiff, Nat.reduceLT, Int32.reduceLT, Int32.reduceLE, iin_nI, iin_lit, iin_m1, tn_nI, tn_lit, nI_lm, nI_ml, nI_al, nI_la, nI_add, pk_mul, nI_le_l, nI_l_le, nI_lt_l, nI_l_lt, nI_eq_l, nI_l_eq, nI_eqP, nI_leP, nI_ltP, nI_m1, m1_nI, nI_ll, m1_l, l_m1]
  have hs2 := hs2 (by omega)
  have z : ¬ tn (shs s p) ≤ 0 := by omega
  rcases iin_cs i2 (n := 6) (by omega) with h | ⟨m, hm, rfl⟩
  · refine ok_bad g ?_ (fun x L1 M1 => ?_)
    · simp (disch := omega) only [fn_179, fn_177, bmon, ↓LCb L, LC L, LV L hv, e10, z, h, eq_self, Nat.le_refl, Nat.lt_irrefl, some_if, Option.bind_some, Option.bind_none, Option.some.injEq, ↓reduceIte, reduceCtorEq, Bool.false_eq_true, Bool.true_eq_false, not_true_eq_false, not_false_eq_true, cmb0, cmb1, Nat.reduceAdd, Nat.reduceMul, Nat.reduceSub, Nat.add_zero, Bool.not_eq_true, Bool.not_eq_false, Nat.reduceEqDiff, Nat.reduceLeDiff, Nat.reduceLT, Int32.reduceLT, Int32.reduceLE, iin_nI, iin_lit, iin_m1, tn_nI, tn_lit, nI_lm, nI_ml, nI_al, nI_la, nI_add, pk_mul, nI_le_l, nI_l_le, nI_lt_l, nI_l_lt, nI_eq_l, nI_l_eq, nI_eqP, nI_leP, nI_ltP, nI_m1, m1_nI, nI_ll, m1_l, l_m1]
    · simp (disch := omega) only [fn_282, LM L1, mWho L1 M1 I.1, mmon (a := 0) _ L1, h, Option.map_some, eq_self, Nat.le_refl, Nat.lt_irrefl, some_if, Option.bind_some, Option.bind_none, Option.some.injEq, ↓reduceIte, reduceCtorEq, Bool.false_eq_true, Bool.true_eq_false, not_true_eq_false, not_false_eq_true, cmb0, cmb1, Nat.reduceAdd, Nat.reduceMul, Nat.reduceSub, Nat.add_zero, Bool.not_eq_true, Bool.not_eq_false, Nat.reduceEqDiff, Nat.reduceLeDiff, Nat.reduceLT, Int32.reduceLT, Int32.reduceLE, iin_nI, iin_lit, iin_m1, tn_nI, tn_lit, nI_lm, nI_ml, nI_al, nI_la, nI_add, pk_mul, nI_le_l, nI_l_le, nI_lt_l, nI_l_lt, nI_eq_l, nI_l_eq, nI_eqP, nI_leP, nI_ltP, nI_m1, m1_nI, nI_ll, m1_l, l_m1]
  rcases iin_cs i3 (n := 1000) (by omega) with h | ⟨x3, hx3, rfl⟩
  · refine ok_bad g ?_ (fun x L1 M1 => ?_)
    · simp (disch := omega) only [fn_179, fn_177, bmon, cpri, ↓LCb L, LC L, LV L hv, e10, z, h, eq_self, Nat.le_refl, Nat.lt_irrefl, some_if, Option.bind_some, Option.bind_none, Option.some.injEq, ↓reduceIte, reduceCtorEq, Bool.false_eq_true, Bool.true_eq_false, not_true_eq_false, not_false_eq_true, cmb0, cmb1, Nat.reduceAdd, Nat.reduceMul, Nat.reduceSub, Nat.add_zero, Bool.not_eq_true, Bool.not_eq_false, Nat.reduceEqDiff, Nat.reduceLeDiff, Nat.reduceLT, Int32.reduceLT, Int32.reduceLE, iin_nI, iin_lit, iin_m1, tn_nI, tn_lit, nI_lm, nI_ml, nI_al, nI_la, nI_add, pk_mul, nI_le_l, nI_l_le, nI_lt_l, nI_l_lt, nI_eq_l, nI_l_eq, nI_eqP, nI_leP, nI_ltP, nI_m1, m1_nI, nI_ll, m1_l, l_m1]
    · simp (disch := omega) only [fn_282, LM L1, mWho L1 M1 I.1, mmon (a := 0) _ L1, e1, h, Option.map_some, eq_self, Nat.le_refl, Nat.lt_irrefl, some_if, Option.bind_some, Option.bind_none, Option.some.injEq, ↓reduceIte, reduceCtorEq, Bool.false_eq_true, Bool.true_eq_false, not_true_eq_false, not_false_eq_true, cmb0, cmb1, Nat.reduceAdd, Nat.reduceMul, Nat.reduceSub, Nat.add_zero, Bool.not_eq_true, Bool.not_eq_false, Nat.reduceEqDiff, Nat.reduceLeDiff, Nat.reduceLT, Int32.reduceLT, Int32.reduceLE, iin_nI, iin_lit, iin_m1, tn_nI, tn_lit, nI_lm, nI_ml, nI_al, nI_la, nI_add, pk_mul, nI_le_l, nI_l_le, nI_lt_l, nI_l_lt, nI_eq_l, nI_l_eq, nI_eqP, nI_leP, nI_ltP, nI_m1, m1_nI, nI_ll, m1_l, l_m1]
  obtain ⟨y1, y, a1, F1, a2, F, K⟩ := c_mko L hv V I.1 hp hm
  have O := mko_ok I.1 hp hm
  have tt := shs_sg (m := m) I.1 hp
  have a3 := fun x (hx : x < 1000) => c48 F.1 K O (mko_D I.1 hp) (x := x) hx
  have a4 : ∀ x, x < 1000 → fn_48 y 51 (nI x) = some (nI (abv s p m x)) := fun x hx => by
    rw [a3 x hx, if_neg (by omega)]
    unfold abv
    rw [tt]
    rfl
  have a5 := a4 x3 hx3
  have a6 : fn_48 y 51 0 = some (nI (abv s p m 0)) := a4 0 (by omega)
  refine ok_ro (r := nI (abv s p m x3) - if (0 : Int32) < nI (abv s p m 0) - nI (100 * x3) then nI (abv s p m 0) - nI (100 * x3) else 0) g ⟨y, ?_, F⟩ (fun x L1 M1 _ => ⟨x, ?_, FM.rf L1 M1⟩)
  · simp (disch := omega) only [fn_179, fn_179_24, fn_177, bmon, cpri, ↓LCb L, LC L, LV L hv, e10, z, a1, ↓LCb F1.1, LC F1.1, a2, ↓LCb F.1, LC F.1, a5, a6, eq_self, Nat.le_refl, Nat.lt_irrefl, some_if, Option.bind_some, Option.bind_none, Option.some.injEq, ↓reduceIte, reduceCtorEq, Bool.false_eq_true, Bool.true_eq_false, not_true_eq_false, not_false_eq_true, cmb0, cmb1, Nat.reduceAdd, Nat.reduceMul, Nat.reduceSub, Nat.add_zero, Bool.not_eq_true, Bool.not_eq_false, Nat.reduceEqDiff, Nat.reduceLeDiff, Nat.reduceLT, Int32.reduceLT, Int32.reduceLE, iin_nI, iin_lit, iin_m1, tn_nI, tn_lit, nI_lm, nI_ml, nI_al, nI_la, nI_add, pk_mul, nI_le_l, nI_l_le, nI_lt_l, nI_l_lt, nI_eq_l, nI_l_eq, nI_eqP, nI_leP, nI_ltP, nI_m1, m1_nI, nI_ll, m1_l, l_m1]
  · have nT0 : ¬ nT s = 0 := t0
    have e9 := (m229 L1 M1 I.1 (p := p) (by omega)).trans (congrArg some es)
    have b : ∀ x, sgm (fun t => (mko s p m).D t * ((mko s p m).U t - x)) (nT s) ≤ 98901 * (nT s) := fun x => sgm_bd _ _ fun k hk => by
      have := (O.1 k hk).2.1
      exact Nat.mul_le_mul (mko_D I.1 hp k) (show (mko s p m).U k - x ≤ 999 by omega)
    have e0 : fn_282 x 96 (nI p) (nI m) (nI x3) = fn_282_44 x cm_N 96 (nI p) (nI m) (nI x3) 0 0 0 := by
      simp (disch := omega) only [fn_282, fn_282_35, LM L1, RM M1, hT.1, mWho L1 M1 I.1, mmon (a := 0) _ L1, e1, nT0, eq_self, Nat.le_refl, Nat.lt_irrefl, some_if, Option.bind_some, Option.bind_none, Option.some.injEq, ↓reduceIte, reduceCtorEq, Bool.false_eq_true, Bool.true_eq_false, not_true_eq_false, not_false_eq_true, cmb0, cmb1, Nat.reduceAdd, Nat.reduceMul, Nat.reduceSub, Nat.add_zero, Bool.not_eq_true, Bool.not_eq_false, Nat.reduceEqDiff, Nat.reduceLeDiff, Nat.reduceLT, Int32.reduceLT, Int32.reduceLE, iin_nI, iin_lit, iin_m1, tn_nI, tn_lit, nI_lm, nI_ml, nI_al, nI_la, nI_add, pk_mul, nI_le_l, nI_l_le, nI_lt_l, nI_l_lt, nI_eq_l, nI_l_eq, nI_eqP, nI_leP, nI_ltP, nI_m1, m1_nI, nI_ll, m1_l, l_m1]
    show (fn_282 x 96 (nI p) (nI m) (nI x3)).map _ = _
    have fin : fn_282_44 x cm_N 96 (nI p) (nI m) (nI x3) 0 0 0 = some (nI (abv s p m x3) - if (0 : Int32) < nI (abv s p m 0) - nI (100 * x3) then nI (abv s p m 0) - nI (100 * x3) else 0) := by
      refine up_0 (fun n k (a : Int32 × Int32) => fn_282_44 x n 96 (nI p) (nI m) (nI x3) a.1 a.2 (nI k)) (nT s) (fun k a => a = (nI (sgm (fun t => (mko s p m).D t * ((mko s p m).U t - x3)) k), nI (sgm (fun t => (mko s p m).D t * ((mko s p m).U t - 0)) k))) (fun o => o = _) (0, 0) (by omega) rfl (fun n k a hk ha => Or.inr ⟨_, rfl, ?_⟩) (fun n a ha => ?_)
      · subst ha
        dsimp only
        have hk' : ¬ nT s ≤ k := by omega
        obtain ⟨es, hs⟩ := sh_n I.1 hp hk
        have e8 := (m228 L1 M1 (p := p) (t := k) (by omega) (by omega)).trans (congrArg some es)
        obtain ⟨ew, hw⟩ := wo_n I.1 hk hm
        have e2 := (m222 L1 M1 (t := k) (by omega) (nI m)).trans (congrArg some ew)
        have mx := mx_sub (a := wn s m k) (b := x3) (by omega) (by omega)
        have d : (mko s p m).D k = tn (s 107 (8 * p + k)) := if_pos hk
        have dU : (mko s p m).U k = wn s m k := rfl
        show _ = fn_282_44 x n 96 (nI p) (nI m) (nI x3) (nI (sgm (fun t => (mko s p m).D t * ((mko s p m).U t - x3)) k + (mko s p m).D k * ((mko s p m).U k - x3))) (nI (sgm (fun t => (mko s p m).D t * ((mko s p m).U t - 0)) k + (mko s p m).D k * ((mko s p m).U k - 0))) (nI (k + 1))
        rw [d, dU, Nat.sub_zero (wn s m k)]
        simp (disch := omega) only [fn_282_44, ↓LMb L1, LM L1, RM M1, hT.1, hk', e8, e2, mx, eq_self, Nat.le_refl, Nat.lt_irrefl, some_if, Option.bind_some, Option.bind_none, Option.some.injEq, ↓reduceIte, reduceCtorEq, Bool.false_eq_true, Bool.true_eq_false, not_true_eq_false, not_false_eq_true, cmb0, cmb1, Nat.reduceAdd, Nat.reduceMul, Nat.reduceSub, Nat.add_zero, Bool.not_eq_true, Bool.not_eq_false, Nat.reduceEqDiff, Nat.reduceLeDiff, Nat.reduceLT, Int32.reduceLT, Int32.reduceLE, iin_nI, iin_lit, iin_m1, tn_nI, tn_lit, nI_lm, nI_ml, nI_al, nI_la, nI_add, pk_mul, nI_le_l, nI_l_le, nI_lt_l, nI_l_lt, nI_eq_l, nI_l_eq, nI_eqP, nI_leP, nI_ltP, nI_m1, m1_nI, nI_ll, m1_l, l_m1]
      · subst ha
        dsimp only
        have b1 := b x3
        have b2 := b 0
        have q1 : ¬ tn (shs s p) = 0 := by omega
        unfold abv
        generalize sgm (fun t => (mko s p m).D t * ((mko s p m).U t - x3)) (nT s) = A at *
        generalize sgm (fun t => (mko s p m).D t * ((mko s p m).U t - 0)) (nT s) = B at *
        have d1 : nI (100 * A) / nI (tn (shs s p)) = nI (A * 100 / tn (shs s p)) := by
          rw [pk_div (by omega) (by omega) (by omega), Nat.mul_comm]
        have d2 : nI (100 * B) / nI (tn (shs s p)) = nI (B * 100 / tn (shs s p)) := by
          rw [pk_div (by omega) (by omega) (by omega), Nat.mul_comm]
        simp (disch := omega) only [fn_282_44, fn_282_105, ↓LMb L1, LM L1, RM M1, hT.1, e9, q1, d1, d2, eq_self, Nat.le_refl, Nat.lt_irrefl, some_if, Option.bind_some, Option.bind_none, Option.some.injEq, ↓reduceIte, reduceCtorEq, Bool.false_eq_true, Bool.true_eq_false, not_true_eq_false, not_false_eq_true, cmb0, cmb1, Nat.reduceAdd, Nat.reduceMul, Nat.reduceSub, Nat.add_zero, Bool.not_eq_true, Bool.not_eq_false, Nat.reduceEqDiff, Nat.reduceLeDiff, Nat.reduceLT, Int32.reduceLT, Int32.reduceLE, iin_nI, iin_lit, iin_m1, tn_nI, tn_lit, nI_lm, nI_ml, nI_al, nI_la, nI_add, pk_mul, nI_le_l, nI_l_le, nI_lt_l, nI_l_lt, nI_eq_l, nI_l_eq, nI_eqP, nI_leP, nI_ltP, nI_m1, m1_nI, nI_ll, m1_l, l_m1]
    rw [e0, fin]
    rfl
end LITT
