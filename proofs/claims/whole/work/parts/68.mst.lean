/-! the market of a state; the class's market -/
def wn (s : St) (m t : Nat) : Nat := tn (s 100 t) - tn (s 103 t) * m
def kn (s : St) (m t : Nat) : Nat := wn s m t * tn (s 96 5) / 10
def mil (s : St) (p t : Nat) : Nat := tn (s 107 (8 * p + t)) * 1000000 / tn (shs s p)
def tog (s : St) (l : Nat) (i j : Int32) (p t : Nat) : Bool :=
  if l = 0 then true else if l = 1 then decide (nI p = i) else if l = 2 then decide (s 102 (tn j) = s 102 t) else decide (s 101 (tn j) = s 101 t)
def dm (s : St) (l : Nat) (i j : Int32) (t : Nat) : Nat := sgm (fun p => if tog s l i j p t then mil s p t else 0) (nP s)
def mkt (s : St) (l : Nat) (i j : Int32) (m : Nat) : Mk := (fun t => if t < nT s then dm s l i j t else 0, wn s m, kn s m, nT s)
/-- of one's own shares -/
def mko (s : St) (p m : Nat) : Mk := (fun t => if t < nT s then tn (s 107 (8 * p + t)) else 0, wn s m, kn s m, nT s)
def MkC (w : cm_W) (M : Mk) : Prop := (∀ t, t < 8 → cm_L w 52 t = lN (M.D t)) ∧ ∀ t, t < M.n → cm_I w 53 t = nI (M.U t) ∧ cm_I w 54 t = nI (M.K t)
def rp (M : Mk) : Int32 := if M.rest = 0 then -1 else nI (M.rest - 1)
section MST
variable {v c u n : Nat} {w w' : cm_W} {s s' : St} {M : Mk}
theorem wo_n (I : InvV s) {t m : Nat} (ht : t < nT s) (hm : m < 6) : wo s t (nI m) = nI (wn s m t) ∧ wn s m t < 1000 := by
  obtain ⟨⟨a, ha, ea⟩, -, -, ⟨d, hd, ed⟩⟩ := I.2.2.2.2.1 t ht
  unfold wo wn
  rw [ea, ed, tn_nIe (by omega), tn_nIe (by omega)]
  have h1 : d * m ≤ 99 * 5 := Nat.mul_le_mul (by omega) (by omega)
  rw [pk_mul]
  refine ⟨?_, by omega⟩
  by_cases q : d * m ≤ a
  · rw [pk_sub q]
    by_cases z : a - d * m = 0
    · rw [z]; rfl
    · rw [if_pos (show (0 : Int32) < nI (a - d * m) from (nI_ltI (a := 0) (by omega) (by omega)).mpr (by omega))]
  · have e : nI a - nI (d * m) = -nI (d * m - a) := by
      rw [← pk_sub (show a ≤ d * m by omega)]
      generalize nI a = x
      generalize nI (d * m) = y
      grind
    rw [e, if_neg, show a - d * m = 0 by omega]
    · rfl
    · have h2 : ∀ k : Fin 600, ¬ (0 : Int32) < -nI k.1 := by decide +kernel
      exact h2 ⟨d * m - a, by omega⟩
theorem ko_n (I : InvV s) {t m : Nat} (ht : t < nT s) (hm : m < 6) : ko s t (nI m) = nI (kn s m t) := by
  obtain ⟨e, h⟩ := wo_n I ht hm
  obtain ⟨⟨x, hx, ex⟩, -⟩ := I.2.2.2.1
  unfold ko kn
  rw [e, ex, tn_nIe (by omega), pk_mul]
  have : wn s m t * x ≤ 999 * 10 := Nat.mul_le_mul (by omega) (by omega)
  exact pk_div (d := 10) (by omega) (by omega) (by omega)
theorem kn_le (I : InvV s) {t m : Nat} : kn s m t ≤ wn s m t := by
  obtain ⟨⟨x, hx, ex⟩, -⟩ := I.2.2.2.1
  unfold kn
  rw [ex, tn_nIe (by omega)]
  have : wn s m t * x ≤ wn s m t * 10 := Nat.mul_le_mul_left _ (by omega)
  omega
theorem kn_mono {t t' m : Nat} (h : kn s m t < kn s m t') : wn s m t ≤ wn s m t' := by
  rcases Nat.lt_or_ge (wn s m t') (wn s m t) with h2 | h2
  · exfalso
    unfold kn at h
    have := Nat.mul_le_mul_right (tn (s 96 5)) (Nat.le_of_lt h2)
    have := Nat.div_le_div_right (c := 10) this
    omega
  · exact h2
theorem sh_n (I : InvV s) {p t : Nat} (hp : p < nP s) (ht : t < nT s) : s 107 (8 * p + t) = nI (tn (s 107 (8 * p + t))) ∧ tn (s 107 (8 * p + t)) < 100 := by
  obtain ⟨-, h1, -⟩ := I.2.2.2.2.2.1 p hp
  obtain ⟨k, hk, e⟩ := h1 t ht
  rw [e, tn_nIe (by omega)]
  exact ⟨rfl, hk⟩
theorem shs_n (I : InvV s) {p : Nat} (hp : p < nP s) : shs s p = nI (tn (shs s p)) ∧ tn (shs s p) ≤ 800 ∧ (0 < nT s → 0 < tn (shs s p)) := by
  have hT := I.1
  obtain ⟨k, hk, e, h⟩ := shs_rg I hp
  rw [e, tn_nIe (by omega)]
  exact ⟨rfl, by omega, h⟩
theorem mil_le (I : InvV s) {p t : Nat} (hp : p < nP s) (ht : t < nT s) : mil s p t ≤ 99000000 := by
  have := (sh_n I hp ht).2
  unfold mil
  refine Nat.le_trans (Nat.div_le_self _ _) ?_
  omega
theorem dm_le (I : InvV s) {l t : Nat} {i j : Int32} (ht : t < nT s) : dm s l i j t ≤ 1188000000 := by
  have hP := I.2.1
  have := sgm_bd (f := fun p => if tog s l i j p t then mil s p t else 0) 99000000 (nP s) (fun p hp => by
    have := mil_le I hp ht
    show (if tog s l i j p t then mil s p t else 0) ≤ _
    split <;> omega)
  unfold dm
  omega
theorem mkt_ok (I : InvV s) {l m : Nat} {i j : Int32} (hm : m < 6) : (mkt s l i j m).Ok := by
  refine ⟨fun t ht => ⟨kn_le I, (wo_n I ht hm).2, ?_⟩, fun t u _ _ h => kn_mono h, I.1.2, fun t ht => if_neg (Nat.not_lt.mpr ht)⟩
  have := dm_le I (l := l) (i := i) (j := j) ht
  show (if t < nT s then dm s l i j t else 0) ≤ _
  split <;> omega
theorem mko_ok (I : InvV s) {p m : Nat} (hp : p < nP s) (hm : m < 6) : (mko s p m).Ok := by
  refine ⟨fun t ht => ⟨kn_le I, (wo_n I ht hm).2, ?_⟩, fun t u _ _ h => kn_mono h, I.1.2, fun t ht => if_neg (Nat.not_lt.mpr ht)⟩
  have := (sh_n I hp ht).2
  show (if t < nT s then tn (s 107 (8 * p + t)) else 0) ≤ _
  split <;> omega
theorem mil_f (l : Nat) : (lN 1000000 : Int64) = 1000000 := rfl
theorem c35 (L : Lay v c w) (hu : u = 10 ∨ u = 20) (V : VilC w u s) (I : InvV s) {p t : Nat} (hp : p < nP s) (ht : t < 8) : fn_35 w u (nI p) (nI t) = some (lN (if t < nT s then mil s p t else 0)) := by
  obtain ⟨e1, h1, h2⟩ := shs_n I hp
  have e10 := (c10 L hu V I hp).trans (congrArg some e1)
  by_cases q : t < nT s
  · obtain ⟨e3, h3⟩ := sh_n I hp q
    have e8 := (c8 L hu V I hp q).trans (congrArg some e3)
    have h2 := h2 (by omega)
    have q1 : ¬ tn (shs s p) ≤ 0 := by omega
    have q2 : ¬ lN (tn (shs s p)) = 0 := by
      rw [show (0 : Int64) = lN 0 from rfl, pk_lEQ (by omega) (by omega)]; omega
    unfold fn_35
    simp (disch := omega) only [LV L hu, e10, e8, q1, nI_l, q2, eq_self, Nat.le_refl, Nat.lt_irrefl, some_if, Option.bind_some, Option.bind_none, Option.some.injEq, ↓reduceIte, reduceCtorEq, Bool.false_eq_true, Bool.true_eq_false, not_true_eq_false, not_false_eq_true, cmb0, cmb1, Nat.reduceAdd, Nat.reduceMul, Nat.reduceSub, Nat.add_zero, Bool.not_eq_true, Bool.not_eq_false, Nat.reduceEqDiff, Nat.reduceLeDiff, Nat.reduceLT, Int32.reduceLT, Int32.reduceLE, iin_nI, iin_lit, iin_m1, tn_nI, tn_lit, nI_lm, nI_ml, nI_al, nI_la, nI_add, pk_mul, nI_le_l, nI_l_le, nI_lt_l, nI_l_lt, nI_eq_l, nI_l_eq, nI_eqP, nI_leP, nI_ltP, nI_m1, m1_nI, nI_ll, m1_l, l_m1]
    rw [show (1000000 : Int64) = lN 1000000 from rfl, lN_mul, pk_lDiv (by omega) h2 (by omega), if_pos q]
    rfl
  · have e8 := c8t L hu V I (i := nI p) (j := nI t) (iin_no (by omega) (by omega))
    unfold fn_35
    rw [if_neg q]
    by_cases z : tn (shs s p) = 0
    · have q1 : tn (shs s p) ≤ 0 := by omega
      simp (disch := omega) only [LV L hu, e10, e8, q1, nI_l, eq_self, Nat.le_refl, Nat.lt_irrefl, some_if, Option.bind_some, Option.bind_none, Option.some.injEq, ↓reduceIte, reduceCtorEq, Bool.false_eq_true, Bool.true_eq_false, not_true_eq_false, not_false_eq_true, cmb0, cmb1, Nat.reduceAdd, Nat.reduceMul, Nat.reduceSub, Nat.add_zero, Bool.not_eq_true, Bool.not_eq_false, Nat.reduceEqDiff, Nat.reduceLeDiff, Nat.reduceLT, Int32.reduceLT, Int32.reduceLE, iin_nI, iin_lit, iin_m1, tn_nI, tn_lit, nI_lm, nI_ml, nI_al, nI_la, nI_add, pk_mul, nI_le_l, nI_l_le, nI_lt_l, nI_l_lt, nI_eq_l, nI_l_eq, nI_eqP, nI_leP, nI_ltP, nI_m1, m1_nI, nI_ll, m1_l, l_m1]
      rfl
    · have q1 : ¬ tn (shs s p) ≤ 0 := by omega
      have q2 : ¬ lN (tn (shs s p)) = 0 := by
        rw [show (0 : Int64) = lN 0 from rfl, pk_lEQ (by omega) (by omega)]; omega
      simp (disch := omega) only [LV L hu, e10, e8, q1, nI_l, q2, eq_self, Nat.le_refl, Nat.lt_irrefl, some_if, Option.bind_some, Option.bind_none, Option.some.injEq, ↓reduceIte, reduceCtorEq, Bool.false_eq_true, Bool.true_eq_false, not_true_eq_false, not_false_eq_true, cmb0, cmb1, Nat.reduceAdd, Nat.reduceMul, Nat.reduceSub, Nat.add_zero, Bool.not_eq_true, Bool.not_eq_false, Nat.reduceEqDiff, Nat.reduceLeDiff, Nat.reduceLT, Int32.reduceLT, Int32.reduceLE, iin_nI, iin_lit, iin_m1, tn_nI, tn_lit, nI_lm, nI_ml, nI_al, nI_la, nI_add, pk_mul, nI_le_l, nI_l_le, nI_lt_l, nI_l_lt, nI_eq_l, nI_l_eq, nI_eqP, nI_leP, nI_ltP, nI_m1, m1_nI, nI_ll, m1_l, l_m1]
      rw [show ((0 : Int32).toInt64) = lN 0 from rfl, show (1000000 : Int64) = lN 1000000 from rfl, lN_mul, Nat.zero_mul, pk_lDiv (by omega) (by omega) (by omega), Nat.zero_div]
theorem c34 (L : Lay v c w) (hu : u = 10 ∨ u = 20) (V : VilC w u s) (I : InvV s) {l p t : Nat} {i j : Int32} (hl : l < 2 ∨ l < 4 ∧ ∃ t0, t0 < nT s ∧ j = nI t0) (ht : t < nT s) : fn_34 w u (nI l) (if nI p = i then 1 else 0) j (nI t) = some (tog s l i j p t) := by
  unfold tog
  rcases hl with hl | ⟨hl, t0, h0, rfl⟩
  · rcases (show l = 0 ∨ l = 1 by omega) with rfl | rfl
    · simp (disch := omega) only [fn_34, eq_self, Nat.le_refl, Nat.lt_irrefl, some_if, Option.bind_some, Option.bind_none, Option.some.injEq, ↓reduceIte, reduceCtorEq, Bool.false_eq_true, Bool.true_eq_false, not_true_eq_false, not_false_eq_true, cmb0, cmb1, Nat.reduceAdd, Nat.reduceMul, Nat.reduceSub, Nat.add_zero, Bool.not_eq_true, Bool.not_eq_false, Nat.reduceEqDiff, Nat.reduceLeDiff, Nat.reduceLT, Int32.reduceLT, Int32.reduceLE, iin_nI, iin_lit, iin_m1, tn_nI, tn_lit, nI_lm, nI_ml, nI_al, nI_la, nI_add, pk_mul, nI_le_l, nI_l_le, nI_lt_l, nI_l_lt, nI_eq_l, nI_l_eq, nI_eqP, nI_leP, nI_ltP, nI_m1, m1_nI, nI_ll, m1_l, l_m1]
    · by_cases q : nI p = i <;> simp (disch := omega) only [fn_34, q, decide_false, true_or, or_true, decide_true, eq_self, Nat.le_refl, Nat.lt_irrefl, some_if, Option.bind_some, Option.bind_none, Option.some.injEq, ↓reduceIte, reduceCtorEq, Bool.false_eq_true, Bool.true_eq_false, not_true_eq_false, not_false_eq_true, cmb0, cmb1, Nat.reduceAdd, Nat.reduceMul, Nat.reduceSub, Nat.add_zero, Bool.not_eq_true, Bool.not_eq_false, Nat.reduceEqDiff, Nat.reduceLeDiff, Nat.reduceLT, Int32.reduceLT, Int32.reduceLE, iin_nI, iin_lit, iin_m1, tn_nI, tn_lit, nI_lm, nI_ml, nI_al, nI_la, nI_add, pk_mul, nI_le_l, nI_l_le, nI_lt_l, nI_l_lt, nI_eq_l, nI_l_eq, nI_eqP, nI_leP, nI_ltP, nI_m1, m1_nI, nI_ll, m1_l, l_m1]
  · have hT := I.1
    have tt : tn (nI t0) = t0 := tn_nIe (by omega)
    have t1 : fn_1 w (u + 2) (nI t0) 1 = some (s 101 t0) := getT (k := 1) L hu V I h0 (by decide)
    have t2 : fn_1 w (u + 2) (nI t0) 2 = some (s 102 t0) := getT (k := 2) L hu V I h0 (by decide)
    have t3 : fn_1 w (u + 2) (nI t) 1 = some (s 101 t) := getT (k := 1) L hu V I ht (by decide)
    have t4 : fn_1 w (u + 2) (nI t) 2 = some (s 102 t) := getT (k := 2) L hu V I ht (by decide)
    rcases (show l = 0 ∨ l = 1 ∨ l = 2 ∨ l = 3 by omega) with rfl | rfl | rfl | rfl
    · simp (disch := omega) only [fn_34, eq_self, Nat.le_refl, Nat.lt_irrefl, some_if, Option.bind_some, Option.bind_none, Option.some.injEq, ↓reduceIte, reduceCtorEq, Bool.false_eq_true, Bool.true_eq_false, not_true_eq_false, not_false_eq_true, cmb0, cmb1, Nat.reduceAdd, Nat.reduceMul, Nat.reduceSub, Nat.add_zero, Bool.not_eq_true, Bool.not_eq_false, Nat.reduceEqDiff, Nat.reduceLeDiff, Nat.reduceLT, Int32.reduceLT, Int32.reduceLE, iin_nI, iin_lit, iin_m1, tn_nI, tn_lit, nI_lm, nI_ml, nI_al, nI_la, nI_add, pk_mul, nI_le_l, nI_l_le, nI_lt_l, nI_l_lt, nI_eq_l, nI_l_eq, nI_eqP, nI_leP, nI_ltP, nI_m1, m1_nI, nI_ll, m1_l, l_m1]
    · by_cases q : nI p = i <;> simp (disch := omega) only [fn_34, q, decide_false, true_or, or_true, decide_true, eq_self, Nat.le_refl, Nat.lt_irrefl, some_if, Option.bind_some, Option.bind_none, Option.some.injEq, ↓reduceIte, reduceCtorEq, Bool.false_eq_true, Bool.true_eq_false, not_true_eq_false, not_false_eq_true, cmb0, cmb1, Nat.reduceAdd, Nat.reduceMul, Nat.reduceSub, Nat.add_zero, Bool.not_eq_true, Bool.not_eq_false, Nat.reduceEqDiff, Nat.reduceLeDiff, Nat.reduceLT, Int32.reduceLT, Int32.reduceLE, iin_nI, iin_lit, iin_m1, tn_nI, tn_lit, nI_lm, nI_ml, nI_al, nI_la, nI_add, pk_mul, nI_le_l, nI_l_le, nI_lt_l, nI_l_lt, nI_eq_l, nI_l_eq, nI_eqP, nI_leP, nI_ltP, nI_m1, m1_nI, nI_ll, m1_l, l_m1]
    · by_cases q : s 102 t0 = s 102 t <;> simp (disch := omega) only [fn_34, fn_34_32, ↓LVb L hu, LV L hu, t2, t4, tt, q, decide_false, decide_true, eq_self, Nat.le_refl, Nat.lt_irrefl, some_if, Option.bind_some, Option.bind_none, Option.some.injEq, ↓reduceIte, reduceCtorEq, Bool.false_eq_true, Bool.true_eq_false, not_true_eq_false, not_false_eq_true, cmb0, cmb1, Nat.reduceAdd, Nat.reduceMul, Nat.reduceSub, Nat.add_zero, Bool.not_eq_true, Bool.not_eq_false, Nat.reduceEqDiff, Nat.reduceLeDiff, Nat.reduceLT, Int32.reduceLT, Int32.reduceLE, iin_nI, iin_lit, iin_m1, tn_nI, tn_lit, nI_lm, nI_ml, nI_al, nI_la, nI_add, pk_mul, nI_le_l, nI_l_le, nI_lt_l, nI_l_lt, nI_eq_l, nI_l_eq, nI_eqP, nI_leP, nI_ltP, nI_m1, m1_nI, nI_ll, m1_l, l_m1]
    · by_cases q : s 101 t0 = s 101 t <;> simp (disch := omega) only [fn_34, fn_34_60, ↓LVb L hu, LV L hu, t1, t3, tt, q, decide_false, decide_true, eq_self, Nat.le_refl, Nat.lt_irrefl, some_if, Option.bind_some, Option.bind_none, Option.some.injEq, ↓reduceIte, reduceCtorEq, Bool.false_eq_true, Bool.true_eq_false, not_true_eq_false, not_false_eq_true, cmb0, cmb1, Nat.reduceAdd, Nat.reduceMul, Nat.reduceSub, Nat.add_zero, Bool.not_eq_true, Bool.not_eq_false, Nat.reduceEqDiff, Nat.reduceLeDiff, Nat.reduceLT, Int32.reduceLT, Int32.reduceLE, iin_nI, iin_lit, iin_m1, tn_nI, tn_lit, nI_lm, nI_ml, nI_al, nI_la, nI_add, pk_mul, nI_le_l, nI_l_le, nI_lt_l, nI_l_lt, nI_eq_l, nI_l_eq, nI_eqP, nI_leP, nI_ltP, nI_m1, m1_nI, nI_ll, m1_l, l_m1]
theorem c34o (L : Lay v c w) (hu : u = 10 ∨ u = 20) (V : VilC w u s) (I : InvV s) {l p t : Nat} {i j : Int32} (hl : l < 2 ∨ l < 4 ∧ ∃ t0, t0 < nT s ∧ j = nI t0) (ht : t < 8) : ∃ b, fn_34 w u (nI l) (if nI p = i then 1 else 0) j (nI t) = some b := by
  rcases hl with hl | ⟨hl, t0, h0, rfl⟩
  · rcases (show l = 0 ∨ l = 1 by omega) with rfl | rfl
    · exact ⟨true, by simp (disch := omega) only [fn_34, eq_self, Nat.le_refl, Nat.lt_irrefl, some_if, Option.bind_some, Option.bind_none, Option.some.injEq, ↓reduceIte, reduceCtorEq, Bool.false_eq_true, Bool.true_eq_false, not_true_eq_false, not_false_eq_true, cmb0, cmb1, Nat.reduceAdd, Nat.reduceMul, Nat.reduceSub, Nat.add_zero, Bool.not_eq_true, Bool.not_eq_false, Nat.reduceEqDiff, Nat.reduceLeDiff, Nat.reduceLT, Int32.reduceLT, Int32.reduceLE, iin_nI, iin_lit, iin_m1, tn_nI, tn_lit, nI_lm, nI_ml, nI_al, nI_la, nI_add, pk_mul, nI_le_l, nI_l_le, nI_lt_l, nI_l_lt, nI_eq_l, nI_l_eq, nI_eqP, nI_leP, nI_ltP, nI_m1, m1_nI, nI_ll, m1_l, l_m1]⟩
    · by_cases q : nI p = i
      · exact ⟨true, by simp (disch := omega) only [fn_34, q, decide_false, true_or, or_true, decide_true, eq_self, Nat.le_refl, Nat.lt_irrefl, some_if, Option.bind_some, Option.bind_none, Option.some.injEq, ↓reduceIte, reduceCtorEq, Bool.false_eq_true, Bool.true_eq_false, not_true_eq_false, not_false_eq_true, cmb0, cmb1, Nat.reduceAdd, Nat.reduceMul, Nat.reduceSub, Nat.add_zero, Bool.not_eq_true, Bool.not_eq_false, Nat.reduceEqDiff, Nat.reduceLeDiff, Nat.reduceLT, Int32.reduceLT, Int32.reduceLE, iin_nI, iin_lit, iin_m1, tn_nI, tn_lit, nI_lm, nI_ml, nI_al, nI_la, nI_add, pk_mul, nI_le_l, nI_l_le, nI_lt_l, nI_l_lt, nI_eq_l, nI_l_eq, nI_eqP, nI_leP, nI_ltP, nI_m1, m1_nI, nI_ll, m1_l, l_m1]⟩
      · exact ⟨false, by simp (disch := omega) only [fn_34, q, decide_false, true_or, or_true, decide_true, eq_self, Nat.le_refl, Nat.lt_irrefl, some_if, Option.bind_some, Option.bind_none, Option.some.injEq, ↓reduceIte, reduceCtorEq, Bool.false_eq_true, Bool.true_eq_false, not_true_eq_false, not_false_eq_true, cmb0, cmb1, Nat.reduceAdd, Nat.reduceMul, Nat.reduceSub, Nat.add_zero, Bool.not_eq_true, Bool.not_eq_false, Nat.reduceEqDiff, Nat.reduceLeDiff, Nat.reduceLT, Int32.reduceLT, Int32.reduceLE, iin_nI, iin_lit, iin_m1, tn_nI, tn_lit, nI_lm, nI_ml, nI_al, nI_la, nI_add, pk_mul, nI_le_l, nI_l_le, nI_lt_l, nI_l_lt, nI_eq_l, nI_l_eq, nI_eqP, nI_leP, nI_ltP, nI_m1, m1_nI, nI_ll, m1_l, l_m1]⟩
  · have hT := I.1
    have t1 : fn_1 w (u + 2) (nI t0) 1 = some (s 101 t0) := getT (k := 1) L hu V I h0 (by decide)
    have t2 : fn_1 w (u + 2) (nI t0) 2 = some (s 102 t0) := getT (k := 2) L hu V I h0 (by decide)
    have t3 : ∃ z, fn_1 w (u + 2) (nI t) 1 = some z := ⟨_, gTC (k := 1) L hu V I (by omega) (by decide)⟩
    have t4 : ∃ z, fn_1 w (u + 2) (nI t) 2 = some z := ⟨_, gTC (k := 2) L hu V I (by omega) (by decide)⟩
    obtain ⟨z3, t3⟩ := t3
    obtain ⟨z4, t4⟩ := t4
    rcases (show l = 0 ∨ l = 1 ∨ l = 2 ∨ l = 3 by omega) with rfl | rfl | rfl | rfl
    · exact ⟨true, by simp (disch := omega) only [fn_34, eq_self, Nat.le_refl, Nat.lt_irrefl, some_if, Option.bind_some, Option.bind_none, Option.some.injEq, ↓reduceIte, reduceCtorEq, Bool.false_eq_true, Bool.true_eq_false, not_true_eq_false, not_false_eq_true, cmb0, cmb1, Nat.reduceAdd, Nat.reduceMul, Nat.reduceSub, Nat.add_zero, Bool.not_eq_true, Bool.not_eq_false, Nat.reduceEqDiff, Nat.reduceLeDiff, Nat.reduceLT, Int32.reduceLT, Int32.reduceLE, iin_nI, iin_lit, iin_m1, tn_nI, tn_lit, nI_lm, nI_ml, nI_al, nI_la, nI_add, pk_mul, nI_le_l, nI_l_le, nI_lt_l, nI_l_lt, nI_eq_l, nI_l_eq, nI_eqP, nI_leP, nI_ltP, nI_m1, m1_nI, nI_ll, m1_l, l_m1]⟩
    · by_cases q : nI p = i
      · exact ⟨true, by simp (disch := omega) only [fn_34, q, decide_false, true_or, or_true, decide_true, eq_self, Nat.le_refl, Nat.lt_irrefl, some_if, Option.bind_some, Option.bind_none, Option.some.injEq, ↓reduceIte, reduceCtorEq, Bool.false_eq_true, Bool.true_eq_false, not_true_eq_false, not_false_eq_true, cmb0, cmb1, Nat.reduceAdd, Nat.reduceMul, Nat.reduceSub, Nat.add_zero, Bool.not_eq_true, Bool.not_eq_false, Nat.reduceEqDiff, Nat.reduceLeDiff, Nat.reduceLT, Int32.reduceLT, Int32.reduceLE, iin_nI, iin_lit, iin_m1, tn_nI, tn_lit, nI_lm, nI_ml, nI_al, nI_la, nI_add, pk_mul, nI_le_l, nI_l_le, nI_lt_l, nI_l_lt, nI_eq_l, nI_l_eq, nI_eqP, nI_leP, nI_ltP, nI_m1, m1_nI, nI_ll, m1_l, l_m1]⟩
      · exact ⟨false, by simp (disch := omega) only [fn_34, q, decide_false, true_or, or_true, decide_true, eq_self, Nat.le_refl, Nat.lt_irrefl, some_if, Option.bind_some, Option.bind_none, Option.some.injEq, ↓reduceIte, reduceCtorEq, Bool.false_eq_true, Bool.true_eq_false, not_true_eq_false, not_false_eq_true, cmb0, cmb1, Nat.reduceAdd, Nat.reduceMul, Nat.reduceSub, Nat.add_zero, Bool.not_eq_true, Bool.not_eq_false, Nat.reduceEqDiff, Nat.reduceLeDiff, Nat.reduceLT, Int32.reduceLT, Int32.reduceLE, iin_nI, iin_lit, iin_m1, tn_nI, tn_lit, nI_lm, nI_ml, nI_al, nI_la, nI_add, pk_mul, nI_le_l, nI_l_le, nI_lt_l, nI_l_lt, nI_eq_l, nI_l_eq, nI_eqP, nI_leP, nI_ltP, nI_m1, m1_nI, nI_ll, m1_l, l_m1]⟩
    · exact ⟨decide (s 102 t0 = z4), by by_cases q : s 102 t0 = z4 <;> simp (disch := omega) only [fn_34, fn_34_32, ↓LVb L hu, LV L hu, t2, t4, q, decide_false, decide_true, eq_self, Nat.le_refl, Nat.lt_irrefl, some_if, Option.bind_some, Option.bind_none, Option.some.injEq, ↓reduceIte, reduceCtorEq, Bool.false_eq_true, Bool.true_eq_false, not_true_eq_false, not_false_eq_true, cmb0, cmb1, Nat.reduceAdd, Nat.reduceMul, Nat.reduceSub, Nat.add_zero, Bool.not_eq_true, Bool.not_eq_false, Nat.reduceEqDiff, Nat.reduceLeDiff, Nat.reduceLT, Int32.reduceLT, Int32.reduceLE, iin_nI, iin_lit, iin_m1, tn_nI, tn_lit, nI_lm, nI_ml, nI_al, nI_la, nI_add, pk_mul, nI_le_l, nI_l_le, nI_lt_l, nI_l_lt, nI_eq_l, nI_l_eq, nI_eqP, nI_leP, nI_ltP, nI_m1, m1_nI, nI_ll, m1_l, l_m1]⟩
    · exact ⟨decide (s 101 t0 = z3), by by_cases q : s 101 t0 = z3 <;> simp (disch := omega) only [fn_34, fn_34_60, ↓LVb L hu, LV L hu, t1, t3, q, decide_false, decide_true, eq_self, Nat.le_refl, Nat.lt_irrefl, some_if, Option.bind_some, Option.bind_none, Option.some.injEq, ↓reduceIte, reduceCtorEq, Bool.false_eq_true, Bool.true_eq_false, not_true_eq_false, not_false_eq_true, cmb0, cmb1, Nat.reduceAdd, Nat.reduceMul, Nat.reduceSub, Nat.add_zero, Bool.not_eq_true, Bool.not_eq_false, Nat.reduceEqDiff, Nat.reduceLeDiff, Nat.reduceLT, Int32.reduceLT, Int32.reduceLE, iin_nI, iin_lit, iin_m1, tn_nI, tn_lit, nI_lm, nI_ml, nI_al, nI_la, nI_add, pk_mul, nI_le_l, nI_l_le, nI_lt_l, nI_l_lt, nI_eq_l, nI_l_eq, nI_eqP, nI_leP, nI_ltP, nI_m1, m1_nI, nI_ll, m1_l, l_m1]⟩
end MST
