/-! the class's market: what it gathers, the price where it rests, what is sold and lost -/
def dmp (s : St) (l : Nat) (i j : Int32) (n t : Nat) : Nat := if t < nT s then sgm (fun p => if tog s l i j p t then mil s p t else 0) n else 0
def enc (x : Nat) : Int32 := if x = 0 then -1 else nI (x - 1)
def Mk.tot (M : Mk) : Nat := sgm M.D M.n
def Mk.un (M : Mk) (t : Nat) : Nat := if M.rest ≠ 0 ∧ M.sold (M.rest - 1) t = true then 0 else M.D t * (M.U t - M.K t)
def Mk.lost (M : Mk) : Nat := sgm M.un M.n
section CMK
variable {v c u n : Nat} {w w' : cm_W} {s s' : St} {M : Mk}
theorem lle0 {d : Nat} (h : d < 2 ^ 63) : (lN d ≤ (0 : Int64)) = (d = 0) := by
  rw [show (0 : Int64) = lN 0 from rfl]
  exact propext ((pk_lLE h (by omega)).trans (by omega))
theorem leq0 {d : Nat} (h : d < 2 ^ 63) : (lN d = (0 : Int64)) = (d = 0) := by
  rw [show (0 : Int64) = lN 0 from rfl]
  exact propext (pk_lEQ h (by omega))
theorem enc_s (x : Nat) : enc (x + 1) = nI x := rfl
theorem rp_enc : rp M = enc M.rest := rfl
theorem Mk.Ok.D0 (h : M.Ok) {t : Nat} (ht : M.n ≤ t) : M.D t = 0 := h.2.2.2 t ht
theorem Mk.Ok.Db (h : M.Ok) (t : Nat) : M.D t ≤ 100000000000000 := by
  by_cases q : t < M.n
  · exact (h.1 t q).2.2
  · rw [h.D0 (by omega)]; omega
theorem Mk.Ok.so (h : M.Ok) {t q : Nat} (ht : M.n ≤ t) : M.sold q t = false := by
  unfold Mk.sold
  rw [h.D0 ht]
  exact decide_eq_false (fun z => by omega)
theorem c32 (L : Lay v c w) (hv : v = 10 ∨ v = 20) (V : VilC w v s) (I : InvV s) {m : Nat} (hm : m < 6) : ∃ y, fn_32 51 v (nI m) w = some y ∧ FC v c w y ∧ ∀ t, t < nT s → cm_I y 53 t = nI (wn s m t) ∧ cm_I y 54 t = nI (kn s m t) := by
  have hT := I.1
  refine up_0 (fun n k a => fn_32_2 n 51 v (nI m) (nI k) a) 8 (fun k a => FC v c w a ∧ ∀ t, t < k → t < nT s → cm_I a 53 t = nI (wn s m t) ∧ cm_I a 54 t = nI (kn s m t)) (fun o => ∃ y, o = some y ∧ FC v c w y ∧ ∀ t, t < nT s → cm_I y 53 t = nI (wn s m t) ∧ cm_I y 54 t = nI (kn s m t)) w (by omega) ⟨FC.rf L, fun q h => by omega⟩ (fun n k a hk ha => Or.inr ?_) (fun n a ha => ?_)
  · obtain ⟨F, h⟩ := ha
    have hk' : ¬ 8 ≤ k := by omega
    have LL := F.1
    have F1 : FC v c w (cm_sI a 53 k (cwo s k (nI m))) := F.sI (by omega)
    have e6 := c6 LL hv (F.V V hv) I (t := k) (by omega) (nI m)
    have e31 := c31 F1.1 hv (F1.V V hv) I (t := k) (by omega) (nI m)
    refine ⟨cm_sI (cm_sI a 53 k (cwo s k (nI m))) 54 k (cko s k (nI m)), ⟨F1.sI (by omega), fun t h1 h2 => ?_⟩, ?_⟩
    · by_cases z : t = k
      · subst z
        refine ⟨?_, ?_⟩
        · rw [I_ne (by omega), I_eq]; unfold cwo; rw [if_pos h2]; exact (wo_n I h2 hm).1
        · rw [I_eq]; unfold cko cwo; rw [if_pos h2]; exact ko_n I h2 hm
      · have := h t (by omega) h2
        refine ⟨?_, ?_⟩
        · rw [I_ne (by omega), I_nk z]; exact this.1
        · rw [I_nk z, I_ne (by omega)]; exact this.2
    · simp (disch := omega) only [fn_32_2, hk', ↓LCb LL, LC LL, LV LL hv, e6, ↓LCb F1.1, e31, R_sI, ga_sI, cm_w2, Nat.reduceLeDiff, Nat.reduceLT, decide_true, Bool.and_self, Bool.and_true, eq_self, Nat.le_refl, Nat.lt_irrefl, some_if, Option.bind_some, Option.bind_none, Option.some.injEq, ↓reduceIte, reduceCtorEq, Bool.false_eq_true, Bool.true_eq_false, not_true_eq_false, not_false_eq_true, cmb0, cmb1, Nat.reduceAdd, Nat.reduceMul, Nat.reduceSub, Nat.add_zero, Bool.not_eq_true, Bool.not_eq_false, Nat.reduceEqDiff, Nat.reduceLeDiff, Nat.reduceLT, Int32.reduceLT, Int32.reduceLE, iin_nI, iin_lit, iin_m1, tn_nI, tn_lit, nI_lm, nI_ml, nI_al, nI_la, nI_add, pk_mul, nI_le_l, nI_l_le, nI_lt_l, nI_l_lt, nI_eq_l, nI_l_eq, nI_eqP, nI_leP, nI_ltP, nI_m1, m1_nI, nI_ll, m1_l, l_m1]
  · obtain ⟨F, h⟩ := ha
    refine ⟨a, ?_, F, fun t ht => h t (by omega) ht⟩
    simp (disch := omega) only [fn_32_2, eq_self, Nat.le_refl, Nat.lt_irrefl, some_if, Option.bind_some, Option.bind_none, Option.some.injEq, ↓reduceIte, reduceCtorEq, Bool.false_eq_true, Bool.true_eq_false, not_true_eq_false, not_false_eq_true, cmb0, cmb1, Nat.reduceAdd, Nat.reduceMul, Nat.reduceSub, Nat.add_zero, Bool.not_eq_true, Bool.not_eq_false, Nat.reduceEqDiff, Nat.reduceLeDiff, Nat.reduceLT, Int32.reduceLT, Int32.reduceLE, iin_nI, iin_lit, iin_m1, tn_nI, tn_lit, nI_lm, nI_ml, nI_al, nI_la, nI_add, pk_mul, nI_le_l, nI_l_le, nI_lt_l, nI_l_lt, nI_eq_l, nI_l_eq, nI_eqP, nI_leP, nI_ltP, nI_m1, m1_nI, nI_ll, m1_l, l_m1]
theorem c33 (L : Lay v c w) : ∃ y, fn_33 52 0 w = some y ∧ FC v c w y ∧ (cm_I y = cm_I w) ∧ ∀ t, t < 8 → cm_L y 52 t = 0 := by
  have e0 : fn_33 52 0 w = fn_33_6 cm_N 52 0 0 (nI 8) w := by
    simp (disch := omega) only [fn_33, LC L, eq_self, Nat.le_refl, Nat.lt_irrefl, some_if, Option.bind_some, Option.bind_none, Option.some.injEq, ↓reduceIte, reduceCtorEq, Bool.false_eq_true, Bool.true_eq_false, not_true_eq_false, not_false_eq_true, cmb0, cmb1, Nat.reduceAdd, Nat.reduceMul, Nat.reduceSub, Nat.add_zero, Bool.not_eq_true, Bool.not_eq_false, Nat.reduceEqDiff, Nat.reduceLeDiff, Nat.reduceLT, Int32.reduceLT, Int32.reduceLE, iin_nI, iin_lit, iin_m1, tn_nI, tn_lit, nI_lm, nI_ml, nI_al, nI_la, nI_add, pk_mul, nI_le_l, nI_l_le, nI_lt_l, nI_l_lt, nI_eq_l, nI_l_eq, nI_eqP, nI_leP, nI_ltP, nI_m1, m1_nI, nI_ll, m1_l, l_m1]
    rfl
  rw [e0]
  refine up_0 (fun m k a => fn_33_6 m 52 0 (nI k) (nI 8) a) 8 (fun k a => FC v c w a ∧ cm_I a = cm_I w ∧ ∀ q, q < k → cm_L a 52 q = 0) (fun o => ∃ y, o = some y ∧ FC v c w y ∧ (cm_I y = cm_I w) ∧ ∀ q, q < 8 → cm_L y 52 q = 0) w (by omega) ⟨FC.rf L, rfl, fun q h => by omega⟩ (fun m k a hk ha => Or.inr ?_) (fun m a ha => ?_)
  · obtain ⟨F, hi, h⟩ := ha
    have hk' : ¬ 8 ≤ k := by omega
    refine ⟨cm_sL a 52 k 0, ⟨F.sL (by omega), hi, fun q h' => ?_⟩, ?_⟩
    · by_cases z : q = k
      · subst z; rw [L_eq]
      · rw [L_nk z]; exact h q (by omega)
    · simp (disch := omega) only [fn_33_6, hk', LC F.1, cm_w2, Nat.reduceLeDiff, Nat.reduceLT, decide_true, Bool.and_self, Bool.and_true, eq_self, Nat.le_refl, Nat.lt_irrefl, some_if, Option.bind_some, Option.bind_none, Option.some.injEq, ↓reduceIte, reduceCtorEq, Bool.false_eq_true, Bool.true_eq_false, not_true_eq_false, not_false_eq_true, cmb0, cmb1, Nat.reduceAdd, Nat.reduceMul, Nat.reduceSub, Nat.add_zero, Bool.not_eq_true, Bool.not_eq_false, Nat.reduceEqDiff, Nat.reduceLeDiff, Nat.reduceLT, Int32.reduceLT, Int32.reduceLE, iin_nI, iin_lit, iin_m1, tn_nI, tn_lit, nI_lm, nI_ml, nI_al, nI_la, nI_add, pk_mul, nI_le_l, nI_l_le, nI_lt_l, nI_l_lt, nI_eq_l, nI_l_eq, nI_eqP, nI_leP, nI_ltP, nI_m1, m1_nI, nI_ll, m1_l, l_m1]
  · obtain ⟨F, h⟩ := ha
    refine ⟨a, ?_, F, h⟩
    simp (disch := omega) only [fn_33_6, eq_self, Nat.le_refl, Nat.lt_irrefl, some_if, Option.bind_some, Option.bind_none, Option.some.injEq, ↓reduceIte, reduceCtorEq, Bool.false_eq_true, Bool.true_eq_false, not_true_eq_false, not_false_eq_true, cmb0, cmb1, Nat.reduceAdd, Nat.reduceMul, Nat.reduceSub, Nat.add_zero, Bool.not_eq_true, Bool.not_eq_false, Nat.reduceEqDiff, Nat.reduceLeDiff, Nat.reduceLT, Int32.reduceLT, Int32.reduceLE, iin_nI, iin_lit, iin_m1, tn_nI, tn_lit, nI_lm, nI_ml, nI_al, nI_la, nI_add, pk_mul, nI_le_l, nI_l_le, nI_lt_l, nI_l_lt, nI_eq_l, nI_l_eq, nI_eqP, nI_leP, nI_ltP, nI_m1, m1_nI, nI_ll, m1_l, l_m1]
theorem c36 (L : Lay v c w) (hv : v = 10 ∨ v = 20) (V : VilC w v s) (I : InvV s) {l : Nat} {i j : Int32} (hl : l < 2 ∨ l < 4 ∧ ∃ t0, t0 < nT s ∧ j = nI t0) : ∃ y, fn_36 51 v (nI l) i j w = some y ∧ FC v c w y ∧ (cm_I y = cm_I w) ∧ ∀ t, t < 8 → cm_L y 52 t = lN (dmp s l i j (nP s) t) := by
  have hT := I.1
  have hP := I.2.1
  obtain ⟨y0, e0, F0, i0, h0⟩ := c33 L
  have e1 : fn_36 51 v (nI l) i j w = fn_36_11 cm_N 51 v (nI l) i j 0 y0 := by
    simp (disch := omega) only [fn_36, ↓LCb L, LC L, e0, eq_self, Nat.le_refl, Nat.lt_irrefl, some_if, Option.bind_some, Option.bind_none, Option.some.injEq, ↓reduceIte, reduceCtorEq, Bool.false_eq_true, Bool.true_eq_false, not_true_eq_false, not_false_eq_true, cmb0, cmb1, Nat.reduceAdd, Nat.reduceMul, Nat.reduceSub, Nat.add_zero, Bool.not_eq_true, Bool.not_eq_false, Nat.reduceEqDiff, Nat.reduceLeDiff, Nat.reduceLT, Int32.reduceLT, Int32.reduceLE, iin_nI, iin_lit, iin_m1, tn_nI, tn_lit, nI_lm, nI_ml, nI_al, nI_la, nI_add, pk_mul, nI_le_l, nI_l_le, nI_lt_l, nI_l_lt, nI_eq_l, nI_l_eq, nI_eqP, nI_leP, nI_ltP, nI_m1, m1_nI, nI_ll, m1_l, l_m1]
  rw [e1]
  refine up_0 (fun m p a => fn_36_11 m 51 v (nI l) i j (nI p) a) (nP s) (fun p a => FC v c w a ∧ cm_I a = cm_I w ∧ ∀ t, t < 8 → cm_L a 52 t = lN (dmp s l i j p t)) (fun o => ∃ y, o = some y ∧ FC v c w y ∧ (cm_I y = cm_I w) ∧ ∀ t, t < 8 → cm_L y 52 t = lN (dmp s l i j (nP s) t)) y0 (by omega) ⟨F0, i0, fun t ht => ?_⟩ (fun m p a hp ha => Or.inr ?_) (fun m a ha => ?_)
  · rw [h0 t ht]; unfold dmp; split <;> rfl
  · obtain ⟨F, hi, h⟩ := ha
    have hp' : ¬ nP s ≤ p := by omega
    have VV := F.V V hv
    have st : fn_36_11 (m + 1) 51 v (nI l) i j (nI p) a = fn_36_26 (fn_36_11 m) cm_N 51 v (nI l) i j (nI p) 0 a := by
      simp (disch := omega) only [fn_36_11, ↓LVb F.1 hv, LV F.1 hv, VV.1, hP.1, hp', eq_self, Nat.le_refl, Nat.lt_irrefl, some_if, Option.bind_some, Option.bind_none, Option.some.injEq, ↓reduceIte, reduceCtorEq, Bool.false_eq_true, Bool.true_eq_false, not_true_eq_false, not_false_eq_true, cmb0, cmb1, Nat.reduceAdd, Nat.reduceMul, Nat.reduceSub, Nat.add_zero, Bool.not_eq_true, Bool.not_eq_false, Nat.reduceEqDiff, Nat.reduceLeDiff, Nat.reduceLT, Int32.reduceLT, Int32.reduceLE, iin_nI, iin_lit, iin_m1, tn_nI, tn_lit, nI_lm, nI_ml, nI_al, nI_la, nI_add, pk_mul, nI_le_l, nI_l_le, nI_lt_l, nI_l_lt, nI_eq_l, nI_l_eq, nI_eqP, nI_leP, nI_ltP, nI_m1, m1_nI, nI_ll, m1_l, l_m1]
    show ∃ a', _ ∧ fn_36_11 (m + 1) 51 v (nI l) i j (nI p) a = _
    rw [st]
    refine up_0 (fun n t a => fn_36_26 (fn_36_11 m) n 51 v (nI l) i j (nI p) (nI t) a) 8 (fun k a => FC v c w a ∧ cm_I a = cm_I w ∧ ∀ t, t < 8 → cm_L a 52 t = lN (dmp s l i j (if t < k then p + 1 else p) t)) (fun o => ∃ a', (FC v c w a' ∧ cm_I a' = cm_I w ∧ ∀ t, t < 8 → cm_L a' 52 t = lN (dmp s l i j (p + 1) t)) ∧ o = fn_36_11 m 51 v (nI l) i j (nI (p + 1)) a') a (by omega) ⟨F, hi, fun t ht => by rw [if_neg (by omega)]; exact h t ht⟩ (fun n t a ht ha => Or.inr ?_) (fun n a ha => ?_)
    · obtain ⟨F, hi, h⟩ := ha
      have LL := F.1
      have VV := F.V V hv
      have ht' : ¬ 8 ≤ t := by omega
      have e35 := c35 LL hv VV I hp ht
      obtain ⟨b, hb⟩ := c34o LL hv VV I (i := i) (p := p) hl ht
      have ht0 := h t ht
      rw [if_neg (by omega)] at ht0
      have go : fn_36_26 (fn_36_11 m) (n + 1) 51 v (nI l) i j (nI p) (nI t) a = fn_36_26 (fn_36_11 m) n 51 v (nI l) i j (nI p) (nI (t + 1)) (if b = true then cm_sL a 52 t (cm_L a 52 t + lN (if t < nT s then mil s p t else 0)) else a) := by
        by_cases q : nI p = i
        · rw [if_pos q] at hb
          have q' : i = nI p := q.symm
          cases b <;> simp (disch := omega) only [fn_36_26, fn_36_74, ↓LCb LL, LC LL, LV LL hv, ht', q', q', hb, e35, cm_w2, Nat.reduceLeDiff, Nat.reduceLT, decide_true, Bool.and_self, Bool.and_true, eq_self, Nat.le_refl, Nat.lt_irrefl, some_if, Option.bind_some, Option.bind_none, Option.some.injEq, ↓reduceIte, reduceCtorEq, Bool.false_eq_true, Bool.true_eq_false, not_true_eq_false, not_false_eq_true, cmb0, cmb1, Nat.reduceAdd, Nat.reduceMul, Nat.reduceSub, Nat.add_zero, Bool.not_eq_true, Bool.not_eq_false, Nat.reduceEqDiff, Nat.reduceLeDiff, Nat.reduceLT, Int32.reduceLT, Int32.reduceLE, iin_nI, iin_lit, iin_m1, tn_nI, tn_lit, nI_lm, nI_ml, nI_al, nI_la, nI_add, pk_mul, nI_le_l, nI_l_le, nI_lt_l, nI_l_lt, nI_eq_l, nI_l_eq, nI_eqP, nI_leP, nI_ltP, nI_m1, m1_nI, nI_ll, m1_l, l_m1]
        · rw [if_neg q] at hb
          have q' : ¬ i = nI p := fun z => q z.symm
          cases b <;> simp (disch := omega) only [fn_36_26, fn_36_74, ↓LCb LL, LC LL, LV LL hv, ht', q', hb, e35, cm_w2, Nat.reduceLeDiff, Nat.reduceLT, decide_true, Bool.and_self, Bool.and_true, eq_self, Nat.le_refl, Nat.lt_irrefl, some_if, Option.bind_some, Option.bind_none, Option.some.injEq, ↓reduceIte, reduceCtorEq, Bool.false_eq_true, Bool.true_eq_false, not_true_eq_false, not_false_eq_true, cmb0, cmb1, Nat.reduceAdd, Nat.reduceMul, Nat.reduceSub, Nat.add_zero, Bool.not_eq_true, Bool.not_eq_false, Nat.reduceEqDiff, Nat.reduceLeDiff, Nat.reduceLT, Int32.reduceLT, Int32.reduceLE, iin_nI, iin_lit, iin_m1, tn_nI, tn_lit, nI_lm, nI_ml, nI_al, nI_la, nI_add, pk_mul, nI_le_l, nI_l_le, nI_lt_l, nI_l_lt, nI_eq_l, nI_l_eq, nI_eqP, nI_leP, nI_ltP, nI_m1, m1_nI, nI_ll, m1_l, l_m1]
      refine ⟨_, ?_, go⟩
      refine ⟨?_, ?_, fun t' ht2 => ?_⟩
      · split
        · exact F.sL (by omega)
        · exact F
      · split
        · exact hi
        · exact hi
      · have hh := h t' ht2
        by_cases z : t' = t
        · subst z
          rw [if_pos (show t' < t' + 1 by omega)]
          have stp : dmp s l i j (p + 1) t' = dmp s l i j p t' + (if t' < nT s then if tog s l i j p t' = true then mil s p t' else 0 else 0) := by
            unfold dmp
            by_cases z : t' < nT s
            · rw [if_pos z, if_pos z, if_pos z]; rfl
            · rw [if_neg z, if_neg z, if_neg z]
          rw [stp]
          by_cases z : t' < nT s
          · have bt : b = tog s l i j p t' := Option.some.inj (hb.symm.trans (c34 LL hv VV I hl z))
            rw [bt]
            by_cases z2 : tog s l i j p t' = true
            · rw [if_pos z2, L_eq, ht0, lN_add, if_pos z, if_pos z, if_pos z2]
            · rw [if_neg z2, ht0, if_pos z, if_neg z2]; rfl
          · rw [if_neg z, if_neg z]
            split
            · rw [L_eq, ht0, lN_add]
            · rw [ht0]; rfl
        · have e : (if t' < t + 1 then p + 1 else p) = if t' < t then p + 1 else p := by
            by_cases z2 : t' < t
            · rw [if_pos z2, if_pos (by omega)]
            · rw [if_neg z2, if_neg (by omega)]
          rw [e, ← hh]
          split
          · rw [L_nk z]
          · rfl
    · obtain ⟨F, hi, h⟩ := ha
      refine ⟨a, ⟨F, hi, fun t ht => ?_⟩, ?_⟩
      · have := h t ht
        rw [if_pos ht] at this
        exact this
      · simp (disch := omega) only [fn_36_26, fn_36_80, eq_self, Nat.le_refl, Nat.lt_irrefl, some_if, Option.bind_some, Option.bind_none, Option.some.injEq, ↓reduceIte, reduceCtorEq, Bool.false_eq_true, Bool.true_eq_false, not_true_eq_false, not_false_eq_true, cmb0, cmb1, Nat.reduceAdd, Nat.reduceMul, Nat.reduceSub, Nat.add_zero, Bool.not_eq_true, Bool.not_eq_false, Nat.reduceEqDiff, Nat.reduceLeDiff, Nat.reduceLT, Int32.reduceLT, Int32.reduceLE, iin_nI, iin_lit, iin_m1, tn_nI, tn_lit, nI_lm, nI_ml, nI_al, nI_la, nI_add, pk_mul, nI_le_l, nI_l_le, nI_lt_l, nI_l_lt, nI_eq_l, nI_l_eq, nI_eqP, nI_leP, nI_ltP, nI_m1, m1_nI, nI_ll, m1_l, l_m1]
  · obtain ⟨F, hi, h⟩ := ha
    refine ⟨a, ?_, F, hi, h⟩
    have VV := F.V V hv
    simp (disch := omega) only [fn_36_11, ↓LVb F.1 hv, LV F.1 hv, VV.1, hP.1, eq_self, Nat.le_refl, Nat.lt_irrefl, some_if, Option.bind_some, Option.bind_none, Option.some.injEq, ↓reduceIte, reduceCtorEq, Bool.false_eq_true, Bool.true_eq_false, not_true_eq_false, not_false_eq_true, cmb0, cmb1, Nat.reduceAdd, Nat.reduceMul, Nat.reduceSub, Nat.add_zero, Bool.not_eq_true, Bool.not_eq_false, Nat.reduceEqDiff, Nat.reduceLeDiff, Nat.reduceLT, Int32.reduceLT, Int32.reduceLE, iin_nI, iin_lit, iin_m1, tn_nI, tn_lit, nI_lm, nI_ml, nI_al, nI_la, nI_add, pk_mul, nI_le_l, nI_l_le, nI_lt_l, nI_l_lt, nI_eq_l, nI_l_eq, nI_eqP, nI_leP, nI_ltP, nI_m1, m1_nI, nI_ll, m1_l, l_m1]
end CMK
