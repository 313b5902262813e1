/-! the class's market: the price where it rests, what is sold and lost -/
section CPR
variable {v c u n : Nat} {w w' : cm_W} {s s' : St} {M : Mk}
theorem sgm8 (h : M.Ok) {f : Nat → Nat} (h0 : ∀ k, M.n ≤ k → f k = 0) : sgm f 8 = sgm f M.n := sgm_ext h.2.2.1 h0
theorem c38 (L : Lay v c w) (K : MkC w M) (O : M.Ok) {t q : Nat} (ht : t < 8) (hq : q < 1000) : fn_38 w 51 (nI t) (nI q) = some (M.sold q t) := by
  have hd := O.Db t
  have e := K.1 t ht
  by_cases z : M.D t = 0
  · have : M.sold q t = false := decide_eq_false (fun h => by omega)
    rw [this]
    simp (disch := omega) only [fn_38, ↓LCb L, LC L, e, lgc_le, lle0, z, eq_self, Nat.le_refl, Nat.lt_irrefl, some_if, Option.bind_some, Option.bind_none, Option.some.injEq, ↓reduceIte, reduceCtorEq, Bool.false_eq_true, Bool.true_eq_false, not_true_eq_false, not_false_eq_true, cmb0, cmb1, Nat.reduceAdd, Nat.reduceMul, Nat.reduceSub, Nat.add_zero, Bool.not_eq_true, Bool.not_eq_false, Nat.reduceEqDiff, Nat.reduceLeDiff, Nat.reduceLT, Int32.reduceLT, Int32.reduceLE, iin_nI, iin_lit, iin_m1, tn_nI, tn_lit, nI_lm, nI_ml, nI_al, nI_la, nI_add, pk_mul, nI_le_l, nI_l_le, nI_lt_l, nI_l_lt, nI_eq_l, nI_l_eq, nI_eqP, nI_leP, nI_ltP, nI_m1, m1_nI, nI_ll, m1_l, l_m1]
  · have hn : t < M.n := by
      rcases Nat.lt_or_ge t M.n with h | h
      · exact h
      · exact absurd (O.D0 h) z
    have k := (K.2 t hn).2
    have k1 := O.1 t hn
    by_cases z2 : M.K t ≤ q
    · have : M.sold q t = true := decide_eq_true ⟨by omega, z2⟩
      have z3 : ¬ q < M.K t := by omega
      rw [this]
      simp (disch := omega) only [fn_38, ↓LCb L, LC L, e, k, lgc_le, lle0, z, z3, eq_self, Nat.le_refl, Nat.lt_irrefl, some_if, Option.bind_some, Option.bind_none, Option.some.injEq, ↓reduceIte, reduceCtorEq, Bool.false_eq_true, Bool.true_eq_false, not_true_eq_false, not_false_eq_true, cmb0, cmb1, Nat.reduceAdd, Nat.reduceMul, Nat.reduceSub, Nat.add_zero, Bool.not_eq_true, Bool.not_eq_false, Nat.reduceEqDiff, Nat.reduceLeDiff, Nat.reduceLT, Int32.reduceLT, Int32.reduceLE, iin_nI, iin_lit, iin_m1, tn_nI, tn_lit, nI_lm, nI_ml, nI_al, nI_la, nI_add, pk_mul, nI_le_l, nI_l_le, nI_lt_l, nI_l_lt, nI_eq_l, nI_l_eq, nI_eqP, nI_leP, nI_ltP, nI_m1, m1_nI, nI_ll, m1_l, l_m1]
    · have : M.sold q t = false := decide_eq_false (fun h => z2 h.2)
      have z3 : q < M.K t := by omega
      rw [this]
      simp (disch := omega) only [fn_38, ↓LCb L, LC L, e, k, lgc_le, lle0, z, z3, eq_self, Nat.le_refl, Nat.lt_irrefl, some_if, Option.bind_some, Option.bind_none, Option.some.injEq, ↓reduceIte, reduceCtorEq, Bool.false_eq_true, Bool.true_eq_false, not_true_eq_false, not_false_eq_true, cmb0, cmb1, Nat.reduceAdd, Nat.reduceMul, Nat.reduceSub, Nat.add_zero, Bool.not_eq_true, Bool.not_eq_false, Nat.reduceEqDiff, Nat.reduceLeDiff, Nat.reduceLT, Int32.reduceLT, Int32.reduceLE, iin_nI, iin_lit, iin_m1, tn_nI, tn_lit, nI_lm, nI_ml, nI_al, nI_la, nI_add, pk_mul, nI_le_l, nI_l_le, nI_lt_l, nI_l_lt, nI_eq_l, nI_l_eq, nI_eqP, nI_leP, nI_ltP, nI_m1, m1_nI, nI_ll, m1_l, l_m1]
theorem c38m (L : Lay v c w) (K : MkC w M) (O : M.Ok) {t : Nat} (ht : t < 8) : fn_38 w 51 (nI t) (-1) = some false := by
  have hd := O.Db t
  have e := K.1 t ht
  by_cases z : M.D t = 0
  · simp (disch := omega) only [fn_38, ↓LCb L, LC L, e, lgc_le, lle0, z, eq_self, Nat.le_refl, Nat.lt_irrefl, some_if, Option.bind_some, Option.bind_none, Option.some.injEq, ↓reduceIte, reduceCtorEq, Bool.false_eq_true, Bool.true_eq_false, not_true_eq_false, not_false_eq_true, cmb0, cmb1, Nat.reduceAdd, Nat.reduceMul, Nat.reduceSub, Nat.add_zero, Bool.not_eq_true, Bool.not_eq_false, Nat.reduceEqDiff, Nat.reduceLeDiff, Nat.reduceLT, Int32.reduceLT, Int32.reduceLE, iin_nI, iin_lit, iin_m1, tn_nI, tn_lit, nI_lm, nI_ml, nI_al, nI_la, nI_add, pk_mul, nI_le_l, nI_l_le, nI_lt_l, nI_l_lt, nI_eq_l, nI_l_eq, nI_eqP, nI_leP, nI_ltP, nI_m1, m1_nI, nI_ll, m1_l, l_m1]
  · have hn : t < M.n := by
      rcases Nat.lt_or_ge t M.n with h | h
      · exact h
      · exact absurd (O.D0 h) z
    have k := (K.2 t hn).2
    have k1 := O.1 t hn
    have z3 : (-1 : Int32) < nI (M.K t) := by
      have : ∀ k : Fin 1000, (-1 : Int32) < nI k.1 := by decide +kernel
      exact this ⟨M.K t, by omega⟩
    simp (disch := omega) only [fn_38, ↓LCb L, LC L, e, k, lgc_le, lle0, z, z3, eq_self, Nat.le_refl, Nat.lt_irrefl, some_if, Option.bind_some, Option.bind_none, Option.some.injEq, ↓reduceIte, reduceCtorEq, Bool.false_eq_true, Bool.true_eq_false, not_true_eq_false, not_false_eq_true, cmb0, cmb1, Nat.reduceAdd, Nat.reduceMul, Nat.reduceSub, Nat.add_zero, Bool.not_eq_true, Bool.not_eq_false, Nat.reduceEqDiff, Nat.reduceLeDiff, Nat.reduceLT, Int32.reduceLT, Int32.reduceLE, iin_nI, iin_lit, iin_m1, tn_nI, tn_lit, nI_lm, nI_ml, nI_al, nI_la, nI_add, pk_mul, nI_le_l, nI_l_le, nI_lt_l, nI_l_lt, nI_eq_l, nI_l_eq, nI_eqP, nI_leP, nI_ltP, nI_m1, m1_nI, nI_ll, m1_l, l_m1]
theorem SU_b (O : M.Ok) (q : Nat) : M.SU q ≤ 800000000000000000 := by
  have h1 := Mk.SU_lt O q
  have h2 := Mk.SD_le O q
  have := Nat.mul_le_mul_left 999 h2
  omega
theorem c39 (L : Lay v c w) (K : MkC w M) (O : M.Ok) {q : Nat} (hq : q < 1000) : fn_39 w 51 (nI q) = some (if M.SD q = 0 then -1 else nI (M.SU q / M.SD q)) := by
  refine up_0 (fun n k (a : Int64 × Int64) => fn_39_8 w n 51 (nI q) a.1 a.2 (nI k)) 8 (fun k a => a.1 = lN (sgm (fun t => if M.sold q t then M.D t else 0) k) ∧ a.2 = lN (sgm (fun t => if M.sold q t then M.D t * M.U t else 0) k)) (fun o => o = _) ((0 : Int64), (0 : Int64)) (by omega) ⟨rfl, rfl⟩ (fun n k a hk ha => Or.inr ?_) (fun n a ha => ?_)
  · obtain ⟨a1, a2⟩ := a
    obtain ⟨rfl, rfl⟩ := ha
    have hk' : ¬ 8 ≤ k := by omega
    have e := c38 L K O hk hq
    by_cases z : M.sold q k = true
    · rw [z] at e
      have hn : k < M.n := by
        rcases Nat.lt_or_ge k M.n with h | h
        · exact h
        · rw [O.so h] at z; cases z
      have k1 := (K.2 k hn).1
      have k2 := O.1 k hn
      refine ⟨(lN (sgm (fun t => if M.sold q t then M.D t else 0) k + M.D k), lN (sgm (fun t => if M.sold q t then M.D t * M.U t else 0) k + M.D k * M.U k)), ⟨?_, ?_⟩, ?_⟩
      · show lN (_ + M.D k) = lN (_ + if M.sold q k then M.D k else 0)
        rw [if_pos z]
      · show lN (_ + M.D k * M.U k) = lN (_ + if M.sold q k then M.D k * M.U k else 0)
        rw [if_pos z]
      · simp (disch := omega) only [fn_39_8, fn_39_56, hk', ↓LCb L, LC L, e, K.1 k hk, k1, nI_l, lN_mul, lN_add, eq_self, Nat.le_refl, Nat.lt_irrefl, some_if, Option.bind_some, Option.bind_none, Option.some.injEq, ↓reduceIte, reduceCtorEq, Bool.false_eq_true, Bool.true_eq_false, not_true_eq_false, not_false_eq_true, cmb0, cmb1, Nat.reduceAdd, Nat.reduceMul, Nat.reduceSub, Nat.add_zero, Bool.not_eq_true, Bool.not_eq_false, Nat.reduceEqDiff, Nat.reduceLeDiff, Nat.reduceLT, Int32.reduceLT, Int32.reduceLE, iin_nI, iin_lit, iin_m1, tn_nI, tn_lit, nI_lm, nI_ml, nI_al, nI_la, nI_add, pk_mul, nI_le_l, nI_l_le, nI_lt_l, nI_l_lt, nI_eq_l, nI_l_eq, nI_eqP, nI_leP, nI_ltP, nI_m1, m1_nI, nI_ll, m1_l, l_m1]
    · have z2 : M.sold q k = false := by rw [Bool.not_eq_true] at z; exact z
      rw [z2] at e
      refine ⟨(lN (sgm (fun t => if M.sold q t then M.D t else 0) k), lN (sgm (fun t => if M.sold q t then M.D t * M.U t else 0) k)), ⟨?_, ?_⟩, ?_⟩
      · show lN _ = lN (_ + if M.sold q k then M.D k else 0)
        rw [if_neg z]; rfl
      · show lN _ = lN (_ + if M.sold q k then M.D k * M.U k else 0)
        rw [if_neg z]; rfl
      · simp (disch := omega) only [fn_39_8, fn_39_56, hk', ↓LCb L, LC L, e, eq_self, Nat.le_refl, Nat.lt_irrefl, some_if, Option.bind_some, Option.bind_none, Option.some.injEq, ↓reduceIte, reduceCtorEq, Bool.false_eq_true, Bool.true_eq_false, not_true_eq_false, not_false_eq_true, cmb0, cmb1, Nat.reduceAdd, Nat.reduceMul, Nat.reduceSub, Nat.add_zero, Bool.not_eq_true, Bool.not_eq_false, Nat.reduceEqDiff, Nat.reduceLeDiff, Nat.reduceLT, Int32.reduceLT, Int32.reduceLE, iin_nI, iin_lit, iin_m1, tn_nI, tn_lit, nI_lm, nI_ml, nI_al, nI_la, nI_add, pk_mul, nI_le_l, nI_l_le, nI_lt_l, nI_l_lt, nI_eq_l, nI_l_eq, nI_eqP, nI_leP, nI_ltP, nI_m1, m1_nI, nI_ll, m1_l, l_m1]
  · obtain ⟨a1, a2⟩ := a
    obtain ⟨rfl, rfl⟩ := ha
    have e1 : sgm (fun t => if M.sold q t then M.D t else 0) 8 = M.SD q := sgm8 O (fun k hk => if_neg (by rw [O.so hk]; decide))
    have e2 : sgm (fun t => if M.sold q t then M.D t * M.U t else 0) 8 = M.SU q := sgm8 O (fun k hk => if_neg (by rw [O.so hk]; decide))
    have b1 := Mk.SD_le O q
    have b2 := SU_b O q
    show fn_39_8 w (n + 1) 51 (nI q) (lN (sgm (fun t => if M.sold q t then M.D t else 0) 8)) (lN (sgm (fun t => if M.sold q t then M.D t * M.U t else 0) 8)) (nI 8) = _
    rw [e1, e2]
    by_cases z : M.SD q = 0
    · simp (disch := omega) only [fn_39_8, fn_39_62, lgc_le, lle0, z, eq_self, Nat.le_refl, Nat.lt_irrefl, some_if, Option.bind_some, Option.bind_none, Option.some.injEq, ↓reduceIte, reduceCtorEq, Bool.false_eq_true, Bool.true_eq_false, not_true_eq_false, not_false_eq_true, cmb0, cmb1, Nat.reduceAdd, Nat.reduceMul, Nat.reduceSub, Nat.add_zero, Bool.not_eq_true, Bool.not_eq_false, Nat.reduceEqDiff, Nat.reduceLeDiff, Nat.reduceLT, Int32.reduceLT, Int32.reduceLE, iin_nI, iin_lit, iin_m1, tn_nI, tn_lit, nI_lm, nI_ml, nI_al, nI_la, nI_add, pk_mul, nI_le_l, nI_l_le, nI_lt_l, nI_l_lt, nI_eq_l, nI_l_eq, nI_eqP, nI_leP, nI_ltP, nI_m1, m1_nI, nI_ll, m1_l, l_m1]
    · simp (disch := omega) only [fn_39_8, fn_39_62, lgc_le, lle0, leq0, z, pk_lDiv, lN_i, eq_self, Nat.le_refl, Nat.lt_irrefl, some_if, Option.bind_some, Option.bind_none, Option.some.injEq, ↓reduceIte, reduceCtorEq, Bool.false_eq_true, Bool.true_eq_false, not_true_eq_false, not_false_eq_true, cmb0, cmb1, Nat.reduceAdd, Nat.reduceMul, Nat.reduceSub, Nat.add_zero, Bool.not_eq_true, Bool.not_eq_false, Nat.reduceEqDiff, Nat.reduceLeDiff, Nat.reduceLT, Int32.reduceLT, Int32.reduceLE, iin_nI, iin_lit, iin_m1, tn_nI, tn_lit, nI_lm, nI_ml, nI_al, nI_la, nI_add, pk_mul, nI_le_l, nI_l_le, nI_lt_l, nI_l_lt, nI_eq_l, nI_l_eq, nI_eqP, nI_leP, nI_ltP, nI_m1, m1_nI, nI_ll, m1_l, l_m1]
theorem c40 (L : Lay v c w) (K : MkC w M) (O : M.Ok) : fn_40 w 51 = some (rp M) := by
  have hn := O.2.2.1
  refine up_0 (fun n k a => fn_40_4 w n 51 a (nI k)) 8 (fun k a => ∃ x, x ≤ 1000 ∧ x = fup M.cl 0 (if k < M.n then k else M.n) ∧ a = enc x) (fun o => o = some (rp M)) (-1) (by omega) ⟨0, by omega, by split <;> (rename_i h; first | rfl | (rw [show M.n = 0 by omega]; rfl)), rfl⟩ (fun n k a hk ha => Or.inr ?_) (fun n a ha => ?_)
  · obtain ⟨x, hx, ex, rfl⟩ := ha
    have hk' : ¬ 8 ≤ k := by omega
    have hd := O.Db k
    by_cases z : k < M.n
    · rw [if_pos z] at ex
      have e2 : fup M.cl 0 (if k + 1 < M.n then k + 1 else M.n) = M.cl k x := by
        rw [ex]
        by_cases z2 : k + 1 < M.n
        · rw [if_pos z2]; rfl
        · rw [if_neg z2, show M.n = k + 1 by omega]; rfl
      have k1 := (K.2 k z)
      have k2 := O.1 k z
      have e39 := c39 L K O (q := M.K k) (by omega)
      have ml := Mk.mean_lt O (M.K k)
      refine ⟨enc (M.cl k x), ⟨M.cl k x, ?_, e2.symm, rfl⟩, ?_⟩
      · unfold Mk.cl
        split
        · split <;> omega
        · exact hx
      · unfold Mk.cl
        by_cases d0 : M.D k = 0
        · rw [if_neg (fun h => by omega)]
          simp (disch := omega) only [fn_40_4, fn_40_52, hk', ↓LCb L, LC L, K.1 k hk, lgc_le, lle0, d0, eq_self, Nat.le_refl, Nat.lt_irrefl, some_if, Option.bind_some, Option.bind_none, Option.some.injEq, ↓reduceIte, reduceCtorEq, Bool.false_eq_true, Bool.true_eq_false, not_true_eq_false, not_false_eq_true, cmb0, cmb1, Nat.reduceAdd, Nat.reduceMul, Nat.reduceSub, Nat.add_zero, Bool.not_eq_true, Bool.not_eq_false, Nat.reduceEqDiff, Nat.reduceLeDiff, Nat.reduceLT, Int32.reduceLT, Int32.reduceLE, iin_nI, iin_lit, iin_m1, tn_nI, tn_lit, nI_lm, nI_ml, nI_al, nI_la, nI_add, pk_mul, nI_le_l, nI_l_le, nI_lt_l, nI_l_lt, nI_eq_l, nI_l_eq, nI_eqP, nI_leP, nI_ltP, nI_m1, m1_nI, nI_ll, m1_l, l_m1]
        · have sd := Mk.SD_pos z (show M.sold (M.K k) k = true from decide_eq_true ⟨by omega, Nat.le_refl _⟩)
          rw [if_neg (by omega)] at e39
          by_cases z3 : M.K k ≤ M.SU (M.K k) / M.SD (M.K k)
          · have z4 : ¬ M.SU (M.K k) / M.SD (M.K k) < M.K k := by omega
            rw [if_pos ⟨by omega, z3⟩]
            generalize M.SU (M.K k) / M.SD (M.K k) = y at *
            have e5 : (if enc x < nI y then nI y else enc x) = enc (if x < y + 1 then y + 1 else x) := by
              rcases x with _ | x
              · rw [if_pos (show 0 < y + 1 by omega), if_pos]
                · rfl
                · have : ∀ k : Fin 1000, (-1 : Int32) < nI k.1 := by decide +kernel
                  exact this ⟨y, ml⟩
              · rw [enc_s]
                by_cases z6 : x < y
                · rw [if_pos (show x + 1 < y + 1 by omega), if_pos ((nI_ltI (by omega) (by omega)).mpr z6)]; rfl
                · rw [if_neg (show ¬ x + 1 < y + 1 by omega), if_neg (fun h => z6 ((nI_ltI (by omega) (by omega)).mp h))]; rfl
            rw [← e5]
            simp (disch := omega) only [fn_40_4, fn_40_52, hk', ↓LCb L, LC L, K.1 k hk, k1.2, e39, lgc_le, lle0, d0, z4, eq_self, Nat.le_refl, Nat.lt_irrefl, some_if, Option.bind_some, Option.bind_none, Option.some.injEq, ↓reduceIte, reduceCtorEq, Bool.false_eq_true, Bool.true_eq_false, not_true_eq_false, not_false_eq_true, cmb0, cmb1, Nat.reduceAdd, Nat.reduceMul, Nat.reduceSub, Nat.add_zero, Bool.not_eq_true, Bool.not_eq_false, Nat.reduceEqDiff, Nat.reduceLeDiff, Nat.reduceLT, Int32.reduceLT, Int32.reduceLE, iin_nI, iin_lit, iin_m1, tn_nI, tn_lit, nI_lm, nI_ml, nI_al, nI_la, nI_add, pk_mul, nI_le_l, nI_l_le, nI_lt_l, nI_l_lt, nI_eq_l, nI_l_eq, nI_eqP, nI_leP, nI_ltP, nI_m1, m1_nI, nI_ll, m1_l, l_m1]
          · have z4 : M.SU (M.K k) / M.SD (M.K k) < M.K k := by omega
            rw [if_neg (fun h => z3 h.2)]
            generalize M.SU (M.K k) / M.SD (M.K k) = y at *
            simp (disch := omega) only [fn_40_4, fn_40_50, fn_40_52, hk', ↓LCb L, LC L, K.1 k hk, k1.2, e39, lgc_le, lle0, d0, z4, eq_self, Nat.le_refl, Nat.lt_irrefl, some_if, Option.bind_some, Option.bind_none, Option.some.injEq, ↓reduceIte, reduceCtorEq, Bool.false_eq_true, Bool.true_eq_false, not_true_eq_false, not_false_eq_true, cmb0, cmb1, Nat.reduceAdd, Nat.reduceMul, Nat.reduceSub, Nat.add_zero, Bool.not_eq_true, Bool.not_eq_false, Nat.reduceEqDiff, Nat.reduceLeDiff, Nat.reduceLT, Int32.reduceLT, Int32.reduceLE, iin_nI, iin_lit, iin_m1, tn_nI, tn_lit, nI_lm, nI_ml, nI_al, nI_la, nI_add, pk_mul, nI_le_l, nI_l_le, nI_lt_l, nI_l_lt, nI_eq_l, nI_l_eq, nI_eqP, nI_leP, nI_ltP, nI_m1, m1_nI, nI_ll, m1_l, l_m1]
    · rw [if_neg z] at ex
      refine ⟨enc x, ⟨x, hx, by rw [if_neg (by omega)]; exact ex, rfl⟩, ?_⟩
      have d0 := O.D0 (t := k) (by omega)
      simp (disch := omega) only [fn_40_4, fn_40_52, hk', ↓LCb L, LC L, K.1 k hk, lgc_le, lle0, d0, eq_self, Nat.le_refl, Nat.lt_irrefl, some_if, Option.bind_some, Option.bind_none, Option.some.injEq, ↓reduceIte, reduceCtorEq, Bool.false_eq_true, Bool.true_eq_false, not_true_eq_false, not_false_eq_true, cmb0, cmb1, Nat.reduceAdd, Nat.reduceMul, Nat.reduceSub, Nat.add_zero, Bool.not_eq_true, Bool.not_eq_false, Nat.reduceEqDiff, Nat.reduceLeDiff, Nat.reduceLT, Int32.reduceLT, Int32.reduceLE, iin_nI, iin_lit, iin_m1, tn_nI, tn_lit, nI_lm, nI_ml, nI_al, nI_la, nI_add, pk_mul, nI_le_l, nI_l_le, nI_lt_l, nI_l_lt, nI_eq_l, nI_l_eq, nI_eqP, nI_leP, nI_ltP, nI_m1, m1_nI, nI_ll, m1_l, l_m1]
  · obtain ⟨x, hx, ex, rfl⟩ := ha
    have e : (if 8 < M.n then 8 else M.n) = M.n := if_neg (by omega)
    rw [e, Mk.cl_eq O] at ex
    show fn_40_4 w (n + 1) 51 (enc x) (nI 8) = some (enc M.rest)
    rw [← ex]
    simp (disch := omega) only [fn_40_4, eq_self, Nat.le_refl, Nat.lt_irrefl, some_if, Option.bind_some, Option.bind_none, Option.some.injEq, ↓reduceIte, reduceCtorEq, Bool.false_eq_true, Bool.true_eq_false, not_true_eq_false, not_false_eq_true, cmb0, cmb1, Nat.reduceAdd, Nat.reduceMul, Nat.reduceSub, Nat.add_zero, Bool.not_eq_true, Bool.not_eq_false, Nat.reduceEqDiff, Nat.reduceLeDiff, Nat.reduceLT, Int32.reduceLT, Int32.reduceLE, iin_nI, iin_lit, iin_m1, tn_nI, tn_lit, nI_lm, nI_ml, nI_al, nI_la, nI_add, pk_mul, nI_le_l, nI_l_le, nI_lt_l, nI_l_lt, nI_eq_l, nI_l_eq, nI_eqP, nI_leP, nI_ltP, nI_m1, m1_nI, nI_ll, m1_l, l_m1]
theorem c41 (L : Lay v c w) (K : MkC w M) (O : M.Ok) {q : Nat} (hq : q < 1000) : fn_41 w 51 (nI q) = some (msk (M.sold q) M.n) := by
  have e8 : msk (M.sold q) M.n = msk (M.sold q) 8 := (msk_ext (fun k hk => O.so hk) 8 O.2.2.1).symm
  rw [e8]
  refine up_f (fun n k a => fn_41_4 w n 51 (nI q) a (nI k)) 8 (fun t a => if M.sold q t then a ||| ((1 : Int32) <<< (nI t &&& 31)) else a) 0 _ (by omega) (fun n k a hk => ?_) (fun n => ?_)
  · have hk' : ¬ 8 ≤ k := by omega
    have e := c38 L K O hk hq
    cases z : M.sold q k
    · rw [z] at e
      simp (disch := omega) only [fn_41_4, hk', ↓LCb L, LC L, e, Int32.or_zero, eq_self, Nat.le_refl, Nat.lt_irrefl, some_if, Option.bind_some, Option.bind_none, Option.some.injEq, ↓reduceIte, reduceCtorEq, Bool.false_eq_true, Bool.true_eq_false, not_true_eq_false, not_false_eq_true, cmb0, cmb1, Nat.reduceAdd, Nat.reduceMul, Nat.reduceSub, Nat.add_zero, Bool.not_eq_true, Bool.not_eq_false, Nat.reduceEqDiff, Nat.reduceLeDiff, Nat.reduceLT, Int32.reduceLT, Int32.reduceLE, iin_nI, iin_lit, iin_m1, tn_nI, tn_lit, nI_lm, nI_ml, nI_al, nI_la, nI_add, pk_mul, nI_le_l, nI_l_le, nI_lt_l, nI_l_lt, nI_eq_l, nI_l_eq, nI_eqP, nI_leP, nI_ltP, nI_m1, m1_nI, nI_ll, m1_l, l_m1]
    · rw [z] at e
      simp (disch := omega) only [fn_41_4, hk', ↓LCb L, LC L, e, eq_self, Nat.le_refl, Nat.lt_irrefl, some_if, Option.bind_some, Option.bind_none, Option.some.injEq, ↓reduceIte, reduceCtorEq, Bool.false_eq_true, Bool.true_eq_false, not_true_eq_false, not_false_eq_true, cmb0, cmb1, Nat.reduceAdd, Nat.reduceMul, Nat.reduceSub, Nat.add_zero, Bool.not_eq_true, Bool.not_eq_false, Nat.reduceEqDiff, Nat.reduceLeDiff, Nat.reduceLT, Int32.reduceLT, Int32.reduceLE, iin_nI, iin_lit, iin_m1, tn_nI, tn_lit, nI_lm, nI_ml, nI_al, nI_la, nI_add, pk_mul, nI_le_l, nI_l_le, nI_lt_l, nI_l_lt, nI_eq_l, nI_l_eq, nI_eqP, nI_leP, nI_ltP, nI_m1, m1_nI, nI_ll, m1_l, l_m1]
  · simp (disch := omega) only [fn_41_4, eq_self, Nat.le_refl, Nat.lt_irrefl, some_if, Option.bind_some, Option.bind_none, Option.some.injEq, ↓reduceIte, reduceCtorEq, Bool.false_eq_true, Bool.true_eq_false, not_true_eq_false, not_false_eq_true, cmb0, cmb1, Nat.reduceAdd, Nat.reduceMul, Nat.reduceSub, Nat.add_zero, Bool.not_eq_true, Bool.not_eq_false, Nat.reduceEqDiff, Nat.reduceLeDiff, Nat.reduceLT, Int32.reduceLT, Int32.reduceLE, iin_nI, iin_lit, iin_m1, tn_nI, tn_lit, nI_lm, nI_ml, nI_al, nI_la, nI_add, pk_mul, nI_le_l, nI_l_le, nI_lt_l, nI_l_lt, nI_eq_l, nI_l_eq, nI_eqP, nI_leP, nI_ltP, nI_m1, m1_nI, nI_ll, m1_l, l_m1]
    rfl
theorem tot_le (O : M.Ok) : M.tot ≤ 800000000000000 := by
  have := sgm_bd (f := M.D) 100000000000000 M.n (fun k hk => O.Db k)
  have h2 := O.2.2.1
  have h3 : 100000000000000 * M.n ≤ 100000000000000 * 8 := Nat.mul_le_mul_left _ h2
  exact Nat.le_trans this (by omega)
theorem c46 (L : Lay v c w) (K : MkC w M) (O : M.Ok) : fn_46 w 51 = some (lN M.tot) := by
  refine up_0 (fun n k a => fn_46_4 w n 51 a (nI k)) 8 (fun k a => a = lN (sgm M.D k)) (fun o => o = some (lN M.tot)) (0 : Int64) (by omega) rfl (fun n k a hk ha => Or.inr ⟨_, rfl, ?_⟩) (fun n a ha => ?_)
  · subst ha
    have hk' : ¬ 8 ≤ k := by omega
    show fn_46_4 w (n + 1) 51 (lN (sgm M.D k)) (nI k) = fn_46_4 w n 51 (lN (sgm M.D k + M.D k)) (nI (k + 1))
    simp (disch := omega) only [fn_46_4, hk', ↓LCb L, LC L, K.1 k hk, lN_add, eq_self, Nat.le_refl, Nat.lt_irrefl, some_if, Option.bind_some, Option.bind_none, Option.some.injEq, ↓reduceIte, reduceCtorEq, Bool.false_eq_true, Bool.true_eq_false, not_true_eq_false, not_false_eq_true, cmb0, cmb1, Nat.reduceAdd, Nat.reduceMul, Nat.reduceSub, Nat.add_zero, Bool.not_eq_true, Bool.not_eq_false, Nat.reduceEqDiff, Nat.reduceLeDiff, Nat.reduceLT, Int32.reduceLT, Int32.reduceLE, iin_nI, iin_lit, iin_m1, tn_nI, tn_lit, nI_lm, nI_ml, nI_al, nI_la, nI_add, pk_mul, nI_le_l, nI_l_le, nI_lt_l, nI_l_lt, nI_eq_l, nI_l_eq, nI_eqP, nI_leP, nI_ltP, nI_m1, m1_nI, nI_ll, m1_l, l_m1]
  · subst ha
    have e : sgm M.D 8 = M.tot := sgm8 O (fun k hk => O.D0 hk)
    rw [e]
    simp (disch := omega) only [fn_46_4, eq_self, Nat.le_refl, Nat.lt_irrefl, some_if, Option.bind_some, Option.bind_none, Option.some.injEq, ↓reduceIte, reduceCtorEq, Bool.false_eq_true, Bool.true_eq_false, not_true_eq_false, not_false_eq_true, cmb0, cmb1, Nat.reduceAdd, Nat.reduceMul, Nat.reduceSub, Nat.add_zero, Bool.not_eq_true, Bool.not_eq_false, Nat.reduceEqDiff, Nat.reduceLeDiff, Nat.reduceLT, Int32.reduceLT, Int32.reduceLE, iin_nI, iin_lit, iin_m1, tn_nI, tn_lit, nI_lm, nI_ml, nI_al, nI_la, nI_add, pk_mul, nI_le_l, nI_l_le, nI_lt_l, nI_l_lt, nI_eq_l, nI_l_eq, nI_eqP, nI_leP, nI_ltP, nI_m1, m1_nI, nI_ll, m1_l, l_m1]
theorem c45 (L : Lay v c w) (K : MkC w M) (O : M.Ok) : fn_45 w 51 = some (lN M.lost) := by
  have e0 : fn_45 w 51 = fn_45_10 w cm_N 51 (rp M) 0 0 := by
    simp (disch := omega) only [fn_45, LC L, c40 L K O, eq_self, Nat.le_refl, Nat.lt_irrefl, some_if, Option.bind_some, Option.bind_none, Option.some.injEq, ↓reduceIte, reduceCtorEq, Bool.false_eq_true, Bool.true_eq_false, not_true_eq_false, not_false_eq_true, cmb0, cmb1, Nat.reduceAdd, Nat.reduceMul, Nat.reduceSub, Nat.add_zero, Bool.not_eq_true, Bool.not_eq_false, Nat.reduceEqDiff, Nat.reduceLeDiff, Nat.reduceLT, Int32.reduceLT, Int32.reduceLE, iin_nI, iin_lit, iin_m1, tn_nI, tn_lit, nI_lm, nI_ml, nI_al, nI_la, nI_add, pk_mul, nI_le_l, nI_l_le, nI_lt_l, nI_l_lt, nI_eq_l, nI_l_eq, nI_eqP, nI_leP, nI_ltP, nI_m1, m1_nI, nI_ll, m1_l, l_m1]
  rw [e0]
  have rl := M.scan_le 1000
  have e38 : ∀ k, k < 8 → fn_38 w 51 (nI k) (rp M) = some (decide (M.rest ≠ 0 ∧ M.sold (M.rest - 1) k = true)) := fun k hk => by
    unfold rp
    by_cases z : M.rest = 0
    · rw [if_pos z, c38m L K O hk, decide_eq_false (fun h => h.1 z)]
    · have e1 : M.rest ≤ 1000 := rl
      rw [if_neg z, c38 L K O hk (by omega)]
      cases M.sold (M.rest - 1) k
      · rw [decide_eq_false (fun h => by cases h.2)]
      · rw [decide_eq_true ⟨z, rfl⟩]
  refine up_0 (fun n k a => fn_45_10 w n 51 (rp M) a (nI k)) 8 (fun k a => a = lN (sgm M.un k)) (fun o => o = some (lN M.lost)) (0 : Int64) (by omega) rfl (fun n k a hk ha => Or.inr ⟨_, rfl, ?_⟩) (fun n a ha => ?_)
  · subst ha
    have hk' : ¬ 8 ≤ k := by omega
    have e := e38 k hk
    show fn_45_10 w (n + 1) 51 (rp M) (lN (sgm M.un k)) (nI k) = fn_45_10 w n 51 (rp M) (lN (sgm M.un k + M.un k)) (nI (k + 1))
    unfold Mk.un
    by_cases z : M.rest ≠ 0 ∧ M.sold (M.rest - 1) k = true
    · rw [decide_eq_true z] at e
      rw [if_pos z]
      simp (disch := omega) only [fn_45_10, hk', ↓LCb L, LC L, e, Int64.add_zero, eq_self, Nat.le_refl, Nat.lt_irrefl, some_if, Option.bind_some, Option.bind_none, Option.some.injEq, ↓reduceIte, reduceCtorEq, Bool.false_eq_true, Bool.true_eq_false, not_true_eq_false, not_false_eq_true, cmb0, cmb1, Nat.reduceAdd, Nat.reduceMul, Nat.reduceSub, Nat.add_zero, Bool.not_eq_true, Bool.not_eq_false, Nat.reduceEqDiff, Nat.reduceLeDiff, Nat.reduceLT, Int32.reduceLT, Int32.reduceLE, iin_nI, iin_lit, iin_m1, tn_nI, tn_lit, nI_lm, nI_ml, nI_al, nI_la, nI_add, pk_mul, nI_le_l, nI_l_le, nI_lt_l, nI_l_lt, nI_eq_l, nI_l_eq, nI_eqP, nI_leP, nI_ltP, nI_m1, m1_nI, nI_ll, m1_l, l_m1]
    · rw [decide_eq_false z] at e
      rw [if_neg z]
      by_cases hn : k < M.n
      · have k1 := K.2 k hn
        have k2 := O.1 k hn
        simp (disch := omega) only [fn_45_10, hk', ↓LCb L, LC L, e, K.1 k hk, k1.1, k1.2, pk_sub, nI_l, lN_mul, lN_add, eq_self, Nat.le_refl, Nat.lt_irrefl, some_if, Option.bind_some, Option.bind_none, Option.some.injEq, ↓reduceIte, reduceCtorEq, Bool.false_eq_true, Bool.true_eq_false, not_true_eq_false, not_false_eq_true, cmb0, cmb1, Nat.reduceAdd, Nat.reduceMul, Nat.reduceSub, Nat.add_zero, Bool.not_eq_true, Bool.not_eq_false, Nat.reduceEqDiff, Nat.reduceLeDiff, Nat.reduceLT, Int32.reduceLT, Int32.reduceLE, iin_nI, iin_lit, iin_m1, tn_nI, tn_lit, nI_lm, nI_ml, nI_al, nI_la, nI_add, pk_mul, nI_le_l, nI_l_le, nI_lt_l, nI_l_lt, nI_eq_l, nI_l_eq, nI_eqP, nI_leP, nI_ltP, nI_m1, m1_nI, nI_ll, m1_l, l_m1]
      · have d0 := O.D0 (t := k) (by omega)
        have l0 : ∀ x : Int64, lN 0 * x = 0 := fun x => Int64.zero_mul
        rw [d0, Nat.zero_mul]
        simp (disch := omega) only [fn_45_10, hk', ↓LCb L, LC L, e, K.1 k hk, d0, l0, Int64.add_zero, eq_self, Nat.le_refl, Nat.lt_irrefl, some_if, Option.bind_some, Option.bind_none, Option.some.injEq, ↓reduceIte, reduceCtorEq, Bool.false_eq_true, Bool.true_eq_false, not_true_eq_false, not_false_eq_true, cmb0, cmb1, Nat.reduceAdd, Nat.reduceMul, Nat.reduceSub, Nat.add_zero, Bool.not_eq_true, Bool.not_eq_false, Nat.reduceEqDiff, Nat.reduceLeDiff, Nat.reduceLT, Int32.reduceLT, Int32.reduceLE, iin_nI, iin_lit, iin_m1, tn_nI, tn_lit, nI_lm, nI_ml, nI_al, nI_la, nI_add, pk_mul, nI_le_l, nI_l_le, nI_lt_l, nI_l_lt, nI_eq_l, nI_l_eq, nI_eqP, nI_leP, nI_ltP, nI_m1, m1_nI, nI_ll, m1_l, l_m1]
  · subst ha
    have e : sgm M.un 8 = M.lost := sgm8 O (fun k hk => by
      unfold Mk.un
      rw [O.D0 hk, Nat.zero_mul]
      split <;> rfl)
    rw [e]
    simp (disch := omega) only [fn_45_10, eq_self, Nat.le_refl, Nat.lt_irrefl, some_if, Option.bind_some, Option.bind_none, Option.some.injEq, ↓reduceIte, reduceCtorEq, Bool.false_eq_true, Bool.true_eq_false, not_true_eq_false, not_false_eq_true, cmb0, cmb1, Nat.reduceAdd, Nat.reduceMul, Nat.reduceSub, Nat.add_zero, Bool.not_eq_true, Bool.not_eq_false, Nat.reduceEqDiff, Nat.reduceLeDiff, Nat.reduceLT, Int32.reduceLT, Int32.reduceLE, iin_nI, iin_lit, iin_m1, tn_nI, tn_lit, nI_lm, nI_ml, nI_al, nI_la, nI_add, pk_mul, nI_le_l, nI_l_le, nI_lt_l, nI_l_lt, nI_eq_l, nI_l_eq, nI_eqP, nI_leP, nI_ltP, nI_m1, m1_nI, nI_ll, m1_l, l_m1]
end CPR
