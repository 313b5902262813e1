/-! lasts: the class's whole; digits of what may be below 0; the reference; the call -/
section LST2
variable {v c u n m p q d : Nat} {w w' w'' : cm_W} {s s' : St}
theorem nd_int {p : Nat} (hp : p ≤ 2 ^ 63) : (0 - lN p).toInt = -(p : Int) := by
  by_cases z : p = 2 ^ 63
  · subst z; decide
  · have h1 := pk_lT (n := p) (by omega)
    rw [Int64.toInt_sub, h1, show (0 : Int64).toInt = 0 from rfl]
    simp only [Int.bmod]
    split <;> omega
theorem nd_div {p a : Nat} (hp : p ≤ 2 ^ 63) (ha : 1 < a) (ha2 : a < 2 ^ 62) : (0 - lN p) / lN a = 0 - lN (p / a) := by
  have hq : p / a ≤ p / 2 := Nat.div_le_div_left ha (by omega)
  have hq : p / a ≤ 2 ^ 62 := by omega
  refine Int64.toInt_inj.mp ?_
  rw [Int64.toInt_div, nd_int hp, nd_int (by omega), pk_lT (by omega), Int.neg_tdiv, ← Int.ofNat_tdiv]
  generalize p / a = Q at hq
  rw [bm64 (by omega) (by omega)]
theorem nd_rem {p a : Nat} (hp : p ≤ 2 ^ 63) (ha : 1 < a) (ha2 : a < 2 ^ 62) : (0 - lN p) - (0 - lN p) / lN a * lN a = 0 - lN (p % a) := by
  rw [nd_div hp ha ha2]
  have e : lN p = lN (p / a) * lN a + lN (p % a) := by
    rw [lN_mul, lN_add, Nat.div_add_mod']
  rw [e]
  generalize lN (p / a) = Q
  generalize lN (p % a) = R
  generalize lN a = A
  grind
theorem m197n (w : cm_W) {p a k : Nat} (ha : 1 < a) (ha2 : a < 900000000000000000) (hp : p ≤ 2 ^ 63) (hk : k < 100) : fn_197 w (0 - lN p) (lN a) (nI k) = some (0 - lN (dg a (p / a, p % a) k).1) := by
  have h0 : ¬ lN a = 0 := by
    rw [show (0 : Int64) = lN 0 from rfl, pk_lEQ (by omega) (by omega)]; omega
  have e0 : fn_197 w (0 - lN p) (lN a) (nI k) = fn_197_13 w cm_N (lN a) (nI k) (0 - lN (p / a)) (0 - lN (p % a)) 0 := by
    unfold fn_197
    rw [if_pos h0, if_pos h0, nd_rem hp ha (by omega), nd_div hp ha (by omega)]
  rw [e0]
  refine up_0 (fun m j (z : Int64 × Int64) => fn_197_13 w m (lN a) (nI k) z.1 z.2 (nI j)) k (fun j z => z = (0 - lN (dg a (p / a, p % a) j).1, 0 - lN (dg a (p / a, p % a) j).2)) (fun o => o = _) (0 - lN (p / a), 0 - lN (p % a)) (by omega) rfl (fun m j z hj hz => Or.inr ⟨_, rfl, ?_⟩) (fun m z hz => ?_)
  · subst hz
    have hj' : ¬ k ≤ j := by omega
    have hl := dg_lt (a := a) (by omega) (z := (p / a, p % a)) (Nat.le_of_lt (Nat.mod_lt p (by omega))) j
    have e1 : (10 : Int64) * (0 - lN (dg a (p / a, p % a) j).2) = 0 - lN (10 * (dg a (p / a, p % a) j).2) := by
      rw [← lN_mul, show lN 10 = (10 : Int64) from rfl]; grind
    have e2 : (10 : Int64) * (0 - lN (dg a (p / a, p % a) j).1) = 0 - lN (10 * (dg a (p / a, p % a) j).1) := by
      rw [← lN_mul, show lN 10 = (10 : Int64) from rfl]; grind
    simp (disch := omega) only [fn_197_13, hj', h0, e1, e2, nI_leP, nI_la, not_false_eq_true, ↓reduceIte]
    rw [nd_rem (by omega) ha (by omega), nd_div (by omega) ha (by omega)]
    have e3 : ∀ A B : Nat, (0 - lN A) + (0 - lN B) = 0 - lN (A + B) := fun A B => by rw [← lN_add]; grind
    rw [e3]
    rfl
  · subst hz
    simp (disch := omega) only [fn_197_13, nI_leP, Nat.le_refl, ↓reduceIte]
theorem dg_cl {a p : Nat} (ha : 0 < a) : ∀ k, dg a (p / a, p % a) k = (p * 10 ^ k / a, p * 10 ^ k % a) := by
  intro k
  induction k with
  | zero => rw [Nat.pow_zero, Nat.mul_one]; rfl
  | succ k ih =>
    show (10 * (dg a (p / a, p % a) k).1 + 10 * (dg a (p / a, p % a) k).2 / a, 10 * (dg a (p / a, p % a) k).2 % a) = _
    rw [ih]
    have e : p * 10 ^ (k + 1) = 10 * (p * 10 ^ k) := by rw [Nat.pow_succ]; rw [← Nat.mul_assoc, Nat.mul_comm]
    rw [e]
    generalize p * 10 ^ k = P
    have e2 : 10 * P = a * (10 * (P / a)) + 10 * (P % a) := by
      have := Nat.div_add_mod P a
      rw [Nat.mul_left_comm, ← Nat.mul_add, this]
    have e3 : 10 * P / a = 10 * (P / a) + 10 * (P % a) / a := by rw [e2, Nat.mul_add_div ha]
    have e4 : 10 * P % a = 10 * (P % a) % a := by rw [e2, Nat.mul_add_mod]
    rw [e3, e4]
/-- six digits more of anything in hundred millions of millions -/
theorem m197a (w : cm_W) (x : Int64) : fn_197 w x (100000000000000 : Int64) (6 : Int32) = some (x / 100000000) := by
  have k : ∀ p, (dg 100000000000000 (p / 100000000000000, p % 100000000000000) 6).1 = p / 100000000 := fun p => by
    rw [dg_cl (by omega)]
    show p * 1000000 / 100000000000000 = _
    omega
  obtain ⟨n, hn, rfl⟩ := wb_of x
  by_cases z : n < 2 ^ 63
  · have h := m197 w (p := n) (a := 100000000000000) (k := 6) (by omega) (by omega) (by omega) (by omega)
    rw [k] at h
    refine h.trans (congrArg some ?_)
    exact (pk_lDiv (a := n) (b := 100000000) z (by omega) (by omega)).symm
  · have e : lN n = 0 - lN (2 ^ 64 - n) := by
      have h : lN n + lN (2 ^ 64 - n) = 0 := by
        rw [lN_add, show n + (2 ^ 64 - n) = 2 ^ 64 by omega]; rfl
      generalize lN (2 ^ 64 - n) = M at *
      grind
    rw [e]
    have h := m197n w (p := 2 ^ 64 - n) (a := 100000000000000) (k := 6) (by omega) (by omega) (by omega) (by omega)
    rw [k] at h
    refine h.trans (congrArg some ?_)
    exact (nd_div (p := 2 ^ 64 - n) (a := 100000000) (by omega) (by omega) (by omega)).symm
/-- the class's whole -/
theorem ls13 (L : Lay v c w) (hv : v = 10 ∨ v = 20) (V : VilC w v s) (I : InvV s) (hp : p < nP s) (hm : m < 6) {k0 q n b : Nat} (hk : k0 < 1000) (hq : q < 1000) (hn : n ≤ 20) (hs : shs s p = nI b) (hb1 : 0 < b) (hb2 : b < 1000) : ∃ y c', fn_13 58 v (nI p) (nI m) (nI k0) (nI q) (nI n) w = some ((lsS (lsD s p m q k0 n) 1000 / 100000000).toInt32, y) ∧ FC v c' w y := by
  have hT := I.1
  have hP := I.2.1
  refine up_0 (fun j t y => fn_13_3 j 58 v (nI p) (nI m) (nI k0) (nI q) (nI n) (nI t) y) 8 (fun t y => FC v c w y ∧ ∀ t', t' < t → (t' < nT s → cm_I y 59 t' = nI (wn s m t') ∧ cm_I y 60 t' = nI (tn (s 107 (8 * p + t')))) ∧ (¬ t' < nT s → cm_I y 60 t' = nI 0)) (fun o => ∃ y c', o = some ((lsS (lsD s p m q k0 n) 1000 / 100000000).toInt32, y) ∧ FC v c' w y) w (by omega) ⟨FC.rf L, fun t' h => by omega⟩ (fun j t y ht hy => Or.inr ?_) (fun j y hy => ?_)
  · obtain ⟨F, h⟩ := hy
    have LL := F.1
    have ht' : ¬ 8 ≤ t := by omega
    have e6 := c6 LL hv (F.V V hv) I (t := t) (by omega) (nI m)
    have F1 : FC v c w (cm_sI y 59 t (cwo s t (nI m))) := F.sI (by omega)
    obtain ⟨z, e8, z1, z2⟩ : ∃ z, fn_8 (cm_sI y 59 t (cwo s t (nI m))) v (nI p) (nI t) = some z ∧ (t < nT s → z = nI (tn (s 107 (8 * p + t)))) ∧ (¬ t < nT s → z = nI 0) := by
      by_cases zt : t < nT s
      · exact ⟨_, c8 F1.1 hv (F1.V V hv) I hp zt, fun _ => (sh_n I hp zt).1, fun h => absurd zt h⟩
      · exact ⟨0, c8t F1.1 hv (F1.V V hv) I (iin_no (by omega) (by omega)), fun h => absurd h zt, fun _ => rfl⟩
    refine ⟨cm_sI (cm_sI y 59 t (cwo s t (nI m))) 60 t z, ⟨F1.sI (by omega), fun t' h' => ?_⟩, ?_⟩
    · by_cases q : t' = t
      · subst q
        refine ⟨fun h3 => ⟨?_, ?_⟩, fun h3 => ?_⟩
        · rw [I_ne (by omega), I_eq]; unfold cwo; rw [if_pos h3]; exact (wo_n I h3 hm).1
        · rw [I_eq]; exact z1 h3
        · rw [I_eq]; exact z2 h3
      · have hh := h t' (by omega)
        rw [I_ne (by omega), I_nk q, I_nk q, I_ne (by omega)]
        exact hh
    · simp (disch := omega) only [fn_13_3, ht', ↓LCb LL, LC LL, LV LL hv, e6, ↓LCb F1.1, e8, R_sI, ga_sI, cm_w2, Nat.reduceLeDiff, Nat.reduceLT, decide_true, Bool.and_self, Bool.and_true, eq_self, Nat.le_refl, Nat.lt_irrefl, some_if, Option.bind_some, Option.bind_none, Option.some.injEq, ↓reduceIte, reduceCtorEq, Bool.false_eq_true, Bool.true_eq_false, not_true_eq_false, not_false_eq_true, cmb0, cmb1, Nat.reduceAdd, Nat.reduceMul, Nat.reduceSub, Nat.add_zero, Bool.not_eq_true, Bool.not_eq_false, Nat.reduceEqDiff, Nat.reduceLeDiff, Nat.reduceLT, Int32.reduceLT, Int32.reduceLE, iin_nI, iin_lit, iin_m1, tn_nI, tn_lit, nI_lm, nI_ml, nI_al, nI_la, nI_add, pk_mul, nI_le_l, nI_l_le, nI_lt_l, nI_l_lt, nI_eq_l, nI_l_eq, nI_eqP, nI_leP, nI_ltP, nI_m1, m1_nI, nI_ll, m1_l, l_m1]
  · obtain ⟨F, h⟩ := hy
    have LL := F.1
    have hc := LL.2.1
    have e0 : fn_13_3 (j + 1) 58 v (nI p) (nI m) (nI k0) (nI q) (nI n) (nI 8) y = fn_13_44 58 v (nI p) (nI k0) (nI q) (nI n) y := by
      simp (disch := omega) only [fn_13_3, eq_self, Nat.le_refl, Nat.lt_irrefl, some_if, Option.bind_some, Option.bind_none, Option.some.injEq, ↓reduceIte, reduceCtorEq, Bool.false_eq_true, Bool.true_eq_false, not_true_eq_false, not_false_eq_true, cmb0, cmb1, Nat.reduceAdd, Nat.reduceMul, Nat.reduceSub, Nat.add_zero, Bool.not_eq_true, Bool.not_eq_false, Nat.reduceEqDiff, Nat.reduceLeDiff, Nat.reduceLT, Int32.reduceLT, Int32.reduceLE, iin_nI, iin_lit, iin_m1, tn_nI, tn_lit, nI_lm, nI_ml, nI_al, nI_la, nI_add, pk_mul, nI_le_l, nI_l_le, nI_lt_l, nI_l_lt, nI_eq_l, nI_l_eq, nI_eqP, nI_leP, nI_ltP, nI_m1, m1_nI, nI_ll, m1_l, l_m1]
    show ∃ y' c', fn_13_3 (j + 1) 58 v (nI p) (nI m) (nI k0) (nI q) (nI n) (nI 8) y = _ ∧ _
    rw [e0]
    obtain ⟨y0, a0, F0, i0, z0, n0⟩ := c9z LL hc
    have L0 := F0.1
    have hw := (co_w hc).1
    have k1 : ¬ nI k0 < 0 := nI_pos (by omega)
    have k2 : ¬ Int32.ofNat 1000 ≤ nI k0 := fun z => by
      have := (nI_leI (a := 1000) (b := k0) (by omega) (by omega)).mp z
      omega
    have e1 : fn_13_44 58 v (nI p) (nI k0) (nI q) (nI n) y = fn_13_80 cm_N 58 v (nI p) (nI q) (nI n) (nI 0) (cm_sL y0 c k0 100000000000000) := by
      simp (disch := omega) only [fn_13_44, fn_13_77, ↓LCb LL, LC LL, a0, ↓LCb L0, LC L0, LCo L0 hc, k1, k2, hw, eq_self, Nat.le_refl, Nat.lt_irrefl, some_if, Option.bind_some, Option.bind_none, Option.some.injEq, ↓reduceIte, reduceCtorEq, Bool.false_eq_true, Bool.true_eq_false, not_true_eq_false, not_false_eq_true, cmb0, cmb1, Nat.reduceAdd, Nat.reduceMul, Nat.reduceSub, Nat.add_zero, Bool.not_eq_true, Bool.not_eq_false, Nat.reduceEqDiff, Nat.reduceLeDiff, Nat.reduceLT, Int32.reduceLT, Int32.reduceLE, iin_nI, iin_lit, iin_m1, tn_nI, tn_lit, nI_lm, nI_ml, nI_al, nI_la, nI_add, pk_mul, nI_le_l, nI_l_le, nI_lt_l, nI_l_lt, nI_eq_l, nI_l_eq, nI_eqP, nI_leP, nI_ltP, nI_m1, m1_nI, nI_ll, m1_l, l_m1]
      rfl
    rw [e1]
    have F1 : FC v c w (cm_sL y0 c k0 100000000000000) := (F.tr F0).sL (by omega)
    refine up_0 (fun j i y => fn_13_80 j 58 v (nI p) (nI q) (nI n) (nI i) y) n (fun i y => ∃ c', FC v c' w y ∧ LsR s p m y ∧ ∀ j, j < 1000 → cm_L y c' j = lsD s p m q k0 i j) (fun o => ∃ y c', o = some ((lsS (lsD s p m q k0 n) 1000 / 100000000).toInt32, y) ∧ FC v c' w y) _ (by omega) ⟨c, F1, ?_, fun j hj => ?_⟩ (fun j i y hi hy => Or.inr ?_) (fun j y hy => ?_)
    · intro t ht
      show (t < nT s → cm_I y0 59 t = _ ∧ cm_I y0 60 t = _) ∧ (¬ t < nT s → cm_I y0 60 t = _)
      rw [i0]
      exact h t ht
    · show _ = if j = k0 then (100000000000000 : Int64) else 0
      by_cases z : j = k0
      · subst z; rw [L_eq, if_pos rfl]
      · rw [L_nk z, if_neg z]; exact z0 j hj
    · obtain ⟨c', F, R, hd⟩ := hy
      have LL := F.1
      have hi' : ¬ n ≤ i := by omega
      have e10 := (c10 LL hv (F.V V hv) I hp).trans (congrArg some hs)
      obtain ⟨y', a1, G, i1, d1⟩ := ls12 LL I hp hm R hq hs hb1 hb2 hd
      refine ⟨y', ⟨123 - c', F.tr2 G, ?_, d1⟩, ?_⟩
      · unfold LsR; rw [i1]; exact R
      · simp (disch := omega) only [fn_13_80, hi', LC LL, LV LL hv, e10, mx_1, a1, eq_self, Nat.le_refl, Nat.lt_irrefl, some_if, Option.bind_some, Option.bind_none, Option.some.injEq, ↓reduceIte, reduceCtorEq, Bool.false_eq_true, Bool.true_eq_false, not_true_eq_false, not_false_eq_true, cmb0, cmb1, Nat.reduceAdd, Nat.reduceMul, Nat.reduceSub, Nat.add_zero, Bool.not_eq_true, Bool.not_eq_false, Nat.reduceEqDiff, Nat.reduceLeDiff, Nat.reduceLT, Int32.reduceLT, Int32.reduceLE, iin_nI, iin_lit, iin_m1, tn_nI, tn_lit, nI_lm, nI_ml, nI_al, nI_la, nI_add, pk_mul, nI_le_l, nI_l_le, nI_lt_l, nI_l_lt, nI_eq_l, nI_l_eq, nI_eqP, nI_leP, nI_ltP, nI_m1, m1_nI, nI_ll, m1_l, l_m1]
    · obtain ⟨c', F, R, hd⟩ := hy
      have LL := F.1
      have hc := LL.2.1
      have e2 : fn_13_80 (j + 1) 58 v (nI p) (nI q) (nI n) (nI n) y = fn_13_114 cm_N 58 0 (nI 0) y := by
        simp (disch := omega) only [fn_13_80, fn_13_108, eq_self, Nat.le_refl, Nat.lt_irrefl, some_if, Option.bind_some, Option.bind_none, Option.some.injEq, ↓reduceIte, reduceCtorEq, Bool.false_eq_true, Bool.true_eq_false, not_true_eq_false, not_false_eq_true, cmb0, cmb1, Nat.reduceAdd, Nat.reduceMul, Nat.reduceSub, Nat.add_zero, Bool.not_eq_true, Bool.not_eq_false, Nat.reduceEqDiff, Nat.reduceLeDiff, Nat.reduceLT, Int32.reduceLT, Int32.reduceLE, iin_nI, iin_lit, iin_m1, tn_nI, tn_lit, nI_lm, nI_ml, nI_al, nI_la, nI_add, pk_mul, nI_le_l, nI_l_le, nI_lt_l, nI_l_lt, nI_eq_l, nI_l_eq, nI_eqP, nI_leP, nI_ltP, nI_m1, m1_nI, nI_ll, m1_l, l_m1]
        rfl
      show ∃ y' c', fn_13_80 (j + 1) 58 v (nI p) (nI q) (nI n) (nI n) y = _ ∧ _
      rw [e2]
      refine ⟨y, c', ?_, F⟩
      refine up_0 (fun j k (a : Int64) => fn_13_114 j 58 a (nI k) y) 1000 (fun k a => a = lsS (lsD s p m q k0 n) k) (fun o => o = _) (0 : Int64) (by omega) rfl (fun j k a hk ha => Or.inr ⟨_, rfl, ?_⟩) (fun j a ha => ?_)
      · subst ha
        have hk' : ¬ 999 < k := by omega
        have dk := hd k hk
        simp (disch := omega) only [fn_13_114, hk', ↓LCb LL, LC LL, LCo LL hc, dk, eq_self, Nat.le_refl, Nat.lt_irrefl, some_if, Option.bind_some, Option.bind_none, Option.some.injEq, ↓reduceIte, reduceCtorEq, Bool.false_eq_true, Bool.true_eq_false, not_true_eq_false, not_false_eq_true, cmb0, cmb1, Nat.reduceAdd, Nat.reduceMul, Nat.reduceSub, Nat.add_zero, Bool.not_eq_true, Bool.not_eq_false, Nat.reduceEqDiff, Nat.reduceLeDiff, Nat.reduceLT, Int32.reduceLT, Int32.reduceLE, iin_nI, iin_lit, iin_m1, tn_nI, tn_lit, nI_lm, nI_ml, nI_al, nI_la, nI_add, pk_mul, nI_le_l, nI_l_le, nI_lt_l, nI_l_lt, nI_eq_l, nI_l_eq, nI_eqP, nI_leP, nI_ltP, nI_m1, m1_nI, nI_ll, m1_l, l_m1]
        rfl
      · subst ha
        have hk' : (999 : Nat) < 1000 := by omega
        simp (disch := omega) only [fn_13_114, fn_13_140, hk', eq_self, Nat.le_refl, Nat.lt_irrefl, some_if, Option.bind_some, Option.bind_none, Option.some.injEq, ↓reduceIte, reduceCtorEq, Bool.false_eq_true, Bool.true_eq_false, not_true_eq_false, not_false_eq_true, cmb0, cmb1, Nat.reduceAdd, Nat.reduceMul, Nat.reduceSub, Nat.add_zero, Bool.not_eq_true, Bool.not_eq_false, Nat.reduceEqDiff, Nat.reduceLeDiff, Nat.reduceLT, Int32.reduceLT, Int32.reduceLE, iin_nI, iin_lit, iin_m1, tn_nI, tn_lit, nI_lm, nI_ml, nI_al, nI_la, nI_add, pk_mul, nI_le_l, nI_l_le, nI_lt_l, nI_l_lt, nI_eq_l, nI_l_eq, nI_eqP, nI_leP, nI_ltP, nI_m1, m1_nI, nI_ll, m1_l, l_m1]
end LST2
