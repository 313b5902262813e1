/-! lasts: the reference; the call -/
section LST3
variable {v c u n m p q d : Nat} {w w' w'' x : cm_W} {s s' : St}
theorem ls152 (L : Lay v c x) (R : RelM x s) (I : InvV s) (hp : p < nP s) (hm : m < 6) {K1 : Nat → Int32 → Int32 → Int32 → Int32 → Int32 → Int32 → cm_W → Option (Int32 × cm_W)} {K2 : Nat → Int32 → Int32 → Int32 → Int32 → Int32 → Int32 → Int32 → cm_W → Option (Int32 × cm_W)} {i5 i7 : Int32} {i b : Nat} (hi : q + i < 1000) (hs : shs s p = nI b) (hb : ¬ (nI b).toInt64 = 0) {X : Int64} {g : Nat → Int64} (hx : cm_L x 137 (q + i) = X) (hg : ∀ j, j < 1000 → cm_L x 138 j = g j) : ∃ y, fn_285_152 K1 K2 cm_N 96 (nI p) (nI m) (nI q) i5 (nI b) i7 (nI (q + i)) (nI 0) x = K2 96 (nI p) (nI m) (nI q) i5 (nI b) i7 (nI (q + i + 1)) y ∧ FM v c x y s ∧ (cm_L y 137 = cm_L x 137) ∧ ∀ j, j < 1000 → cm_L y 138 j = (if X ≤ 0 then g else lsG s p m i X g (nT s)) j := by
  have hT := I.1
  have hP := I.2.1
  by_cases z : X ≤ 0
  · rw [if_pos z]
    refine up_0 (fun N t y => fn_285_152 K1 K2 N 96 (nI p) (nI m) (nI q) i5 (nI b) i7 (nI (q + i)) (nI t) y) (nT s) (fun t y => y = x) (fun o => ∃ y, o = K2 96 (nI p) (nI m) (nI q) i5 (nI b) i7 (nI (q + i + 1)) y ∧ FM v c x y s ∧ (cm_L y 137 = cm_L x 137) ∧ ∀ j, j < 1000 → cm_L y 138 j = g j) x (by omega) rfl (fun N t y ht hy => Or.inl ?_) (fun N y hy => ?_)
    · subst hy
      have ht' : ¬ nT s ≤ t := by omega
      refine ⟨y, ?_, FM.rf L R, rfl, hg⟩
      simp (disch := omega) only [fn_285_152, fn_285_226, ↓LMb L, LM L, RM R, hT.1, ht', hx, lgc_le, z, eq_self, Nat.le_refl, Nat.lt_irrefl, some_if, Option.bind_some, Option.bind_none, Option.some.injEq, ↓reduceIte, reduceCtorEq, Bool.false_eq_true, Bool.true_eq_false, not_true_eq_false, not_false_eq_true, cmb0, cmb1, Nat.reduceAdd, Nat.reduceMul, Nat.reduceSub, Nat.add_zero, Bool.not_eq_true, Bool.not_eq_false, Nat.reduceEqDiff, Nat.reduceLeDiff, Nat.reduceLT, Int32.reduceLT, Int32.reduceLE, iin_nI, iin_lit, iin_m1, tn_nI, tn_lit, nI_lm, nI_ml, nI_al, nI_la, nI_add, pk_mul, nI_le_l, nI_l_le, nI_lt_l, nI_l_lt, nI_eq_l, nI_l_eq, nI_eqP, nI_leP, nI_ltP, nI_m1, m1_nI, nI_ll, m1_l, l_m1]
    · subst hy
      refine ⟨y, ?_, FM.rf L R, rfl, hg⟩
      simp (disch := omega) only [fn_285_152, fn_285_226, ↓LMb L, LM L, RM R, hT.1, eq_self, Nat.le_refl, Nat.lt_irrefl, some_if, Option.bind_some, Option.bind_none, Option.some.injEq, ↓reduceIte, reduceCtorEq, Bool.false_eq_true, Bool.true_eq_false, not_true_eq_false, not_false_eq_true, cmb0, cmb1, Nat.reduceAdd, Nat.reduceMul, Nat.reduceSub, Nat.add_zero, Bool.not_eq_true, Bool.not_eq_false, Nat.reduceEqDiff, Nat.reduceLeDiff, Nat.reduceLT, Int32.reduceLT, Int32.reduceLE, iin_nI, iin_lit, iin_m1, tn_nI, tn_lit, nI_lm, nI_ml, nI_al, nI_la, nI_add, pk_mul, nI_le_l, nI_l_le, nI_lt_l, nI_l_lt, nI_eq_l, nI_l_eq, nI_eqP, nI_leP, nI_ltP, nI_m1, m1_nI, nI_ll, m1_l, l_m1]
  · rw [if_neg z]
    have sb : nI (q + i) - nI q = nI i := by rw [pk_sub (by omega), Nat.add_sub_cancel_left]
    refine up_0 (fun N t y => fn_285_152 K1 K2 N 96 (nI p) (nI m) (nI q) i5 (nI b) i7 (nI (q + i)) (nI t) y) (nT s) (fun t y => FM v c x y s ∧ cm_L y 137 = cm_L x 137 ∧ ∀ j, j < 1000 → cm_L y 138 j = lsG s p m i X g t j) (fun o => ∃ y, o = K2 96 (nI p) (nI m) (nI q) i5 (nI b) i7 (nI (q + i + 1)) y ∧ FM v c x y s ∧ (cm_L y 137 = cm_L x 137) ∧ ∀ j, j < 1000 → cm_L y 138 j = lsG s p m i X g (nT s) j) x (by omega) ⟨FM.rf L R, rfl, hg⟩ (fun N t y ht hy => Or.inr ?_) (fun N y hy => ?_)
    · obtain ⟨F, h1, h2⟩ := hy
      have LL := F.1
      have MM := F.2.1
      have ht' : ¬ nT s ≤ t := by omega
      obtain ⟨es, hs2⟩ := sh_n I hp ht
      obtain ⟨ew, wl⟩ := wo_n I ht hm
      have e8 := m228 LL MM (p := p) (t := t) (by omega) (by omega)
      have e2 := (m222 LL MM (t := t) (by omega) (nI m)).trans (congrArg some ew)
      have st : lsG s p m i X g (t + 1) = fun j => if j = mn (i + wn s m t) then lsG s p m i X g t j + X * (s 107 (8 * p + t)).toInt64 / (shs s p).toInt64 else lsG s p m i X g t j := rfl
      have ml := mn_lt (i + wn s m t)
      have hx' : cm_L y 137 (q + i) = X := by rw [h1]; exact hx
      refine ⟨cm_sL y 138 (mn (i + wn s m t)) (cm_L y 138 (mn (i + wn s m t)) + X * (s 107 (8 * p + t)).toInt64 / (nI b).toInt64), ⟨F.sL (by omega) (by omega) (by omega), ?_, fun j hj => ?_⟩, ?_⟩
      · funext j; rw [L_ne (by omega)]; rw [h1]
      · rw [st]
        dsimp only
        by_cases zj : j = mn (i + wn s m t)
        · subst zj
          rw [L_eq, if_pos rfl, h2 _ hj, hs]
        · rw [L_nk zj, if_neg zj, h2 j hj]
      · simp (disch := omega) only [fn_285_152, ↓LMb LL, LM LL, RM MM, hT.1, ht', hx', lgc_le, z, e2, e8, sb, mn_if, hb, cm_w2, Nat.reduceLeDiff, Nat.reduceLT, decide_true, Bool.and_self, Bool.and_true, eq_self, Nat.le_refl, Nat.lt_irrefl, some_if, Option.bind_some, Option.bind_none, Option.some.injEq, ↓reduceIte, reduceCtorEq, Bool.false_eq_true, Bool.true_eq_false, not_true_eq_false, not_false_eq_true, cmb0, cmb1, Nat.reduceAdd, Nat.reduceMul, Nat.reduceSub, Nat.add_zero, Bool.not_eq_true, Bool.not_eq_false, Nat.reduceEqDiff, Nat.reduceLeDiff, Nat.reduceLT, Int32.reduceLT, Int32.reduceLE, iin_nI, iin_lit, iin_m1, tn_nI, tn_lit, nI_lm, nI_ml, nI_al, nI_la, nI_add, pk_mul, nI_le_l, nI_l_le, nI_lt_l, nI_l_lt, nI_eq_l, nI_l_eq, nI_eqP, nI_leP, nI_ltP, nI_m1, m1_nI, nI_ll, m1_l, l_m1]
    · obtain ⟨F, h1, h2⟩ := hy
      refine ⟨y, ?_, F, h1, h2⟩
      simp (disch := omega) only [fn_285_152, fn_285_226, ↓LMb F.1, LM F.1, RM F.2.1, hT.1, eq_self, Nat.le_refl, Nat.lt_irrefl, some_if, Option.bind_some, Option.bind_none, Option.some.injEq, ↓reduceIte, reduceCtorEq, Bool.false_eq_true, Bool.true_eq_false, not_true_eq_false, not_false_eq_true, cmb0, cmb1, Nat.reduceAdd, Nat.reduceMul, Nat.reduceSub, Nat.add_zero, Bool.not_eq_true, Bool.not_eq_false, Nat.reduceEqDiff, Nat.reduceLeDiff, Nat.reduceLT, Int32.reduceLT, Int32.reduceLE, iin_nI, iin_lit, iin_m1, tn_nI, tn_lit, nI_lm, nI_ml, nI_al, nI_la, nI_add, pk_mul, nI_le_l, nI_l_le, nI_lt_l, nI_l_lt, nI_eq_l, nI_l_eq, nI_eqP, nI_leP, nI_ltP, nI_m1, m1_nI, nI_ll, m1_l, l_m1]
theorem ls141 (L : Lay v c x) (R : RelM x s) (I : InvV s) (hp : p < nP s) (hm : m < 6) {K1 : Nat → Int32 → Int32 → Int32 → Int32 → Int32 → Int32 → cm_W → Option (Int32 × cm_W)} {i5 i7 : Int32} {b : Nat} (hq : q < 1000) (hs : shs s p = nI b) (hb : ¬ (nI b).toInt64 = 0) {f : Nat → Int64} (hf : ∀ j, j < 1000 → cm_L x 137 j = f j) (hg : ∀ j, j < 1000 → cm_L x 138 j = 0) : ∃ y, fn_285_141 K1 cm_N 96 (nI p) (nI m) (nI q) i5 (nI b) i7 (nI q) x = fn_285_232 K1 96 (nI p) (nI m) (nI q) i5 (nI b) i7 y ∧ FM v c x y s ∧ ∀ j, j < 1000 → cm_L y 138 j = lsN s p m q f (1000 - q) j := by
  refine up_0 (fun N i y => fn_285_141 K1 N 96 (nI p) (nI m) (nI q) i5 (nI b) i7 (nI (q + i)) y) (1000 - q) (fun i y => FM v c x y s ∧ (cm_L y 137 = cm_L x 137) ∧ ∀ j, j < 1000 → cm_L y 138 j = lsN s p m q f i j) (fun o => ∃ y, o = fn_285_232 K1 96 (nI p) (nI m) (nI q) i5 (nI b) i7 y ∧ FM v c x y s ∧ ∀ j, j < 1000 → cm_L y 138 j = lsN s p m q f (1000 - q) j) x (by omega) ⟨FM.rf L R, rfl, hg⟩ (fun N i y hi hy => Or.inr ?_) (fun N y hy => ?_)
  · obtain ⟨F, h1, h2⟩ := hy
    have hk' : ¬ 999 < q + i := by omega
    have fv : cm_L y 137 (q + i) = f (q + i) := by rw [h1]; exact hf _ (by omega)
    obtain ⟨y', a1, F1, n1, g1⟩ := ls152 F.1 F.2.1 I hp hm (K1 := K1) (K2 := fn_285_141 K1 N) (i5 := i5) (i7 := i7) (i := i) (by omega) hs hb fv h2
    refine ⟨y', ⟨F.tr F1, n1.trans h1, g1⟩, ?_⟩
    show fn_285_141 K1 (N + 1) 96 (nI p) (nI m) (nI q) i5 (nI b) i7 (nI (q + i)) y = fn_285_141 K1 N 96 (nI p) (nI m) (nI q) i5 (nI b) i7 (nI (q + i + 1)) y'
    rw [← a1]
    simp (disch := omega) only [fn_285_141, hk', eq_self, Nat.le_refl, Nat.lt_irrefl, some_if, Option.bind_some, Option.bind_none, Option.some.injEq, ↓reduceIte, reduceCtorEq, Bool.false_eq_true, Bool.true_eq_false, not_true_eq_false, not_false_eq_true, cmb0, cmb1, Nat.reduceAdd, Nat.reduceMul, Nat.reduceSub, Nat.add_zero, Bool.not_eq_true, Bool.not_eq_false, Nat.reduceEqDiff, Nat.reduceLeDiff, Nat.reduceLT, Int32.reduceLT, Int32.reduceLE, iin_nI, iin_lit, iin_m1, tn_nI, tn_lit, nI_lm, nI_ml, nI_al, nI_la, nI_add, pk_mul, nI_le_l, nI_l_le, nI_lt_l, nI_l_lt, nI_eq_l, nI_l_eq, nI_eqP, nI_leP, nI_ltP, nI_m1, m1_nI, nI_ll, m1_l, l_m1]
    rfl
  · obtain ⟨F, h1, h2⟩ := hy
    have e1 : q + (1000 - q) = 1000 := by omega
    refine ⟨y, ?_, F, h2⟩
    show fn_285_141 K1 (N + 1) 96 (nI p) (nI m) (nI q) i5 (nI b) i7 (nI (q + (1000 - q))) y = _
    rw [e1]
    simp (disch := omega) only [fn_285_141, eq_self, Nat.le_refl, Nat.lt_irrefl, some_if, Option.bind_some, Option.bind_none, Option.some.injEq, ↓reduceIte, reduceCtorEq, Bool.false_eq_true, Bool.true_eq_false, not_true_eq_false, not_false_eq_true, cmb0, cmb1, Nat.reduceAdd, Nat.reduceMul, Nat.reduceSub, Nat.add_zero, Bool.not_eq_true, Bool.not_eq_false, Nat.reduceEqDiff, Nat.reduceLeDiff, Nat.reduceLT, Int32.reduceLT, Int32.reduceLE, iin_nI, iin_lit, iin_m1, tn_nI, tn_lit, nI_lm, nI_ml, nI_al, nI_la, nI_add, pk_mul, nI_le_l, nI_l_le, nI_lt_l, nI_l_lt, nI_eq_l, nI_l_eq, nI_eqP, nI_leP, nI_ltP, nI_m1, m1_nI, nI_ll, m1_l, l_m1]
theorem ls105 (L : Lay v c x) (R : RelM x s) (I : InvV s) (hp : p < nP s) (hm : m < 6) {N k b : Nat} (hq : q < 1000) (hn : n < 100) (hk : k < n) (hs : shs s p = nI b) (hb : ¬ (nI b).toInt64 = 0) {f : Nat → Int64} (hf : ∀ j, j < 1000 → cm_L x 137 j = f j) : ∃ y, fn_285_105 (N + 1) 96 (nI p) (nI m) (nI q) (nI n) (nI b) (nI k) x = fn_285_105 N 96 (nI p) (nI m) (nI q) (nI n) (nI b) (nI (k + 1)) y ∧ FM v c x y s ∧ ∀ j, j < 1000 → cm_L y 137 j = lsN s p m q f (1000 - q) j := by
  have hk' : ¬ n ≤ k := by omega
  have e0 : fn_285_105 (N + 1) 96 (nI p) (nI m) (nI q) (nI n) (nI b) (nI k) x = fn_285_115 (fn_285_105 N) cm_N 96 (nI p) (nI m) (nI q) (nI n) (nI b) (nI k) (nI 0) x := by
    simp (disch := omega) only [fn_285_105, hk', eq_self, Nat.le_refl, Nat.lt_irrefl, some_if, Option.bind_some, Option.bind_none, Option.some.injEq, ↓reduceIte, reduceCtorEq, Bool.false_eq_true, Bool.true_eq_false, not_true_eq_false, not_false_eq_true, cmb0, cmb1, Nat.reduceAdd, Nat.reduceMul, Nat.reduceSub, Nat.add_zero, Bool.not_eq_true, Bool.not_eq_false, Nat.reduceEqDiff, Nat.reduceLeDiff, Nat.reduceLT, Int32.reduceLT, Int32.reduceLE, iin_nI, iin_lit, iin_m1, tn_nI, tn_lit, nI_lm, nI_ml, nI_al, nI_la, nI_add, pk_mul, nI_le_l, nI_l_le, nI_lt_l, nI_l_lt, nI_eq_l, nI_l_eq, nI_eqP, nI_leP, nI_ltP, nI_m1, m1_nI, nI_ll, m1_l, l_m1]
    rfl
  rw [e0]
  generalize hK : fn_285_105 N = K1
  refine up_0 (fun M j y => fn_285_115 K1 M 96 (nI p) (nI m) (nI q) (nI n) (nI b) (nI k) (nI j) y) 1000 (fun j y => FM v c x y s ∧ (cm_L y 137 = cm_L x 137) ∧ ∀ t, t < j → cm_L y 138 t = 0) (fun o => ∃ y, o = K1 96 (nI p) (nI m) (nI q) (nI n) (nI b) (nI (k + 1)) y ∧ FM v c x y s ∧ ∀ j, j < 1000 → cm_L y 137 j = lsN s p m q f (1000 - q) j) x (by omega) ⟨FM.rf L R, rfl, fun t h => by omega⟩ (fun M j y hj hy => Or.inr ?_) (fun M y hy => ?_)
  · obtain ⟨F, h1, h2⟩ := hy
    have hj' : ¬ 999 < j := by omega
    refine ⟨cm_sL y 138 j 0, ⟨F.sL (by omega) (by omega) (by omega), ?_, fun t ht => ?_⟩, ?_⟩
    · funext j; rw [L_ne (by omega)]; rw [h1]
    · by_cases z : t = j
      · subst z; rw [L_eq]
      · rw [L_nk z]; exact h2 t (by omega)
    · simp (disch := omega) only [fn_285_115, hj', ↓LMb F.1, LM F.1, cm_w2, Nat.reduceLeDiff, Nat.reduceLT, decide_true, Bool.and_self, Bool.and_true, eq_self, Nat.le_refl, Nat.lt_irrefl, some_if, Option.bind_some, Option.bind_none, Option.some.injEq, ↓reduceIte, reduceCtorEq, Bool.false_eq_true, Bool.true_eq_false, not_true_eq_false, not_false_eq_true, cmb0, cmb1, Nat.reduceAdd, Nat.reduceMul, Nat.reduceSub, Nat.add_zero, Bool.not_eq_true, Bool.not_eq_false, Nat.reduceEqDiff, Nat.reduceLeDiff, Nat.reduceLT, Int32.reduceLT, Int32.reduceLE, iin_nI, iin_lit, iin_m1, tn_nI, tn_lit, nI_lm, nI_ml, nI_al, nI_la, nI_add, pk_mul, nI_le_l, nI_l_le, nI_lt_l, nI_l_lt, nI_eq_l, nI_l_eq, nI_eqP, nI_leP, nI_ltP, nI_m1, m1_nI, nI_ll, m1_l, l_m1]
  · obtain ⟨F, h1, h2⟩ := hy
    have e1 : fn_285_115 K1 (M + 1) 96 (nI p) (nI m) (nI q) (nI n) (nI b) (nI k) (nI 1000) y = fn_285_141 K1 cm_N 96 (nI p) (nI m) (nI q) (nI n) (nI b) (nI k) (nI q) y := by
      have h999 : 999 < 1000 := by omega
      simp (disch := omega) only [fn_285_115, fn_285_137, h999, eq_self, Nat.le_refl, Nat.lt_irrefl, some_if, Option.bind_some, Option.bind_none, Option.some.injEq, ↓reduceIte, reduceCtorEq, Bool.false_eq_true, Bool.true_eq_false, not_true_eq_false, not_false_eq_true, cmb0, cmb1, Nat.reduceAdd, Nat.reduceMul, Nat.reduceSub, Nat.add_zero, Bool.not_eq_true, Bool.not_eq_false, Nat.reduceEqDiff, Nat.reduceLeDiff, Nat.reduceLT, Int32.reduceLT, Int32.reduceLE, iin_nI, iin_lit, iin_m1, tn_nI, tn_lit, nI_lm, nI_ml, nI_al, nI_la, nI_add, pk_mul, nI_le_l, nI_l_le, nI_lt_l, nI_l_lt, nI_eq_l, nI_l_eq, nI_eqP, nI_leP, nI_ltP, nI_m1, m1_nI, nI_ll, m1_l, l_m1]
    show ∃ y', fn_285_115 K1 (M + 1) 96 (nI p) (nI m) (nI q) (nI n) (nI b) (nI k) (nI 1000) y = _ ∧ _
    rw [e1]
    obtain ⟨y1, a1, F1, g1⟩ := ls141 F.1 F.2.1 I hp hm (K1 := K1) (i5 := nI n) (i7 := nI k) hq hs hb (f := f) (fun j hj => by rw [h1]; exact hf j hj) h2
    rw [a1]
    unfold fn_285_232
    have FF := F.tr F1
    refine up_0 (fun M j y => fn_285_235 K1 M 96 (nI p) (nI m) (nI q) (nI n) (nI b) (nI k) (nI j) y) 1000 (fun j y => FM v c x y s ∧ (cm_L y 138 = cm_L y1 138) ∧ ∀ t, t < j → cm_L y 137 t = lsN s p m q f (1000 - q) t) (fun o => ∃ y, o = K1 96 (nI p) (nI m) (nI q) (nI n) (nI b) (nI (k + 1)) y ∧ FM v c x y s ∧ ∀ j, j < 1000 → cm_L y 137 j = lsN s p m q f (1000 - q) j) y1 (by omega) ⟨FF, rfl, fun t h => by omega⟩ (fun M j y hj hy => Or.inr ?_) (fun M y hy => ?_)
    · obtain ⟨F, h1, h2⟩ := hy
      have hj' : ¬ 999 < j := by omega
      have h138 : cm_L y 138 j = lsN s p m q f (1000 - q) j := by rw [h1]; exact g1 j hj
      refine ⟨cm_sL y 137 j (lsN s p m q f (1000 - q) j), ⟨F.sL (by omega) (by omega) (by omega), ?_, fun t ht => ?_⟩, ?_⟩
      · funext j; rw [L_ne (by omega)]; rw [h1]
      · by_cases z : t = j
        · subst z; rw [L_eq]
        · rw [L_nk z]; exact h2 t (by omega)
      · simp (disch := omega) only [fn_285_235, hj', ↓LMb F.1, LM F.1, h138, cm_w2, Nat.reduceLeDiff, Nat.reduceLT, decide_true, Bool.and_self, Bool.and_true, eq_self, Nat.le_refl, Nat.lt_irrefl, some_if, Option.bind_some, Option.bind_none, Option.some.injEq, ↓reduceIte, reduceCtorEq, Bool.false_eq_true, Bool.true_eq_false, not_true_eq_false, not_false_eq_true, cmb0, cmb1, Nat.reduceAdd, Nat.reduceMul, Nat.reduceSub, Nat.add_zero, Bool.not_eq_true, Bool.not_eq_false, Nat.reduceEqDiff, Nat.reduceLeDiff, Nat.reduceLT, Int32.reduceLT, Int32.reduceLE, iin_nI, iin_lit, iin_m1, tn_nI, tn_lit, nI_lm, nI_ml, nI_al, nI_la, nI_add, pk_mul, nI_le_l, nI_l_le, nI_lt_l, nI_l_lt, nI_eq_l, nI_l_eq, nI_eqP, nI_leP, nI_ltP, nI_m1, m1_nI, nI_ll, m1_l, l_m1]
    · obtain ⟨F, h1, h2⟩ := hy
      have h999 : 999 < 1000 := by omega
      refine ⟨y, ?_, F, h2⟩
      simp (disch := omega) only [fn_285_235, fn_285_263, h999, eq_self, Nat.le_refl, Nat.lt_irrefl, some_if, Option.bind_some, Option.bind_none, Option.some.injEq, ↓reduceIte, reduceCtorEq, Bool.false_eq_true, Bool.true_eq_false, not_true_eq_false, not_false_eq_true, cmb0, cmb1, Nat.reduceAdd, Nat.reduceMul, Nat.reduceSub, Nat.add_zero, Bool.not_eq_true, Bool.not_eq_false, Nat.reduceEqDiff, Nat.reduceLeDiff, Nat.reduceLT, Int32.reduceLT, Int32.reduceLE, iin_nI, iin_lit, iin_m1, tn_nI, tn_lit, nI_lm, nI_ml, nI_al, nI_la, nI_add, pk_mul, nI_le_l, nI_l_le, nI_lt_l, nI_l_lt, nI_eq_l, nI_l_eq, nI_eqP, nI_leP, nI_ltP, nI_m1, m1_nI, nI_ll, m1_l, l_m1]
theorem ls285 (L : Lay v c x) (R : RelM x s) (I : InvV s) (hp : p < nP s) (hm : m < 6) {k0 q n b : Nat} (hk : k0 < 1000) (hq : q < 1000) (hn : n ≤ 20) (hs : shs s p = nI b) (hb1 : 0 < b) (hb2 : b < 1000) : ∃ y, fn_285_58 96 (nI p) (nI m) (nI k0) (nI q) (nI n) x = some ((lsS (lsD s p m q k0 n) 1000 / 100000000).toInt32, y) ∧ FM v c x y s := by
  have hP := I.2.1
  have hb : ¬ (nI b).toInt64 = 0 := by
    rw [nI_l (by omega), show (0 : Int64) = lN 0 from rfl, lN_eq (by omega) (by omega)]; omega
  have e9 := (m229 L R I (p := p) (by omega)).trans (congrArg some hs)
  have e0 : fn_285_58 96 (nI p) (nI m) (nI k0) (nI q) (nI n) x = fn_285_68 cm_N 96 (nI p) (nI m) (nI k0) (nI q) (nI n) (nI b) (nI 0) x := by
    simp (disch := omega) only [fn_285_58, LM L, e9, eq_self, Nat.le_refl, Nat.lt_irrefl, some_if, Option.bind_some, Option.bind_none, Option.some.injEq, ↓reduceIte, reduceCtorEq, Bool.false_eq_true, Bool.true_eq_false, not_true_eq_false, not_false_eq_true, cmb0, cmb1, Nat.reduceAdd, Nat.reduceMul, Nat.reduceSub, Nat.add_zero, Bool.not_eq_true, Bool.not_eq_false, Nat.reduceEqDiff, Nat.reduceLeDiff, Nat.reduceLT, Int32.reduceLT, Int32.reduceLE, iin_nI, iin_lit, iin_m1, tn_nI, tn_lit, nI_lm, nI_ml, nI_al, nI_la, nI_add, pk_mul, nI_le_l, nI_l_le, nI_lt_l, nI_l_lt, nI_eq_l, nI_l_eq, nI_eqP, nI_leP, nI_ltP, nI_m1, m1_nI, nI_ll, m1_l, l_m1]
    rfl
  rw [e0]
  refine up_0 (fun M j y => fn_285_68 M 96 (nI p) (nI m) (nI k0) (nI q) (nI n) (nI b) (nI j) y) 1000 (fun j y => FM v c x y s ∧ ∀ t, t < j → cm_L y 137 t = lsD s p m q k0 0 t) (fun o => ∃ y, o = some ((lsS (lsD s p m q k0 n) 1000 / 100000000).toInt32, y) ∧ FM v c x y s) x (by omega) ⟨FM.rf L R, fun t h => by omega⟩ (fun M j y hj hy => Or.inr ?_) (fun M y hy => ?_)
  · obtain ⟨F, h2⟩ := hy
    have hj' : ¬ 999 < j := by omega
    have d0 : lsD s p m q k0 0 j = if j = k0 then 100000000000000 else 0 := rfl
    refine ⟨cm_sL y 137 j (lsD s p m q k0 0 j), ⟨F.sL (by omega) (by omega) (by omega), fun t ht => ?_⟩, ?_⟩
    · by_cases z : t = j
      · subst z; rw [L_eq]
      · rw [L_nk z]; exact h2 t (by omega)
    · rw [d0]
      by_cases z : j = k0
      · subst z
        simp (disch := omega) only [fn_285_68, hj', ↓LMb F.1, LM F.1, cm_w2, Nat.reduceLeDiff, Nat.reduceLT, decide_true, Bool.and_self, Bool.and_true, eq_self, Nat.le_refl, Nat.lt_irrefl, some_if, Option.bind_some, Option.bind_none, Option.some.injEq, ↓reduceIte, reduceCtorEq, Bool.false_eq_true, Bool.true_eq_false, not_true_eq_false, not_false_eq_true, cmb0, cmb1, Nat.reduceAdd, Nat.reduceMul, Nat.reduceSub, Nat.add_zero, Bool.not_eq_true, Bool.not_eq_false, Nat.reduceEqDiff, Nat.reduceLeDiff, Nat.reduceLT, Int32.reduceLT, Int32.reduceLE, iin_nI, iin_lit, iin_m1, tn_nI, tn_lit, nI_lm, nI_ml, nI_al, nI_la, nI_add, pk_mul, nI_le_l, nI_l_le, nI_lt_l, nI_l_lt, nI_eq_l, nI_l_eq, nI_eqP, nI_leP, nI_ltP, nI_m1, m1_nI, nI_ll, m1_l, l_m1]
      · simp (disch := omega) only [fn_285_68, hj', ↓LMb F.1, LM F.1, z, cm_w2, Nat.reduceLeDiff, Nat.reduceLT, decide_true, Bool.and_self, Bool.and_true, eq_self, Nat.le_refl, Nat.lt_irrefl, some_if, Option.bind_some, Option.bind_none, Option.some.injEq, ↓reduceIte, reduceCtorEq, Bool.false_eq_true, Bool.true_eq_false, not_true_eq_false, not_false_eq_true, cmb0, cmb1, Nat.reduceAdd, Nat.reduceMul, Nat.reduceSub, Nat.add_zero, Bool.not_eq_true, Bool.not_eq_false, Nat.reduceEqDiff, Nat.reduceLeDiff, Nat.reduceLT, Int32.reduceLT, Int32.reduceLE, iin_nI, iin_lit, iin_m1, tn_nI, tn_lit, nI_lm, nI_ml, nI_al, nI_la, nI_add, pk_mul, nI_le_l, nI_l_le, nI_lt_l, nI_l_lt, nI_eq_l, nI_l_eq, nI_eqP, nI_leP, nI_ltP, nI_m1, m1_nI, nI_ll, m1_l, l_m1]
  · obtain ⟨F, h2⟩ := hy
    have h999 : 999 < 1000 := by omega
    have e1 : fn_285_68 (M + 1) 96 (nI p) (nI m) (nI k0) (nI q) (nI n) (nI b) (nI 1000) y = fn_285_105 cm_N 96 (nI p) (nI m) (nI q) (nI n) (nI b) (nI 0) y := by
      simp (disch := omega) only [fn_285_68, fn_285_102, h999, eq_self, Nat.le_refl, Nat.lt_irrefl, some_if, Option.bind_some, Option.bind_none, Option.some.injEq, ↓reduceIte, reduceCtorEq, Bool.false_eq_true, Bool.true_eq_false, not_true_eq_false, not_false_eq_true, cmb0, cmb1, Nat.reduceAdd, Nat.reduceMul, Nat.reduceSub, Nat.add_zero, Bool.not_eq_true, Bool.not_eq_false, Nat.reduceEqDiff, Nat.reduceLeDiff, Nat.reduceLT, Int32.reduceLT, Int32.reduceLE, iin_nI, iin_lit, iin_m1, tn_nI, tn_lit, nI_lm, nI_ml, nI_al, nI_la, nI_add, pk_mul, nI_le_l, nI_l_le, nI_lt_l, nI_l_lt, nI_eq_l, nI_l_eq, nI_eqP, nI_leP, nI_ltP, nI_m1, m1_nI, nI_ll, m1_l, l_m1]
      rfl
    show ∃ y', fn_285_68 (M + 1) 96 (nI p) (nI m) (nI k0) (nI q) (nI n) (nI b) (nI 1000) y = _ ∧ _
    rw [e1]
    refine up_0 (fun M k y => fn_285_105 M 96 (nI p) (nI m) (nI q) (nI n) (nI b) (nI k) y) n (fun k y => FM v c x y s ∧ ∀ t, t < 1000 → cm_L y 137 t = lsD s p m q k0 k t) (fun o => ∃ y, o = some ((lsS (lsD s p m q k0 n) 1000 / 100000000).toInt32, y) ∧ FM v c x y s) y (by omega) ⟨F, h2⟩ (fun M k y hk hy => Or.inr ?_) (fun M y hy => ?_)
    · obtain ⟨F, h2⟩ := hy
      obtain ⟨y', a1, F1, g1⟩ := ls105 F.1 F.2.1 I hp hm (N := M) hq (by omega) hk hs hb h2
      exact ⟨y', ⟨F.tr F1, g1⟩, a1⟩
    · obtain ⟨F, h2⟩ := hy
      have LL := F.1
      have e2 : fn_285_105 (M + 1) 96 (nI p) (nI m) (nI q) (nI n) (nI b) (nI n) y = fn_285_275 cm_N 96 0 (nI 0) y := by
        simp (disch := omega) only [fn_285_105, fn_285_269, eq_self, Nat.le_refl, Nat.lt_irrefl, some_if, Option.bind_some, Option.bind_none, Option.some.injEq, ↓reduceIte, reduceCtorEq, Bool.false_eq_true, Bool.true_eq_false, not_true_eq_false, not_false_eq_true, cmb0, cmb1, Nat.reduceAdd, Nat.reduceMul, Nat.reduceSub, Nat.add_zero, Bool.not_eq_true, Bool.not_eq_false, Nat.reduceEqDiff, Nat.reduceLeDiff, Nat.reduceLT, Int32.reduceLT, Int32.reduceLE, iin_nI, iin_lit, iin_m1, tn_nI, tn_lit, nI_lm, nI_ml, nI_al, nI_la, nI_add, pk_mul, nI_le_l, nI_l_le, nI_lt_l, nI_l_lt, nI_eq_l, nI_l_eq, nI_eqP, nI_leP, nI_ltP, nI_m1, m1_nI, nI_ll, m1_l, l_m1]
        rfl
      show ∃ y', fn_285_105 (M + 1) 96 (nI p) (nI m) (nI q) (nI n) (nI b) (nI n) y = _ ∧ _
      rw [e2]
      refine ⟨y, ?_, F⟩
      refine up_0 (fun j k (a : Int64) => fn_285_275 j 96 a (nI k) y) 1000 (fun k a => a = lsS (lsD s p m q k0 n) k) (fun o => o = _) (0 : Int64) (by omega) rfl (fun j k a hk ha => Or.inr ⟨_, rfl, ?_⟩) (fun j a ha => ?_)
      · subst ha
        have hk' : ¬ 999 < k := by omega
        have dk := h2 k hk
        simp (disch := omega) only [fn_285_275, hk', ↓LMb LL, LM LL, dk, eq_self, Nat.le_refl, Nat.lt_irrefl, some_if, Option.bind_some, Option.bind_none, Option.some.injEq, ↓reduceIte, reduceCtorEq, Bool.false_eq_true, Bool.true_eq_false, not_true_eq_false, not_false_eq_true, cmb0, cmb1, Nat.reduceAdd, Nat.reduceMul, Nat.reduceSub, Nat.add_zero, Bool.not_eq_true, Bool.not_eq_false, Nat.reduceEqDiff, Nat.reduceLeDiff, Nat.reduceLT, Int32.reduceLT, Int32.reduceLE, iin_nI, iin_lit, iin_m1, tn_nI, tn_lit, nI_lm, nI_ml, nI_al, nI_la, nI_add, pk_mul, nI_le_l, nI_l_le, nI_lt_l, nI_l_lt, nI_eq_l, nI_l_eq, nI_eqP, nI_leP, nI_ltP, nI_m1, m1_nI, nI_ll, m1_l, l_m1]
        rfl
      · subst ha
        have a1 := m197a y (lsS (lsD s p m q k0 n) 1000)
        simp (disch := omega) only [fn_285_275, fn_285_301, h999, a1, eq_self, Nat.le_refl, Nat.lt_irrefl, some_if, Option.bind_some, Option.bind_none, Option.some.injEq, ↓reduceIte, reduceCtorEq, Bool.false_eq_true, Bool.true_eq_false, not_true_eq_false, not_false_eq_true, cmb0, cmb1, Nat.reduceAdd, Nat.reduceMul, Nat.reduceSub, Nat.add_zero, Bool.not_eq_true, Bool.not_eq_false, Nat.reduceEqDiff, Nat.reduceLeDiff, Nat.reduceLT, Int32.reduceLT, Int32.reduceLE, iin_nI, iin_lit, iin_m1, tn_nI, tn_lit, nI_lm, nI_ml, nI_al, nI_la, nI_add, pk_mul, nI_le_l, nI_l_le, nI_lt_l, nI_l_lt, nI_eq_l, nI_l_eq, nI_eqP, nI_leP, nI_ltP, nI_m1, m1_nI, nI_ll, m1_l, l_m1]
theorem lo1 {i : Int32} {N : Nat} (h1 : N < 1000000) (h : cm_iin (i - 1) N = false) : i < 1 ∨ (¬ i < 1 ∧ nI N < i) := by
  by_cases h3 : i < 1
  · exact Or.inl h3
  · refine Or.inr ⟨h3, ?_⟩
    have h6 : ¬ i < 0 := fun q => h3 (Int32.lt_of_lt_of_le q (by decide))
    obtain ⟨j, hj, rfl⟩ := nI_of h6
    rw [nI_l_lt (n := 1) (by decide) hj] at h3
    have h3 : ¬ j < 1 := h3
    rw [show nI j - 1 = nI (j - 1) from pk_sub (b := 1) (by omega)] at h
    by_cases h7 : N < j
    · exact nI_lt h7 hj
    · rw [iin_nI (by omega) (by omega)] at h; cases h
theorem w_lasts (g : GG v c w s) (i1 i2 i3 i4 i5 : Int32) : OKW (fn_182 2 i1 i2 i3 i4 i5) (fn_285 96 i1 i2 i3 i4 i5) w := by
  obtain ⟨L, M, C, Z, I⟩ := id g
  have hv := L.1
  have V := C.2.1
  have hT := I.1.1
  have hP := I.1.2.1
  have e3 : ∀ x i, fn_194 x i (0 : Int32) (999 : Int32) = some (cm_iin i 1000) := fun x i => isIn_lit x i 999 (by decide)
  have e5 : ∀ x i, fn_194 x i (1 : Int32) (20 : Int32) = some (cm_iin (i - 1) 20) := fun x i => isIn_sh x i (lo := 1) (n := 20) (by omega) (by omega)
  rcases iin_cs i1 (n := nP s) (by omega) with h | ⟨p, hp, rfl⟩
  · refine ok_bad g ?_ (fun x L1 M1 => ?_)
    · simp (disch := omega) only [fn_182, fn_182_51, fn_177, ↓LCb L, LC L, LV L hv, c10o L hv V I.1 h, eq_self, Nat.le_refl, Nat.lt_irrefl, some_if, Option.bind_some, Option.bind_none, Option.some.injEq, ↓reduceIte, reduceCtorEq, Bool.false_eq_true, Bool.true_eq_false, not_true_eq_false, not_false_eq_true, cmb0, cmb1, Nat.reduceAdd, Nat.reduceMul, Nat.reduceSub, Nat.add_zero, Bool.not_eq_true, Bool.not_eq_false, Nat.reduceEqDiff, Nat.reduceLeDiff, Nat.reduceLT, Int32.reduceLT, Int32.reduceLE, iin_nI, iin_lit, iin_m1, tn_nI, tn_lit, nI_lm, nI_ml, nI_al, nI_la, nI_add, pk_mul, nI_le_l, nI_l_le, nI_lt_l, nI_l_lt, nI_eq_l, nI_l_eq, nI_eqP, nI_leP, nI_ltP, nI_m1, m1_nI, nI_ll, m1_l, l_m1]
    · simp (disch := omega) only [fn_285, LM L1, mWho L1 M1 I.1, h, eq_self, Nat.le_refl, Nat.lt_irrefl, some_if, Option.bind_some, Option.bind_none, Option.some.injEq, ↓reduceIte, reduceCtorEq, Bool.false_eq_true, Bool.true_eq_false, not_true_eq_false, not_false_eq_true, cmb0, cmb1, Nat.reduceAdd, Nat.reduceMul, Nat.reduceSub, Nat.add_zero, Bool.not_eq_true, Bool.not_eq_false, Nat.reduceEqDiff, Nat.reduceLeDiff, Nat.reduceLT, Int32.reduceLT, Int32.reduceLE, iin_nI, iin_lit, iin_m1, tn_nI, tn_lit, nI_lm, nI_ml, nI_al, nI_la, nI_add, pk_mul, nI_le_l, nI_l_le, nI_lt_l, nI_l_lt, nI_eq_l, nI_l_eq, nI_eqP, nI_leP, nI_ltP, nI_m1, m1_nI, nI_ll, m1_l, l_m1]
  obtain ⟨es, hs, hs2⟩ := shs_n I.1 hp
  have e10 := (c10 L hv V I.1 hp).trans (congrArg some es)
  have tt := shs_sg (m := 0) I.1 hp
  by_cases t0 : nT s = 0
  · have z : tn (shs s p) = 0 := by
      rw [tt]
      show sgm _ (nT s) = 0
      rw [t0]; rfl
    refine ok_bad g ?_ (fun x L1 M1 => ?_)
    · simp (disch := omega) only [fn_182, fn_182_51, fn_177, ↓LCb L, LC L, LV L hv, e10, z, eq_self, Nat.le_refl, Nat.lt_irrefl, some_if, Option.bind_some, Option.bind_none, Option.some.injEq, ↓reduceIte, reduceCtorEq, Bool.false_eq_true, Bool.true_eq_false, not_true_eq_false, not_false_eq_true, cmb0, cmb1, Nat.reduceAdd, Nat.reduceMul, Nat.reduceSub, Nat.add_zero, Bool.not_eq_true, Bool.not_eq_false, Nat.reduceEqDiff, Nat.reduceLeDiff, Nat.reduceLT, Int32.reduceLT, Int32.reduceLE, iin_nI, iin_lit, iin_m1, tn_nI, tn_lit, nI_lm, nI_ml, nI_al, nI_la, nI_add, pk_mul, nI_le_l, nI_l_le, nI_lt_l, nI_l_lt, nI_eq_l, nI_l_eq, nI_eqP, nI_leP, nI_ltP, nI_m1, m1_nI, nI_ll, m1_l, l_m1]
    · cases h2 : cm_iin i2 6 <;> cases h3 : cm_iin i3 1000 <;> cases h4 : cm_iin i4 1000 <;> cases h5 : cm_iin (i5 - 1) 20 <;> simp (disch := omega) only [fn_285, LM L1, RM M1, hT.1, mWho L1 M1 I.1, mmon (a := 0) _ L1, e3, e5, h2, h3, h4, h5, t0, eq_self, Nat.le_refl, Nat.lt_irrefl, some_if, Option.bind_some, Option.bind_none, Option.some.injEq, ↓reduceIte, reduceCtorEq, Bool.false_eq_true, Bool.true_eq_false, not_true_eq_false, not_false_eq_true, cmb0, cmb1, Nat.reduceAdd, Nat.reduceMul, Nat.reduceSub, Nat.add_zero, Bool.not_eq_true, Bool.not_eq_false, Nat.reduceEqDiff, Nat.reduceLeDiff, Nat.reduceLT, Int32.reduceLT, Int32.reduceLE, iin_nI, iin_lit, iin_m1, tn_nI, tn_lit, nI_lm, nI_ml, nI_al, nI_la, nI_add, pk_mul, nI_le_l, nI_l_le, nI_lt_l, nI_l_lt, nI_eq_l, nI_l_eq, nI_eqP, nI_leP, nI_ltP, nI_m1, m1_nI, nI_ll, m1_l, l_m1]
  have hs2 := hs2 (by omega)
  have z : ¬ tn (shs s p) ≤ 0 := by omega
  rcases iin_cs i2 (n := 6) (by omega) with h | ⟨m, hm, rfl⟩
  · refine ok_bad g ?_ (fun x L1 M1 => ?_)
    · simp (disch := omega) only [fn_182, fn_182_51, fn_177, bmon, ↓LCb L, LC L, LV L hv, e10, z, h, eq_self, Nat.le_refl, Nat.lt_irrefl, some_if, Option.bind_some, Option.bind_none, Option.some.injEq, ↓reduceIte, reduceCtorEq, Bool.false_eq_true, Bool.true_eq_false, not_true_eq_false, not_false_eq_true, cmb0, cmb1, Nat.reduceAdd, Nat.reduceMul, Nat.reduceSub, Nat.add_zero, Bool.not_eq_true, Bool.not_eq_false, Nat.reduceEqDiff, Nat.reduceLeDiff, Nat.reduceLT, Int32.reduceLT, Int32.reduceLE, iin_nI, iin_lit, iin_m1, tn_nI, tn_lit, nI_lm, nI_ml, nI_al, nI_la, nI_add, pk_mul, nI_le_l, nI_l_le, nI_lt_l, nI_l_lt, nI_eq_l, nI_l_eq, nI_eqP, nI_leP, nI_ltP, nI_m1, m1_nI, nI_ll, m1_l, l_m1]
    · simp (disch := omega) only [fn_285, LM L1, mWho L1 M1 I.1, mmon (a := 0) _ L1, h, eq_self, Nat.le_refl, Nat.lt_irrefl, some_if, Option.bind_some, Option.bind_none, Option.some.injEq, ↓reduceIte, reduceCtorEq, Bool.false_eq_true, Bool.true_eq_false, not_true_eq_false, not_false_eq_true, cmb0, cmb1, Nat.reduceAdd, Nat.reduceMul, Nat.reduceSub, Nat.add_zero, Bool.not_eq_true, Bool.not_eq_false, Nat.reduceEqDiff, Nat.reduceLeDiff, Nat.reduceLT, Int32.reduceLT, Int32.reduceLE, iin_nI, iin_lit, iin_m1, tn_nI, tn_lit, nI_lm, nI_ml, nI_al, nI_la, nI_add, pk_mul, nI_le_l, nI_l_le, nI_lt_l, nI_l_lt, nI_eq_l, nI_l_eq, nI_eqP, nI_leP, nI_ltP, nI_m1, m1_nI, nI_ll, m1_l, l_m1]
  rcases iin_cs i4 (n := 1000) (by omega) with h | ⟨q, hq, rfl⟩
  · refine ok_bad g ?_ (fun x L1 M1 => ?_)
    · simp (disch := omega) only [fn_182, fn_182_51, fn_177, bmon, cpri, ↓LCb L, LC L, LV L hv, e10, z, h, eq_self, Nat.le_refl, Nat.lt_irrefl, some_if, Option.bind_some, Option.bind_none, Option.some.injEq, ↓reduceIte, reduceCtorEq, Bool.false_eq_true, Bool.true_eq_false, not_true_eq_false, not_false_eq_true, cmb0, cmb1, Nat.reduceAdd, Nat.reduceMul, Nat.reduceSub, Nat.add_zero, Bool.not_eq_true, Bool.not_eq_false, Nat.reduceEqDiff, Nat.reduceLeDiff, Nat.reduceLT, Int32.reduceLT, Int32.reduceLE, iin_nI, iin_lit, iin_m1, tn_nI, tn_lit, nI_lm, nI_ml, nI_al, nI_la, nI_add, pk_mul, nI_le_l, nI_l_le, nI_lt_l, nI_l_lt, nI_eq_l, nI_l_eq, nI_eqP, nI_leP, nI_ltP, nI_m1, m1_nI, nI_ll, m1_l, l_m1]
    · cases h3 : cm_iin i3 1000 <;> simp (disch := omega) only [fn_285, LM L1, mWho L1 M1 I.1, mmon (a := 0) _ L1, e3, h, h3, eq_self, Nat.le_refl, Nat.lt_irrefl, some_if, Option.bind_some, Option.bind_none, Option.some.injEq, ↓reduceIte, reduceCtorEq, Bool.false_eq_true, Bool.true_eq_false, not_true_eq_false, not_false_eq_true, cmb0, cmb1, Nat.reduceAdd, Nat.reduceMul, Nat.reduceSub, Nat.add_zero, Bool.not_eq_true, Bool.not_eq_false, Nat.reduceEqDiff, Nat.reduceLeDiff, Nat.reduceLT, Int32.reduceLT, Int32.reduceLE, iin_nI, iin_lit, iin_m1, tn_nI, tn_lit, nI_lm, nI_ml, nI_al, nI_la, nI_add, pk_mul, nI_le_l, nI_l_le, nI_lt_l, nI_l_lt, nI_eq_l, nI_l_eq, nI_eqP, nI_leP, nI_ltP, nI_m1, m1_nI, nI_ll, m1_l, l_m1]
  rcases iin_cs i3 (n := 1000) (by omega) with h | ⟨k0, hk0, rfl⟩
  · refine ok_bad g ?_ (fun x L1 M1 => ?_)
    · rcases iin_f h (by omega) with h3 | h3
      · simp (disch := omega) only [fn_182, fn_182_51, fn_177, bmon, cpri, ↓LCb L, LC L, LV L hv, e10, z, h3, eq_self, Nat.le_refl, Nat.lt_irrefl, some_if, Option.bind_some, Option.bind_none, Option.some.injEq, ↓reduceIte, reduceCtorEq, Bool.false_eq_true, Bool.true_eq_false, not_true_eq_false, not_false_eq_true, cmb0, cmb1, Nat.reduceAdd, Nat.reduceMul, Nat.reduceSub, Nat.add_zero, Bool.not_eq_true, Bool.not_eq_false, Nat.reduceEqDiff, Nat.reduceLeDiff, Nat.reduceLT, Int32.reduceLT, Int32.reduceLE, iin_nI, iin_lit, iin_m1, tn_nI, tn_lit, nI_lm, nI_ml, nI_al, nI_la, nI_add, pk_mul, nI_le_l, nI_l_le, nI_lt_l, nI_l_lt, nI_eq_l, nI_l_eq, nI_eqP, nI_leP, nI_ltP, nI_m1, m1_nI, nI_ll, m1_l, l_m1]
      · have h4 : (999 : Int32) < i3 := by
          refine Int32.lt_of_lt_of_le (show (999 : Int32) < nI 1000 by decide) h3
        by_cases h5 : i3 < 0 <;> simp (disch := omega) only [fn_182, fn_182_51, fn_177, bmon, cpri, ↓LCb L, LC L, LV L hv, e10, z, h4, h5, eq_self, Nat.le_refl, Nat.lt_irrefl, some_if, Option.bind_some, Option.bind_none, Option.some.injEq, ↓reduceIte, reduceCtorEq, Bool.false_eq_true, Bool.true_eq_false, not_true_eq_false, not_false_eq_true, cmb0, cmb1, Nat.reduceAdd, Nat.reduceMul, Nat.reduceSub, Nat.add_zero, Bool.not_eq_true, Bool.not_eq_false, Nat.reduceEqDiff, Nat.reduceLeDiff, Nat.reduceLT, Int32.reduceLT, Int32.reduceLE, iin_nI, iin_lit, iin_m1, tn_nI, tn_lit, nI_lm, nI_ml, nI_al, nI_la, nI_add, pk_mul, nI_le_l, nI_l_le, nI_lt_l, nI_l_lt, nI_eq_l, nI_l_eq, nI_eqP, nI_leP, nI_ltP, nI_m1, m1_nI, nI_ll, m1_l, l_m1]
    · simp (disch := omega) only [fn_285, LM L1, mWho L1 M1 I.1, mmon (a := 0) _ L1, e3, h, eq_self, Nat.le_refl, Nat.lt_irrefl, some_if, Option.bind_some, Option.bind_none, Option.some.injEq, ↓reduceIte, reduceCtorEq, Bool.false_eq_true, Bool.true_eq_false, not_true_eq_false, not_false_eq_true, cmb0, cmb1, Nat.reduceAdd, Nat.reduceMul, Nat.reduceSub, Nat.add_zero, Bool.not_eq_true, Bool.not_eq_false, Nat.reduceEqDiff, Nat.reduceLeDiff, Nat.reduceLT, Int32.reduceLT, Int32.reduceLE, iin_nI, iin_lit, iin_m1, tn_nI, tn_lit, nI_lm, nI_ml, nI_al, nI_la, nI_add, pk_mul, nI_le_l, nI_l_le, nI_lt_l, nI_l_lt, nI_eq_l, nI_l_eq, nI_eqP, nI_leP, nI_ltP, nI_m1, m1_nI, nI_ll, m1_l, l_m1]
  rcases iin_cs (i5 - 1) (n := 20) (by omega) with h | ⟨n, hn, e⟩
  · refine ok_bad g ?_ (fun x L1 M1 => ?_)
    · have k1 : ¬ nI k0 < 0 := nI_pos (by omega)
      have k2 : ¬ 999 < k0 := by omega
      rcases lo1 (by omega) h with h3 | ⟨h3, h4⟩
      · simp (disch := omega) only [fn_182, fn_182_51, fn_177, bmon, cpri, ↓LCb L, LC L, LV L hv, e10, z, k1, k2, h3, eq_self, Nat.le_refl, Nat.lt_irrefl, some_if, Option.bind_some, Option.bind_none, Option.some.injEq, ↓reduceIte, reduceCtorEq, Bool.false_eq_true, Bool.true_eq_false, not_true_eq_false, not_false_eq_true, cmb0, cmb1, Nat.reduceAdd, Nat.reduceMul, Nat.reduceSub, Nat.add_zero, Bool.not_eq_true, Bool.not_eq_false, Nat.reduceEqDiff, Nat.reduceLeDiff, Nat.reduceLT, Int32.reduceLT, Int32.reduceLE, iin_nI, iin_lit, iin_m1, tn_nI, tn_lit, nI_lm, nI_ml, nI_al, nI_la, nI_add, pk_mul, nI_le_l, nI_l_le, nI_lt_l, nI_l_lt, nI_eq_l, nI_l_eq, nI_eqP, nI_leP, nI_ltP, nI_m1, m1_nI, nI_ll, m1_l, l_m1]
      · have h4 : (20 : Int32) < i5 := h4
        simp (disch := omega) only [fn_182, fn_182_51, fn_177, bmon, cpri, ↓LCb L, LC L, LV L hv, e10, z, k1, k2, h3, h4, eq_self, Nat.le_refl, Nat.lt_irrefl, some_if, Option.bind_some, Option.bind_none, Option.some.injEq, ↓reduceIte, reduceCtorEq, Bool.false_eq_true, Bool.true_eq_false, not_true_eq_false, not_false_eq_true, cmb0, cmb1, Nat.reduceAdd, Nat.reduceMul, Nat.reduceSub, Nat.add_zero, Bool.not_eq_true, Bool.not_eq_false, Nat.reduceEqDiff, Nat.reduceLeDiff, Nat.reduceLT, Int32.reduceLT, Int32.reduceLE, iin_nI, iin_lit, iin_m1, tn_nI, tn_lit, nI_lm, nI_ml, nI_al, nI_la, nI_add, pk_mul, nI_le_l, nI_l_le, nI_lt_l, nI_l_lt, nI_eq_l, nI_l_eq, nI_eqP, nI_leP, nI_ltP, nI_m1, m1_nI, nI_ll, m1_l, l_m1]
    · simp (disch := omega) only [fn_285, LM L1, mWho L1 M1 I.1, mmon (a := 0) _ L1, e3, e5, h, eq_self, Nat.le_refl, Nat.lt_irrefl, some_if, Option.bind_some, Option.bind_none, Option.some.injEq, ↓reduceIte, reduceCtorEq, Bool.false_eq_true, Bool.true_eq_false, not_true_eq_false, not_false_eq_true, cmb0, cmb1, Nat.reduceAdd, Nat.reduceMul, Nat.reduceSub, Nat.add_zero, Bool.not_eq_true, Bool.not_eq_false, Nat.reduceEqDiff, Nat.reduceLeDiff, Nat.reduceLT, Int32.reduceLT, Int32.reduceLE, iin_nI, iin_lit, iin_m1, tn_nI, tn_lit, nI_lm, nI_ml, nI_al, nI_la, nI_add, pk_mul, nI_le_l, nI_l_le, nI_lt_l, nI_l_lt, nI_eq_l, nI_l_eq, nI_eqP, nI_leP, nI_ltP, nI_m1, m1_nI, nI_ll, m1_l, l_m1]
  have e6 : i5 = nI (n + 1) := by
    have : i5 = nI n + 1 := by rw [← e]; grind
    rw [this, nI_1]
  subst e6
  obtain ⟨y, c', a1, F⟩ := ls13 L hv V I.1 hp hm (k0 := k0) (q := q) (n := n + 1) (b := tn (shs s p)) hk0 hq (by omega) es hs2 (by omega)
  refine ok_ro (c' := c') (r := (lsS (lsD s p m q k0 (n + 1)) 1000 / 100000000).toInt32) g ⟨y, ?_, F⟩ (fun x L1 M1 _ => ?_)
  · have k1 : ¬ nI k0 < 0 := nI_pos (by omega)
    have k2 : ¬ 999 < k0 := by omega
    have k3 : ¬ n + 1 < 1 := by omega
    have k4 : ¬ 20 < n + 1 := by omega
    simp (disch := omega) only [fn_182, fn_177, bmon, cpri, ↓LCb L, LC L, LV L hv, e10, z, k1, k2, k3, k4, a1, eq_self, Nat.le_refl, Nat.lt_irrefl, some_if, Option.bind_some, Option.bind_none, Option.some.injEq, ↓reduceIte, reduceCtorEq, Bool.false_eq_true, Bool.true_eq_false, not_true_eq_false, not_false_eq_true, cmb0, cmb1, Nat.reduceAdd, Nat.reduceMul, Nat.reduceSub, Nat.add_zero, Bool.not_eq_true, Bool.not_eq_false, Nat.reduceEqDiff, Nat.reduceLeDiff, Nat.reduceLT, Int32.reduceLT, Int32.reduceLE, iin_nI, iin_lit, iin_m1, tn_nI, tn_lit, nI_lm, nI_ml, nI_al, nI_la, nI_add, pk_mul, nI_le_l, nI_l_le, nI_lt_l, nI_l_lt, nI_eq_l, nI_l_eq, nI_eqP, nI_leP, nI_ltP, nI_m1, m1_nI, nI_ll, m1_l, l_m1]
  · obtain ⟨y', b1, G⟩ := ls285 L1 M1 I.1 hp hm (k0 := k0) (q := q) (n := n + 1) (b := tn (shs s p)) hk0 hq (by omega) es hs2 (by omega)
    refine ⟨y', ?_, G⟩
    simp (disch := omega) only [fn_285, LM L1, RM M1, hT.1, mWho L1 M1 I.1, mmon (a := 0) _ L1, e3, e5, e, t0, b1, eq_self, Nat.le_refl, Nat.lt_irrefl, some_if, Option.bind_some, Option.bind_none, Option.some.injEq, ↓reduceIte, reduceCtorEq, Bool.false_eq_true, Bool.true_eq_false, not_true_eq_false, not_false_eq_true, cmb0, cmb1, Nat.reduceAdd, Nat.reduceMul, Nat.reduceSub, Nat.add_zero, Bool.not_eq_true, Bool.not_eq_false, Nat.reduceEqDiff, Nat.reduceLeDiff, Nat.reduceLT, Int32.reduceLT, Int32.reduceLE, iin_nI, iin_lit, iin_m1, tn_nI, tn_lit, nI_lm, nI_ml, nI_al, nI_la, nI_add, pk_mul, nI_le_l, nI_l_le, nI_lt_l, nI_l_lt, nI_eq_l, nI_l_eq, nI_eqP, nI_leP, nI_ltP, nI_m1, m1_nI, nI_ll, m1_l, l_m1]
end LST3
