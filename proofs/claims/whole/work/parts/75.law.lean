/-! lost and law -/
section LAW
variable {v c u n m l : Nat} {w w' : cm_W} {s s' : St}
theorem dmp_cg {i i' j j' : Int32} (n t : Nat) (h : ∀ p t, tog s l i j p t = tog s l i' j' p t) : dmp s l i j n t = dmp s l i' j' n t := by
  unfold dmp
  split
  · exact sgm_cg _ fun p _ => by rw [h]
  · rfl
theorem mkt_cg {i i' j j' : Int32} (h : ∀ p t, tog s l i j p t = tog s l i' j' p t) : mkt s l i j m = mkt s l i' j' m := by
  rw [mkt_mm, mkt_mm]
  have : dmp s l i j (nP s) = dmp s l i' j' (nP s) := funext fun t => dmp_cg _ t h
  rw [this]
theorem m275 (L : Lay v c w) (R : RelM w s) (I : InvV s) (hl : 2 ≤ l ∧ l < 4) {p : Nat} (hp : p < nT s) : fn_275 w 96 (nI l) (nI p) = some (bgn s l p) := by
  have hT := I.1
  have e0 : bgn s l p = decide (p < nT s ∧ ∀ t, t < p → tog s l (-1) (nI t) 0 p = false) := by
    unfold bgn
    rw [if_neg (by omega), if_neg (by omega)]
  rw [e0]
  refine up_0 (fun n k (a : Int32) => fn_275_5 w n 96 (nI l) (nI p) a (nI k)) p (fun k a => (a = 1 ∧ ∀ t, t < k → tog s l (-1) (nI t) 0 p = false) ∨ (a = 0 ∧ ∃ t, t < k ∧ tog s l (-1) (nI t) 0 p = true)) (fun o => o = _) 1 (by omega) (Or.inl ⟨rfl, fun t h => by omega⟩) (fun n k a hk ha => Or.inr ?_) (fun n a ha => ?_)
  · have hk' : ¬ p ≤ k := by omega
    rcases ha with ⟨rfl, ha⟩ | ⟨rfl, t, ht, ha⟩
    · have tt : tn (nI k) = k := tn_nIe (by omega)
      have tg : tog s l (-1) (nI k) 0 p = if l = 2 then decide (s 102 k = s 102 p) else decide (s 101 k = s 101 p) := by
        unfold tog
        rw [if_neg (by omega), if_neg (by omega), tt]
      cases z : tog s l (-1) (nI k) 0 p
      · refine ⟨1, Or.inl ⟨rfl, fun t ht => ?_⟩, ?_⟩
        · by_cases q : t = k
          · subst q; exact z
          · exact ha t (by omega)
        · rw [tg] at z
          rcases (show l = 2 ∨ l = 3 by omega) with rfl | rfl
          · have q := of_decide_eq_false z
            simp (disch := omega) only [fn_275_5, fn_275_55, ↓LMb L, LM L, RM R, hk', q, eq_self, Nat.le_refl, Nat.lt_irrefl, some_if, Option.bind_some, Option.bind_none, Option.some.injEq, ↓reduceIte, reduceCtorEq, Bool.false_eq_true, Bool.true_eq_false, not_true_eq_false, not_false_eq_true, cmb0, cmb1, Nat.reduceAdd, Nat.reduceMul, Nat.reduceSub, Nat.add_zero, Bool.not_eq_true, Bool.not_eq_false, Nat.reduceEqDiff, Nat.reduceLeDiff, Nat.reduceLT, Int32.reduceLT, Int32.reduceLE, iin_nI, iin_lit, iin_m1, tn_nI, tn_lit, nI_lm, nI_ml, nI_al, nI_la, nI_add, pk_mul, nI_le_l, nI_l_le, nI_lt_l, nI_l_lt, nI_eq_l, nI_l_eq, nI_eqP, nI_leP, nI_ltP, nI_m1, m1_nI, nI_ll, m1_l, l_m1]
          · have q := of_decide_eq_false z
            simp (disch := omega) only [fn_275_5, fn_275_39, fn_275_55, ↓LMb L, LM L, RM R, hk', q, eq_self, Nat.le_refl, Nat.lt_irrefl, some_if, Option.bind_some, Option.bind_none, Option.some.injEq, ↓reduceIte, reduceCtorEq, Bool.false_eq_true, Bool.true_eq_false, not_true_eq_false, not_false_eq_true, cmb0, cmb1, Nat.reduceAdd, Nat.reduceMul, Nat.reduceSub, Nat.add_zero, Bool.not_eq_true, Bool.not_eq_false, Nat.reduceEqDiff, Nat.reduceLeDiff, Nat.reduceLT, Int32.reduceLT, Int32.reduceLE, iin_nI, iin_lit, iin_m1, tn_nI, tn_lit, nI_lm, nI_ml, nI_al, nI_la, nI_add, pk_mul, nI_le_l, nI_l_le, nI_lt_l, nI_l_lt, nI_eq_l, nI_l_eq, nI_eqP, nI_leP, nI_ltP, nI_m1, m1_nI, nI_ll, m1_l, l_m1]
      · refine ⟨0, Or.inr ⟨rfl, k, by omega, z⟩, ?_⟩
        rw [tg] at z
        rcases (show l = 2 ∨ l = 3 by omega) with rfl | rfl
        · have q := of_decide_eq_true z
          simp (disch := omega) only [fn_275_5, fn_275_59, ↓LMb L, LM L, RM R, hk', q, eq_self, Nat.le_refl, Nat.lt_irrefl, some_if, Option.bind_some, Option.bind_none, Option.some.injEq, ↓reduceIte, reduceCtorEq, Bool.false_eq_true, Bool.true_eq_false, not_true_eq_false, not_false_eq_true, cmb0, cmb1, Nat.reduceAdd, Nat.reduceMul, Nat.reduceSub, Nat.add_zero, Bool.not_eq_true, Bool.not_eq_false, Nat.reduceEqDiff, Nat.reduceLeDiff, Nat.reduceLT, Int32.reduceLT, Int32.reduceLE, iin_nI, iin_lit, iin_m1, tn_nI, tn_lit, nI_lm, nI_ml, nI_al, nI_la, nI_add, pk_mul, nI_le_l, nI_l_le, nI_lt_l, nI_l_lt, nI_eq_l, nI_l_eq, nI_eqP, nI_leP, nI_ltP, nI_m1, m1_nI, nI_ll, m1_l, l_m1]
        · have q := of_decide_eq_true z
          simp (disch := omega) only [fn_275_5, fn_275_39, fn_275_59, ↓LMb L, LM L, RM R, hk', q, eq_self, Nat.le_refl, Nat.lt_irrefl, some_if, Option.bind_some, Option.bind_none, Option.some.injEq, ↓reduceIte, reduceCtorEq, Bool.false_eq_true, Bool.true_eq_false, not_true_eq_false, not_false_eq_true, cmb0, cmb1, Nat.reduceAdd, Nat.reduceMul, Nat.reduceSub, Nat.add_zero, Bool.not_eq_true, Bool.not_eq_false, Nat.reduceEqDiff, Nat.reduceLeDiff, Nat.reduceLT, Int32.reduceLT, Int32.reduceLE, iin_nI, iin_lit, iin_m1, tn_nI, tn_lit, nI_lm, nI_ml, nI_al, nI_la, nI_add, pk_mul, nI_le_l, nI_l_le, nI_lt_l, nI_l_lt, nI_eq_l, nI_l_eq, nI_eqP, nI_leP, nI_ltP, nI_m1, m1_nI, nI_ll, m1_l, l_m1]
    · refine ⟨0, Or.inr ⟨rfl, t, by omega, ha⟩, ?_⟩
      simp (disch := omega) only [fn_275_5, fn_275_59, hk', eq_self, Nat.le_refl, Nat.lt_irrefl, some_if, Option.bind_some, Option.bind_none, Option.some.injEq, ↓reduceIte, reduceCtorEq, Bool.false_eq_true, Bool.true_eq_false, not_true_eq_false, not_false_eq_true, cmb0, cmb1, Nat.reduceAdd, Nat.reduceMul, Nat.reduceSub, Nat.add_zero, Bool.not_eq_true, Bool.not_eq_false, Nat.reduceEqDiff, Nat.reduceLeDiff, Nat.reduceLT, Int32.reduceLT, Int32.reduceLE, iin_nI, iin_lit, iin_m1, tn_nI, tn_lit, nI_lm, nI_ml, nI_al, nI_la, nI_add, pk_mul, nI_le_l, nI_l_le, nI_lt_l, nI_l_lt, nI_eq_l, nI_l_eq, nI_eqP, nI_leP, nI_ltP, nI_m1, m1_nI, nI_ll, m1_l, l_m1]
  · rcases ha with ⟨rfl, ha⟩ | ⟨rfl, t, ht, ha⟩
    · rw [decide_eq_true ⟨hp, ha⟩]
      simp (disch := omega) only [fn_275_5, or_true, decide_true, eq_self, Nat.le_refl, Nat.lt_irrefl, some_if, Option.bind_some, Option.bind_none, Option.some.injEq, ↓reduceIte, reduceCtorEq, Bool.false_eq_true, Bool.true_eq_false, not_true_eq_false, not_false_eq_true, cmb0, cmb1, Nat.reduceAdd, Nat.reduceMul, Nat.reduceSub, Nat.add_zero, Bool.not_eq_true, Bool.not_eq_false, Nat.reduceEqDiff, Nat.reduceLeDiff, Nat.reduceLT, Int32.reduceLT, Int32.reduceLE, iin_nI, iin_lit, iin_m1, tn_nI, tn_lit, nI_lm, nI_ml, nI_al, nI_la, nI_add, pk_mul, nI_le_l, nI_l_le, nI_lt_l, nI_l_lt, nI_eq_l, nI_l_eq, nI_eqP, nI_leP, nI_ltP, nI_m1, m1_nI, nI_ll, m1_l, l_m1]
    · rw [decide_eq_false (fun h => by have := h.2 t ht; rw [ha] at this; cases this)]
      simp (disch := omega) only [fn_275_5, true_or, decide_false, eq_self, Nat.le_refl, Nat.lt_irrefl, some_if, Option.bind_some, Option.bind_none, Option.some.injEq, ↓reduceIte, reduceCtorEq, Bool.false_eq_true, Bool.true_eq_false, not_true_eq_false, not_false_eq_true, cmb0, cmb1, Nat.reduceAdd, Nat.reduceMul, Nat.reduceSub, Nat.add_zero, Bool.not_eq_true, Bool.not_eq_false, Nat.reduceEqDiff, Nat.reduceLeDiff, Nat.reduceLT, Int32.reduceLT, Int32.reduceLE, iin_nI, iin_lit, iin_m1, tn_nI, tn_lit, nI_lm, nI_ml, nI_al, nI_la, nI_add, pk_mul, nI_le_l, nI_l_le, nI_lt_l, nI_l_lt, nI_eq_l, nI_l_eq, nI_eqP, nI_leP, nI_ltP, nI_m1, m1_nI, nI_ll, m1_l, l_m1]
theorem ptot_ext (hl : l < 4) (I : InvV s) : ptot s l m 12 = ptot s l m (pcnt s l) ∧ plost s l m 12 = plost s l m (pcnt s l) := by
  have h1 := I.1
  have h2 := I.2.1
  have hc : pcnt s l ≤ 12 := by
    unfold pcnt
    split
    · omega
    · split <;> omega
  refine ⟨sgm_ext hc fun p hp => ?_, sgm_ext hc fun p hp => ?_⟩
  · rw [bgn_pc hl hp]; rfl
  · rw [bgn_pc hl hp]; rfl
/-- when there are things and people, something is offered somewhere -/
theorem ptot_pos (I : InvV s) (hl : l < 4) (h1 : 0 < nT s) (h2 : 0 < nP s) : 0 < ptot s l m 12 := by
  have hT := I.1
  have hP := I.2.1
  obtain ⟨-, -, h3⟩ := I.2.2.2.2.2.1 0 h2
  obtain ⟨t, ht, h4⟩ := h3 h1
  obtain ⟨e, h5⟩ := sh_n I h2 ht
  obtain ⟨-, h6, h7⟩ := shs_n I h2
  have mp : 0 < mil s 0 t := by
    unfold mil
    have a1 : tn (s 107 (8 * 0 + t)) ≠ 0 := fun z => h4 (by rw [e, z]; rfl)
    exact Nat.div_pos (by omega) (h7 h1)
  -- the pool that it lies in
  have pl : ∃ p, p < 12 ∧ bgn s l p = true ∧ tog s l (nI p) (nI p) 0 t = true := by
    by_cases l0 : l = 0
    · subst l0; exact ⟨0, by omega, rfl, rfl⟩
    by_cases l1 : l = 1
    · subst l1; exact ⟨0, by omega, decide_eq_true h2, rfl⟩
    have tg : ∀ x i p y, x < nT s → tog s l i (nI x) p y = if l = 2 then decide (s 102 x = s 102 y) else decide (s 101 x = s 101 y) := fun x i p y hx => by
      unfold tog
      rw [if_neg l0, if_neg l1, tn_nIe (show x < 2147483648 by omega)]
    have tr : tog s l (-1) (nI t) 0 t = true := by
      rw [tg _ _ _ _ ht]; split <;> exact decide_eq_true rfl
    obtain ⟨p, q1, q2⟩ := pk_least (fun p => p < nT s ∧ tog s l (-1) (nI p) 0 t = true) ⟨t, ht, tr⟩
    refine ⟨p, by omega, ?_, ?_⟩
    · unfold bgn
      rw [if_neg l0, if_neg l1]
      refine decide_eq_true ⟨q1.1, fun x hx => ?_⟩
      cases z : tog s l (-1) (nI x) 0 p
      · rfl
      · refine absurd ⟨by omega, ?_⟩ (q2 x hx)
        have q3 := q1.2
        rw [tg _ _ _ _ q1.1] at q3
        rw [tg _ _ _ _ (by omega)] at z ⊢
        by_cases l2 : l = 2
        · rw [if_pos l2] at q3 z ⊢
          exact decide_eq_true ((of_decide_eq_true z).trans (of_decide_eq_true q3))
        · rw [if_neg l2] at q3 z ⊢
          exact decide_eq_true ((of_decide_eq_true z).trans (of_decide_eq_true q3))
    · rw [tg _ _ _ _ q1.1, ← tg _ (-1) 0 _ q1.1]; exact q1.2
  obtain ⟨p, p1, p2, p3⟩ := pl
  refine sgm_pos 12 p p1 ?_
  show 0 < if bgn s l p = true then (pm s l m p).tot else 0
  rw [if_pos p2]
  refine sgm_pos (nT s) t ht ?_
  show 0 < if t < nT s then dm s l (nI p) (nI p) t else 0
  rw [if_pos ht]
  refine sgm_pos (nP s) 0 h2 ?_
  show 0 < if tog s l (nI p) (nI p) 0 t = true then mil s 0 t else 0
  rw [if_pos p3]
  exact mp
theorem lostv_n (I : InvV s) (hl : l < 4) (hm : m < 6) (h1 : 0 < nT s) (h2 : 0 < nP s) : ∃ k, k < 100000 ∧ lostv s l m = nI k := by
  have b := plost_le (s := s) (l := l) (m := m) I hm 12
  have p := ptot_pos (m := m) I hl h1 h2
  refine ⟨_, ?_, if_neg (by omega)⟩
  rw [Nat.div_lt_iff_lt_mul p]
  omega
theorem lostv_0 (I : InvV s) (hl : l < 4) (h : nT s = 0 ∨ nP s = 0) : lostv s l m = -1 := by
  refine if_pos (sgm_0 12 fun p hp => ?_)
  show (if bgn s l p = true then (pm s l m p).tot else 0) = 0
  split
  · refine sgm_0 _ fun t ht => ?_
    have ht : t < nT s := ht
    show (if t < nT s then dm s l (nI p) (nI p) t else 0) = 0
    rw [if_pos ht]
    refine sgm_0 _ fun q hq => ?_
    omega
  · rfl
theorem m276 (L : Lay v c w) (R : RelM w s) (I : InvV s) (hl : l < 4) (hm : m < 6) : ∃ y, fn_276 96 (nI l) (nI m) w = some (lostv s l m, y) ∧ FM v c w y s := by
  have hT := I.1
  have hP := I.2.1
  have F0 : FM v c w (cm_sL (cm_sL w 96 67 0) 96 68 0) s := ((FM.rf L R).sL (by omega) (by omega) (by omega)).sL (by omega) (by omega) (by omega)
  have e0 : fn_276 96 (nI l) (nI m) w = fn_276_38 cm_N 96 (nI l) (nI m) (nI (pcnt s l)) 0 (cm_sL (cm_sL w 96 67 0) 96 68 0) := by
    unfold pcnt
    by_cases l0 : l = 0
    · subst l0
      rw [if_pos rfl]
      simp (disch := omega) only [fn_276, LM L, cm_w2, Nat.reduceLeDiff, Nat.reduceLT, decide_true, Bool.and_self, Bool.and_true, eq_self, Nat.le_refl, Nat.lt_irrefl, some_if, Option.bind_some, Option.bind_none, Option.some.injEq, ↓reduceIte, reduceCtorEq, Bool.false_eq_true, Bool.true_eq_false, not_true_eq_false, not_false_eq_true, cmb0, cmb1, Nat.reduceAdd, Nat.reduceMul, Nat.reduceSub, Nat.add_zero, Bool.not_eq_true, Bool.not_eq_false, Nat.reduceEqDiff, Nat.reduceLeDiff, Nat.reduceLT, Int32.reduceLT, Int32.reduceLE, iin_nI, iin_lit, iin_m1, tn_nI, tn_lit, nI_lm, nI_ml, nI_al, nI_la, nI_add, pk_mul, nI_le_l, nI_l_le, nI_lt_l, nI_l_lt, nI_eq_l, nI_l_eq, nI_eqP, nI_leP, nI_ltP, nI_m1, m1_nI, nI_ll, m1_l, l_m1]
      rfl
    by_cases l1 : l = 1
    · subst l1
      rw [if_neg l0, if_pos rfl]
      simp (disch := omega) only [fn_276, fn_276_18, LM L, LM F0.1, RM F0.2.1, hP.1, cm_w2, Nat.reduceLeDiff, Nat.reduceLT, decide_true, Bool.and_self, Bool.and_true, eq_self, Nat.le_refl, Nat.lt_irrefl, some_if, Option.bind_some, Option.bind_none, Option.some.injEq, ↓reduceIte, reduceCtorEq, Bool.false_eq_true, Bool.true_eq_false, not_true_eq_false, not_false_eq_true, cmb0, cmb1, Nat.reduceAdd, Nat.reduceMul, Nat.reduceSub, Nat.add_zero, Bool.not_eq_true, Bool.not_eq_false, Nat.reduceEqDiff, Nat.reduceLeDiff, Nat.reduceLT, Int32.reduceLT, Int32.reduceLE, iin_nI, iin_lit, iin_m1, tn_nI, tn_lit, nI_lm, nI_ml, nI_al, nI_la, nI_add, pk_mul, nI_le_l, nI_l_le, nI_lt_l, nI_l_lt, nI_eq_l, nI_l_eq, nI_eqP, nI_leP, nI_ltP, nI_m1, m1_nI, nI_ll, m1_l, l_m1]
    · rw [if_neg l0, if_neg l1]
      simp (disch := omega) only [fn_276, fn_276_18, fn_276_30, LM L, LM F0.1, RM F0.2.1, hT.1, l0, l1, cm_w2, Nat.reduceLeDiff, Nat.reduceLT, decide_true, Bool.and_self, Bool.and_true, eq_self, Nat.le_refl, Nat.lt_irrefl, some_if, Option.bind_some, Option.bind_none, Option.some.injEq, ↓reduceIte, reduceCtorEq, Bool.false_eq_true, Bool.true_eq_false, not_true_eq_false, not_false_eq_true, cmb0, cmb1, Nat.reduceAdd, Nat.reduceMul, Nat.reduceSub, Nat.add_zero, Bool.not_eq_true, Bool.not_eq_false, Nat.reduceEqDiff, Nat.reduceLeDiff, Nat.reduceLT, Int32.reduceLT, Int32.reduceLE, iin_nI, iin_lit, iin_m1, tn_nI, tn_lit, nI_lm, nI_ml, nI_al, nI_la, nI_add, pk_mul, nI_le_l, nI_l_le, nI_lt_l, nI_l_lt, nI_eq_l, nI_l_eq, nI_eqP, nI_leP, nI_ltP, nI_m1, m1_nI, nI_ll, m1_l, l_m1]
  rw [e0]
  have hc : pcnt s l ≤ 12 := by
    unfold pcnt
    split
    · omega
    · split <;> omega
  obtain ⟨x1, x2⟩ := ptot_ext (m := m) hl I
  refine up_0 (fun n k a => fn_276_38 n 96 (nI l) (nI m) (nI (pcnt s l)) (nI k) a) (pcnt s l) (fun k a => FM v c w a s ∧ cm_L a 96 67 = lN (plost s l m k) ∧ cm_L a 96 68 = lN (ptot s l m k)) (fun o => ∃ y, o = some (lostv s l m, y) ∧ FM v c w y s) _ (by omega) ⟨F0, ?_, ?_⟩ (fun n p a hp ha => Or.inr ?_) (fun n a ha => ?_)
  · rw [L_nk (by omega), L_eq]; rfl
  · rw [L_eq]; rfl
  · obtain ⟨F, h67, h68⟩ := ha
    have hp' : ¬ pcnt s l ≤ p := by omega
    have s1 : plost s l m (p + 1) = plost s l m p + if bgn s l p then (pm s l m p).lost else 0 := rfl
    have s2 : ptot s l m (p + 1) = ptot s l m p + if bgn s l p then (pm s l m p).tot else 0 := rfl
    have main : ∀ i j : Int32, (l < 2 ∨ l < 4 ∧ ∃ t0, t0 < nT s ∧ j = nI t0) → (∀ q t, tog s l i j q t = tog s l (nI p) (nI p) q t) → bgn s l p = true →
        (∀ y1 y2, fn_269 96 (nI l) i j a = some y1 → Lay v c y1 → fn_274 96 (nI m) y1 = some y2 → fn_276_38 (n + 1) 96 (nI l) (nI m) (nI (pcnt s l)) (nI p) a = fn_276_38 n 96 (nI l) (nI m) (nI (pcnt s l)) (nI (p + 1)) y2) →
        ∃ a', (FM v c w a' s ∧ cm_L a' 96 67 = lN (plost s l m (p + 1)) ∧ cm_L a' 96 68 = lN (ptot s l m (p + 1))) ∧ fn_276_38 (n + 1) 96 (nI l) (nI m) (nI (pcnt s l)) (nI p) a = fn_276_38 n 96 (nI l) (nI m) (nI (pcnt s l)) (nI (p + 1)) a' := by
      intro i j hij tg z go
      obtain ⟨y1, b1, G1, -, b3, b2⟩ := m269 F.1 F.2.1 I (i := i) hij
      have O := mkt_ok I (l := l) (m := m) (i := i) (j := j) hm
      obtain ⟨y2, d1, G2, d3, d4⟩ := m274 G1.1 G1.2.1 I (D := dmp s l i j (nP s)) b2 O hm
      rw [← mkt_mm, mkt_cg tg] at d3 d4
      rw [if_pos z] at s1 s2
      refine ⟨y2, ⟨(F.tr G1).tr G2, ?_, ?_⟩, go y1 y2 b1 G1.1 d1⟩
      · rw [d3, b3 96 (by omega), h67, lN_add, s1]; rfl
      · rw [d4, b3 96 (by omega), h68, lN_add, s2]; rfl
    by_cases l0 : l = 0
    · subst l0
      have p0 : p = 0 := by
        have : pcnt s 0 = 1 := rfl
        omega
      subst p0
      refine main 0 0 (Or.inl (by omega)) (fun q t => rfl) rfl (fun y1 y2 h1 h2 h3 => ?_)
      simp (disch := omega) only [fn_276_38, fn_276_62, fn_276_94, hp', LM F.1, h1, LM h2, h3, eq_self, Nat.le_refl, Nat.lt_irrefl, some_if, Option.bind_some, Option.bind_none, Option.some.injEq, ↓reduceIte, reduceCtorEq, Bool.false_eq_true, Bool.true_eq_false, not_true_eq_false, not_false_eq_true, cmb0, cmb1, Nat.reduceAdd, Nat.reduceMul, Nat.reduceSub, Nat.add_zero, Bool.not_eq_true, Bool.not_eq_false, Nat.reduceEqDiff, Nat.reduceLeDiff, Nat.reduceLT, Int32.reduceLT, Int32.reduceLE, iin_nI, iin_lit, iin_m1, tn_nI, tn_lit, nI_lm, nI_ml, nI_al, nI_la, nI_add, pk_mul, nI_le_l, nI_l_le, nI_lt_l, nI_l_lt, nI_eq_l, nI_l_eq, nI_eqP, nI_leP, nI_ltP, nI_m1, m1_nI, nI_ll, m1_l, l_m1]
    by_cases l1 : l = 1
    · subst l1
      have hp2 : p < nP s := hp
      refine main (nI p) 0 (Or.inl (by omega)) (fun q t => rfl) (decide_eq_true hp2) (fun y1 y2 h1 h2 h3 => ?_)
      simp (disch := omega) only [fn_276_38, fn_276_62, fn_276_94, hp', LM F.1, h1, LM h2, h3, eq_self, Nat.le_refl, Nat.lt_irrefl, some_if, Option.bind_some, Option.bind_none, Option.some.injEq, ↓reduceIte, reduceCtorEq, Bool.false_eq_true, Bool.true_eq_false, not_true_eq_false, not_false_eq_true, cmb0, cmb1, Nat.reduceAdd, Nat.reduceMul, Nat.reduceSub, Nat.add_zero, Bool.not_eq_true, Bool.not_eq_false, Nat.reduceEqDiff, Nat.reduceLeDiff, Nat.reduceLT, Int32.reduceLT, Int32.reduceLE, iin_nI, iin_lit, iin_m1, tn_nI, tn_lit, nI_lm, nI_ml, nI_al, nI_la, nI_add, pk_mul, nI_le_l, nI_l_le, nI_lt_l, nI_l_lt, nI_eq_l, nI_l_eq, nI_eqP, nI_leP, nI_ltP, nI_m1, m1_nI, nI_ll, m1_l, l_m1]
    · have hp2 : p < nT s := by
        unfold pcnt at hp
        rw [if_neg l0, if_neg l1] at hp
        exact hp
      have e := m275 F.1 F.2.1 I (l := l) (by omega) hp2
      by_cases z : bgn s l p = true
      · rw [z] at e
        refine main 0 (nI p) (Or.inr ⟨hl, p, hp2, rfl⟩) (fun q t => tog_l (by omega)) z (fun y1 y2 h1 h2 h3 => ?_)
        have l2 : ¬ l ≤ 1 := by omega
        simp (disch := omega) only [fn_276_38, fn_276_62, fn_276_94, hp', l1, l2, e, LM F.1, h1, LM h2, h3, eq_self, Nat.le_refl, Nat.lt_irrefl, some_if, Option.bind_some, Option.bind_none, Option.some.injEq, ↓reduceIte, reduceCtorEq, Bool.false_eq_true, Bool.true_eq_false, not_true_eq_false, not_false_eq_true, cmb0, cmb1, Nat.reduceAdd, Nat.reduceMul, Nat.reduceSub, Nat.add_zero, Bool.not_eq_true, Bool.not_eq_false, Nat.reduceEqDiff, Nat.reduceLeDiff, Nat.reduceLT, Int32.reduceLT, Int32.reduceLE, iin_nI, iin_lit, iin_m1, tn_nI, tn_lit, nI_lm, nI_ml, nI_al, nI_la, nI_add, pk_mul, nI_le_l, nI_l_le, nI_lt_l, nI_l_lt, nI_eq_l, nI_l_eq, nI_eqP, nI_leP, nI_ltP, nI_m1, m1_nI, nI_ll, m1_l, l_m1]
      · have z2 : bgn s l p = false := by rw [Bool.not_eq_true] at z; exact z
        rw [z2] at e
        rw [if_neg z] at s1 s2
        refine ⟨a, ⟨F, by rw [h67, s1]; rfl, by rw [h68, s2]; rfl⟩, ?_⟩
        have l2 : ¬ l ≤ 1 := by omega
        simp (disch := omega) only [fn_276_38, fn_276_94, hp', l2, e, LM F.1, eq_self, Nat.le_refl, Nat.lt_irrefl, some_if, Option.bind_some, Option.bind_none, Option.some.injEq, ↓reduceIte, reduceCtorEq, Bool.false_eq_true, Bool.true_eq_false, not_true_eq_false, not_false_eq_true, cmb0, cmb1, Nat.reduceAdd, Nat.reduceMul, Nat.reduceSub, Nat.add_zero, Bool.not_eq_true, Bool.not_eq_false, Nat.reduceEqDiff, Nat.reduceLeDiff, Nat.reduceLT, Int32.reduceLT, Int32.reduceLE, iin_nI, iin_lit, iin_m1, tn_nI, tn_lit, nI_lm, nI_ml, nI_al, nI_la, nI_add, pk_mul, nI_le_l, nI_l_le, nI_lt_l, nI_l_lt, nI_eq_l, nI_l_eq, nI_eqP, nI_leP, nI_ltP, nI_m1, m1_nI, nI_ll, m1_l, l_m1]
  · obtain ⟨F, h67, h68⟩ := ha
    rw [← x2] at h67
    rw [← x1] at h68
    refine ⟨a, ?_, F⟩
    have b1 := ptot_le (s := s) (l := l) (m := m) I 12
    have b2 := plost_le (s := s) (l := l) (m := m) I hm 12
    unfold lostv
    by_cases z : ptot s l m 12 = 0
    · simp (disch := omega) only [fn_276_38, fn_276_100, LM F.1, h68, lgc_eq, leq0, z, eq_self, Nat.le_refl, Nat.lt_irrefl, some_if, Option.bind_some, Option.bind_none, Option.some.injEq, ↓reduceIte, reduceCtorEq, Bool.false_eq_true, Bool.true_eq_false, not_true_eq_false, not_false_eq_true, cmb0, cmb1, Nat.reduceAdd, Nat.reduceMul, Nat.reduceSub, Nat.add_zero, Bool.not_eq_true, Bool.not_eq_false, Nat.reduceEqDiff, Nat.reduceLeDiff, Nat.reduceLT, Int32.reduceLT, Int32.reduceLE, iin_nI, iin_lit, iin_m1, tn_nI, tn_lit, nI_lm, nI_ml, nI_al, nI_la, nI_add, pk_mul, nI_le_l, nI_l_le, nI_lt_l, nI_l_lt, nI_eq_l, nI_l_eq, nI_eqP, nI_leP, nI_ltP, nI_m1, m1_nI, nI_ll, m1_l, l_m1]
    · rw [if_neg z]
      have e1 : 100 * lN (plost s l m 12) / lN (ptot s l m 12) = lN (plost s l m 12 * 100 / ptot s l m 12) := by
        rw [show (100 : Int64) = lN 100 from rfl, lN_mul, pk_lDiv (by omega) (by omega) (by omega), Nat.mul_comm]
      simp (disch := omega) only [fn_276_38, fn_276_100, fn_276_113, LM F.1, h67, h68, lgc_eq, leq0, z, e1, lN_i, eq_self, Nat.le_refl, Nat.lt_irrefl, some_if, Option.bind_some, Option.bind_none, Option.some.injEq, ↓reduceIte, reduceCtorEq, Bool.false_eq_true, Bool.true_eq_false, not_true_eq_false, not_false_eq_true, cmb0, cmb1, Nat.reduceAdd, Nat.reduceMul, Nat.reduceSub, Nat.add_zero, Bool.not_eq_true, Bool.not_eq_false, Nat.reduceEqDiff, Nat.reduceLeDiff, Nat.reduceLT, Int32.reduceLT, Int32.reduceLE, iin_nI, iin_lit, iin_m1, tn_nI, tn_lit, nI_lm, nI_ml, nI_al, nI_la, nI_add, pk_mul, nI_le_l, nI_l_le, nI_lt_l, nI_l_lt, nI_eq_l, nI_l_eq, nI_eqP, nI_leP, nI_ltP, nI_m1, m1_nI, nI_ll, m1_l, l_m1]
end LAW
