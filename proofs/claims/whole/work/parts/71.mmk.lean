/-! the reference's market -/
def mm (s : St) (m : Nat) (D : Nat → Nat) : Mk := (D, wn s m, kn s m, nT s)
def MkM (w : cm_W) (M : Mk) : Prop := ∀ t, t < M.n → cm_L w 136 t = lN (M.D t)
section MMK
variable {v c u n : Nat} {w w' : cm_W} {s s' : St} {D : Nat → Nat}
theorem mkt_mm (l : Nat) (i j : Int32) (m : Nat) : mkt s l i j m = mm s m (dmp s l i j (nP s)) := rfl
theorem m268 (L : Lay v c w) (M : RelM w s) (I : InvV s) {p t : Nat} (hp : p < nP s) (ht : t < nT s) : fn_268 w 96 (nI p) (nI t) = some (lN (mil s p t)) := by
  have hT := I.1
  have hP := I.2.1
  obtain ⟨e1, h1, h2⟩ := shs_n I hp
  obtain ⟨e3, h3⟩ := sh_n I hp ht
  have h2 := h2 (by omega)
  have e9 := (m229 L M I (p := p) (by omega)).trans (congrArg some e1)
  have e8 := (m228 L M (p := p) (t := t) (by omega) (by omega)).trans (congrArg some e3)
  have q2 : ¬ lN (tn (shs s p)) = 0 := by
    rw [leq0 (by omega)]; omega
  unfold fn_268
  simp (disch := omega) only [LM L, e8, e9, nI_l, q2, eq_self, Nat.le_refl, Nat.lt_irrefl, some_if, Option.bind_some, Option.bind_none, Option.some.injEq, ↓reduceIte, reduceCtorEq, Bool.false_eq_true, Bool.true_eq_false, not_true_eq_false, not_false_eq_true, cmb0, cmb1, Nat.reduceAdd, Nat.reduceMul, Nat.reduceSub, Nat.add_zero, Bool.not_eq_true, Bool.not_eq_false, Nat.reduceEqDiff, Nat.reduceLeDiff, Nat.reduceLT, Int32.reduceLT, Int32.reduceLE, iin_nI, iin_lit, iin_m1, tn_nI, tn_lit, nI_lm, nI_ml, nI_al, nI_la, nI_add, pk_mul, nI_le_l, nI_l_le, nI_lt_l, nI_l_lt, nI_eq_l, nI_l_eq, nI_eqP, nI_leP, nI_ltP, nI_m1, m1_nI, nI_ll, m1_l, l_m1]
  rw [show (1000000 : Int64) = lN 1000000 from rfl, lN_mul, pk_lDiv (by omega) h2 (by omega), Nat.mul_comm]
  rfl
theorem m269 (L : Lay v c w) (M : RelM w s) (I : InvV s) {l : Nat} {i j : Int32} (hl : l < 2 ∨ l < 4 ∧ ∃ t0, t0 < nT s ∧ j = nI t0) : ∃ y, fn_269 96 (nI l) i j w = some y ∧ FM v c w y s ∧ cm_I y = cm_I w ∧ (∀ a, a ≠ 136 → cm_L y a = cm_L w a) ∧ ∀ t, t < nT s → cm_L y 136 t = lN (dmp s l i j (nP s) t) := by
  have hT := I.1
  have hP := I.2.1
  refine up_0 (fun n t a => fn_269_3 n 96 (nI l) i j (nI t) a) (nT s) (fun k a => FM v c w a s ∧ cm_I a = cm_I w ∧ (∀ b, b ≠ 136 → cm_L a b = cm_L w b) ∧ ∀ t, t < k → cm_L a 136 t = lN (dmp s l i j (nP s) t)) (fun o => ∃ y, o = some y ∧ FM v c w y s ∧ cm_I y = cm_I w ∧ (∀ a, a ≠ 136 → cm_L y a = cm_L w a) ∧ ∀ t, t < nT s → cm_L y 136 t = lN (dmp s l i j (nP s) t)) w (by omega) ⟨FM.rf L M, rfl, fun _ _ => rfl, fun t h => by omega⟩ (fun n t a ht ha => Or.inr ?_) (fun n a ha => ?_)
  · obtain ⟨F, hi, hf, h⟩ := ha
    have LL := F.1
    have MM := F.2.1
    have ht' : ¬ nT s ≤ t := by omega
    -- the people are added
    have F1 : FM v c w (cm_sL a 136 t 0) s := F.sL (by omega) (by omega) (by omega)
    have add : ∃ y, fn_269_57 (fn_269_3 n) 96 (nI l) i j (nI t) a = fn_269_3 n 96 (nI l) i j (nI (t + 1)) y ∧ FM v c w y s ∧ cm_I y = cm_I w ∧ (∀ b, b ≠ 136 → cm_L y b = cm_L w b) ∧ (∀ t', t' ≠ t → cm_L y 136 t' = cm_L a 136 t') ∧ cm_L y 136 t = lN (sgm (fun p => if l ≠ 1 ∨ nI p = i then mil s p t else 0) (nP s)) := by
      have e0 : fn_269_57 (fn_269_3 n) 96 (nI l) i j (nI t) a = fn_269_75 (fn_269_3 n) cm_N 96 (nI l) i j (nI t) 1 0 (cm_sL a 136 t 0) := by
        simp (disch := omega) only [fn_269_57, ↓LMb LL, LM LL, cm_w2, Nat.reduceLeDiff, Nat.reduceLT, decide_true, Bool.and_self, Bool.and_true, eq_self, Nat.le_refl, Nat.lt_irrefl, some_if, Option.bind_some, Option.bind_none, Option.some.injEq, ↓reduceIte, reduceCtorEq, Bool.false_eq_true, Bool.true_eq_false, not_true_eq_false, not_false_eq_true, cmb0, cmb1, Nat.reduceAdd, Nat.reduceMul, Nat.reduceSub, Nat.add_zero, Bool.not_eq_true, Bool.not_eq_false, Nat.reduceEqDiff, Nat.reduceLeDiff, Nat.reduceLT, Int32.reduceLT, Int32.reduceLE, iin_nI, iin_lit, iin_m1, tn_nI, tn_lit, nI_lm, nI_ml, nI_al, nI_la, nI_add, pk_mul, nI_le_l, nI_l_le, nI_lt_l, nI_l_lt, nI_eq_l, nI_l_eq, nI_eqP, nI_leP, nI_ltP, nI_m1, m1_nI, nI_ll, m1_l, l_m1]
      rw [e0]
      refine up_0 (fun m p a => fn_269_75 (fn_269_3 n) m 96 (nI l) i j (nI t) 1 (nI p) a) (nP s) (fun k y => FM v c w y s ∧ cm_I y = cm_I w ∧ (∀ b, b ≠ 136 → cm_L y b = cm_L w b) ∧ (∀ t', t' ≠ t → cm_L y 136 t' = cm_L a 136 t') ∧ cm_L y 136 t = lN (sgm (fun p => if l ≠ 1 ∨ nI p = i then mil s p t else 0) k)) (fun o => ∃ y, o = fn_269_3 n 96 (nI l) i j (nI (t + 1)) y ∧ FM v c w y s ∧ cm_I y = cm_I w ∧ (∀ b, b ≠ 136 → cm_L y b = cm_L w b) ∧ (∀ t', t' ≠ t → cm_L y 136 t' = cm_L a 136 t') ∧ cm_L y 136 t = lN (sgm (fun p => if l ≠ 1 ∨ nI p = i then mil s p t else 0) (nP s))) _ (by omega) ⟨F1, hi, fun b hb => ?_, fun t' h' => ?_, ?_⟩ (fun m p y hp hy => Or.inr ?_) (fun m y hy => ?_)
      · rw [← hf b hb]; funext k; exact L_ne hb
      · exact L_nk h'
      · rw [L_eq]; rfl
      · obtain ⟨G, gi, gf, go, gt⟩ := hy
        have hp' : ¬ nP s ≤ p := by omega
        have e8 := m268 G.1 G.2.1 I hp ht
        by_cases z : l ≠ 1 ∨ nI p = i
        · refine ⟨cm_sL y 136 t (cm_L y 136 t + lN (mil s p t)), ⟨G.sL (by omega) (by omega) (by omega), gi, fun b hb => ?_, fun t' h' => ?_, ?_⟩, ?_⟩
          · rw [← gf b hb]; funext k; exact L_ne hb
          · rw [L_nk h']; exact go t' h'
          · rw [L_eq, gt, lN_add]
            show lN (_ + _) = lN (_ + if l ≠ 1 ∨ nI p = i then mil s p t else 0)
            rw [if_pos z]
          · by_cases l1 : l = 1
            · have q : nI p = i := by
                rcases z with z | z
                · exact absurd l1 z
                · exact z
              subst l1
              subst q
              simp (disch := omega) only [fn_269_75, fn_269_100, fn_269_118, ↓LMb G.1, LM G.1, RM G.2.1, hP.1, hp', e8, cm_w2, Nat.reduceLeDiff, Nat.reduceLT, decide_true, Bool.and_self, Bool.and_true, eq_self, Nat.le_refl, Nat.lt_irrefl, some_if, Option.bind_some, Option.bind_none, Option.some.injEq, ↓reduceIte, reduceCtorEq, Bool.false_eq_true, Bool.true_eq_false, not_true_eq_false, not_false_eq_true, cmb0, cmb1, Nat.reduceAdd, Nat.reduceMul, Nat.reduceSub, Nat.add_zero, Bool.not_eq_true, Bool.not_eq_false, Nat.reduceEqDiff, Nat.reduceLeDiff, Nat.reduceLT, Int32.reduceLT, Int32.reduceLE, iin_nI, iin_lit, iin_m1, tn_nI, tn_lit, nI_lm, nI_ml, nI_al, nI_la, nI_add, pk_mul, nI_le_l, nI_l_le, nI_lt_l, nI_l_lt, nI_eq_l, nI_l_eq, nI_eqP, nI_leP, nI_ltP, nI_m1, m1_nI, nI_ll, m1_l, l_m1]
            · simp (disch := omega) only [fn_269_75, fn_269_100, fn_269_118, ↓LMb G.1, LM G.1, RM G.2.1, hP.1, hp', e8, l1, cm_w2, Nat.reduceLeDiff, Nat.reduceLT, decide_true, Bool.and_self, Bool.and_true, eq_self, Nat.le_refl, Nat.lt_irrefl, some_if, Option.bind_some, Option.bind_none, Option.some.injEq, ↓reduceIte, reduceCtorEq, Bool.false_eq_true, Bool.true_eq_false, not_true_eq_false, not_false_eq_true, cmb0, cmb1, Nat.reduceAdd, Nat.reduceMul, Nat.reduceSub, Nat.add_zero, Bool.not_eq_true, Bool.not_eq_false, Nat.reduceEqDiff, Nat.reduceLeDiff, Nat.reduceLT, Int32.reduceLT, Int32.reduceLE, iin_nI, iin_lit, iin_m1, tn_nI, tn_lit, nI_lm, nI_ml, nI_al, nI_la, nI_add, pk_mul, nI_le_l, nI_l_le, nI_lt_l, nI_l_lt, nI_eq_l, nI_l_eq, nI_eqP, nI_leP, nI_ltP, nI_m1, m1_nI, nI_ll, m1_l, l_m1]
        · refine ⟨y, ⟨G, gi, gf, go, ?_⟩, ?_⟩
          · rw [gt]
            show lN _ = lN (_ + if l ≠ 1 ∨ nI p = i then mil s p t else 0)
            rw [if_neg z]; rfl
          · have l1 : l = 1 := by
              rcases Nat.decEq l 1 with h | h
              · exact absurd (Or.inl h) z
              · exact h
            have q : ¬ nI p = i := fun h => z (Or.inr h)
            subst l1
            simp (disch := omega) only [fn_269_75, fn_269_100, fn_269_118, ↓LMb G.1, LM G.1, RM G.2.1, hP.1, hp', q, cm_w2, Nat.reduceLeDiff, Nat.reduceLT, decide_true, Bool.and_self, Bool.and_true, eq_self, Nat.le_refl, Nat.lt_irrefl, some_if, Option.bind_some, Option.bind_none, Option.some.injEq, ↓reduceIte, reduceCtorEq, Bool.false_eq_true, Bool.true_eq_false, not_true_eq_false, not_false_eq_true, cmb0, cmb1, Nat.reduceAdd, Nat.reduceMul, Nat.reduceSub, Nat.add_zero, Bool.not_eq_true, Bool.not_eq_false, Nat.reduceEqDiff, Nat.reduceLeDiff, Nat.reduceLT, Int32.reduceLT, Int32.reduceLE, iin_nI, iin_lit, iin_m1, tn_nI, tn_lit, nI_lm, nI_ml, nI_al, nI_la, nI_add, pk_mul, nI_le_l, nI_l_le, nI_lt_l, nI_l_lt, nI_eq_l, nI_l_eq, nI_eqP, nI_leP, nI_ltP, nI_m1, m1_nI, nI_ll, m1_l, l_m1]
      · refine ⟨y, ?_, hy⟩
        obtain ⟨G, -⟩ := hy
        simp (disch := omega) only [fn_269_75, fn_269_124, ↓LMb G.1, LM G.1, RM G.2.1, hP.1, eq_self, Nat.le_refl, Nat.lt_irrefl, some_if, Option.bind_some, Option.bind_none, Option.some.injEq, ↓reduceIte, reduceCtorEq, Bool.false_eq_true, Bool.true_eq_false, not_true_eq_false, not_false_eq_true, cmb0, cmb1, Nat.reduceAdd, Nat.reduceMul, Nat.reduceSub, Nat.add_zero, Bool.not_eq_true, Bool.not_eq_false, Nat.reduceEqDiff, Nat.reduceLeDiff, Nat.reduceLT, Int32.reduceLT, Int32.reduceLE, iin_nI, iin_lit, iin_m1, tn_nI, tn_lit, nI_lm, nI_ml, nI_al, nI_la, nI_add, pk_mul, nI_le_l, nI_l_le, nI_lt_l, nI_l_lt, nI_eq_l, nI_l_eq, nI_eqP, nI_leP, nI_ltP, nI_m1, m1_nI, nI_ll, m1_l, l_m1]
    have none : fn_269_61 (fn_269_3 n) 96 (nI l) i j (nI t) a = fn_269_3 n 96 (nI l) i j (nI (t + 1)) (cm_sL a 136 t 0) := by
      have e0 : fn_269_61 (fn_269_3 n) 96 (nI l) i j (nI t) a = fn_269_75 (fn_269_3 n) cm_N 96 (nI l) i j (nI t) 0 0 (cm_sL a 136 t 0) := by
        simp (disch := omega) only [fn_269_61, ↓LMb LL, LM LL, cm_w2, Nat.reduceLeDiff, Nat.reduceLT, decide_true, Bool.and_self, Bool.and_true, eq_self, Nat.le_refl, Nat.lt_irrefl, some_if, Option.bind_some, Option.bind_none, Option.some.injEq, ↓reduceIte, reduceCtorEq, Bool.false_eq_true, Bool.true_eq_false, not_true_eq_false, not_false_eq_true, cmb0, cmb1, Nat.reduceAdd, Nat.reduceMul, Nat.reduceSub, Nat.add_zero, Bool.not_eq_true, Bool.not_eq_false, Nat.reduceEqDiff, Nat.reduceLeDiff, Nat.reduceLT, Int32.reduceLT, Int32.reduceLE, iin_nI, iin_lit, iin_m1, tn_nI, tn_lit, nI_lm, nI_ml, nI_al, nI_la, nI_add, pk_mul, nI_le_l, nI_l_le, nI_lt_l, nI_l_lt, nI_eq_l, nI_l_eq, nI_eqP, nI_leP, nI_ltP, nI_m1, m1_nI, nI_ll, m1_l, l_m1]
      rw [e0]
      show fn_269_75 (fn_269_3 n) (99999 + 1) 96 (nI l) i j (nI t) 0 0 (cm_sL a 136 t 0) = _
      by_cases z : nP s ≤ 0 <;> simp (disch := omega) only [fn_269_75, fn_269_124, ↓LMb F1.1, LM F1.1, RM F1.2.1, hP.1, z, eq_self, Nat.le_refl, Nat.lt_irrefl, some_if, Option.bind_some, Option.bind_none, Option.some.injEq, ↓reduceIte, reduceCtorEq, Bool.false_eq_true, Bool.true_eq_false, not_true_eq_false, not_false_eq_true, cmb0, cmb1, Nat.reduceAdd, Nat.reduceMul, Nat.reduceSub, Nat.add_zero, Bool.not_eq_true, Bool.not_eq_false, Nat.reduceEqDiff, Nat.reduceLeDiff, Nat.reduceLT, Int32.reduceLT, Int32.reduceLE, iin_nI, iin_lit, iin_m1, tn_nI, tn_lit, nI_lm, nI_ml, nI_al, nI_la, nI_add, pk_mul, nI_le_l, nI_l_le, nI_lt_l, nI_l_lt, nI_eq_l, nI_l_eq, nI_eqP, nI_leP, nI_ltP, nI_m1, m1_nI, nI_ll, m1_l, l_m1]
    have yes : (fn_269_3 (n + 1) 96 (nI l) i j (nI t) a = fn_269_57 (fn_269_3 n) 96 (nI l) i j (nI t) a) → (∀ p, tog s l i j p t = decide (l ≠ 1 ∨ nI p = i)) → ∃ a', (FM v c w a' s ∧ cm_I a' = cm_I w ∧ (∀ b, b ≠ 136 → cm_L a' b = cm_L w b) ∧ ∀ t', t' < t + 1 → cm_L a' 136 t' = lN (dmp s l i j (nP s) t')) ∧ fn_269_3 (n + 1) 96 (nI l) i j (nI t) a = fn_269_3 n 96 (nI l) i j (nI (t + 1)) a' := by
      intro h1 h2
      obtain ⟨y, y1, y2, y3, y4, y5, y6⟩ := add
      refine ⟨y, ⟨y2, y3, y4, fun t' h' => ?_⟩, h1.trans y1⟩
      by_cases z : t' = t
      · subst z
        rw [y6]
        unfold dmp
        rw [if_pos ht]
        refine congrArg lN (sgm_cg _ fun p hp => ?_)
        rw [h2 p]
        by_cases z2 : l ≠ 1 ∨ nI p = i
        · rw [if_pos z2, decide_eq_true z2]; rfl
        · rw [if_neg z2, decide_eq_false z2]; rfl
      · rw [y5 t' z]; exact h t' (by omega)
    have no : (fn_269_3 (n + 1) 96 (nI l) i j (nI t) a = fn_269_61 (fn_269_3 n) 96 (nI l) i j (nI t) a) → (∀ p, tog s l i j p t = false) → ∃ a', (FM v c w a' s ∧ cm_I a' = cm_I w ∧ (∀ b, b ≠ 136 → cm_L a' b = cm_L w b) ∧ ∀ t', t' < t + 1 → cm_L a' 136 t' = lN (dmp s l i j (nP s) t')) ∧ fn_269_3 (n + 1) 96 (nI l) i j (nI t) a = fn_269_3 n 96 (nI l) i j (nI (t + 1)) a' := by
      intro h1 h2
      refine ⟨_, ⟨F1, hi, fun b hb => ?_, fun t' h' => ?_⟩, h1.trans none⟩
      · rw [← hf b hb]; funext k; exact L_ne hb
      · by_cases z : t' = t
        · subst z
          rw [L_eq]
          unfold dmp
          rw [if_pos ht, sgm_0 _ (fun p hp => by rw [h2 p]; rfl)]
          rfl
        · rw [L_nk z]; exact h t' (by omega)
    show ∃ a', _ ∧ fn_269_3 (n + 1) 96 (nI l) i j (nI t) a = _
    by_cases l2 : l < 2
    · refine yes ?_ (fun p => ?_)
      · simp (disch := omega) only [fn_269_3, ↓LMb LL, LM LL, RM MM, hT.1, ht', l2, eq_self, Nat.le_refl, Nat.lt_irrefl, some_if, Option.bind_some, Option.bind_none, Option.some.injEq, ↓reduceIte, reduceCtorEq, Bool.false_eq_true, Bool.true_eq_false, not_true_eq_false, not_false_eq_true, cmb0, cmb1, Nat.reduceAdd, Nat.reduceMul, Nat.reduceSub, Nat.add_zero, Bool.not_eq_true, Bool.not_eq_false, Nat.reduceEqDiff, Nat.reduceLeDiff, Nat.reduceLT, Int32.reduceLT, Int32.reduceLE, iin_nI, iin_lit, iin_m1, tn_nI, tn_lit, nI_lm, nI_ml, nI_al, nI_la, nI_add, pk_mul, nI_le_l, nI_l_le, nI_lt_l, nI_l_lt, nI_eq_l, nI_l_eq, nI_eqP, nI_leP, nI_ltP, nI_m1, m1_nI, nI_ll, m1_l, l_m1]
      · unfold tog
        rcases (show l = 0 ∨ l = 1 by omega) with rfl | rfl
        · rfl
        · by_cases z : nI p = i
          · rw [decide_eq_true z, decide_eq_true (Or.inr z)]; rfl
          · show decide (nI p = i) = decide ((1 : Nat) ≠ 1 ∨ nI p = i)
            rw [decide_eq_false z, decide_eq_false (fun h : (1 : Nat) ≠ 1 ∨ nI p = i => h.elim (fun h => h rfl) z)]
    · rcases hl with hl | ⟨hl, t0, h0, rfl⟩
      · omega
      · have tt : tn (nI t0) = t0 := tn_nIe (by omega)
        rcases (show l = 2 ∨ l = 3 by omega) with rfl | rfl
        · by_cases z : s 102 t = s 102 t0
          · refine yes ?_ (fun p => ?_)
            · simp (disch := omega) only [fn_269_3, ↓LMb LL, LM LL, RM MM, hT.1, ht', z, eq_self, Nat.le_refl, Nat.lt_irrefl, some_if, Option.bind_some, Option.bind_none, Option.some.injEq, ↓reduceIte, reduceCtorEq, Bool.false_eq_true, Bool.true_eq_false, not_true_eq_false, not_false_eq_true, cmb0, cmb1, Nat.reduceAdd, Nat.reduceMul, Nat.reduceSub, Nat.add_zero, Bool.not_eq_true, Bool.not_eq_false, Nat.reduceEqDiff, Nat.reduceLeDiff, Nat.reduceLT, Int32.reduceLT, Int32.reduceLE, iin_nI, iin_lit, iin_m1, tn_nI, tn_lit, nI_lm, nI_ml, nI_al, nI_la, nI_add, pk_mul, nI_le_l, nI_l_le, nI_lt_l, nI_l_lt, nI_eq_l, nI_l_eq, nI_eqP, nI_leP, nI_ltP, nI_m1, m1_nI, nI_ll, m1_l, l_m1]
            · unfold tog
              rw [tt, z]; simp
          · refine no ?_ (fun p => ?_)
            · simp (disch := omega) only [fn_269_3, ↓LMb LL, LM LL, RM MM, hT.1, ht', z, eq_self, Nat.le_refl, Nat.lt_irrefl, some_if, Option.bind_some, Option.bind_none, Option.some.injEq, ↓reduceIte, reduceCtorEq, Bool.false_eq_true, Bool.true_eq_false, not_true_eq_false, not_false_eq_true, cmb0, cmb1, Nat.reduceAdd, Nat.reduceMul, Nat.reduceSub, Nat.add_zero, Bool.not_eq_true, Bool.not_eq_false, Nat.reduceEqDiff, Nat.reduceLeDiff, Nat.reduceLT, Int32.reduceLT, Int32.reduceLE, iin_nI, iin_lit, iin_m1, tn_nI, tn_lit, nI_lm, nI_ml, nI_al, nI_la, nI_add, pk_mul, nI_le_l, nI_l_le, nI_lt_l, nI_l_lt, nI_eq_l, nI_l_eq, nI_eqP, nI_leP, nI_ltP, nI_m1, m1_nI, nI_ll, m1_l, l_m1]
            · unfold tog
              have z' : ¬ s 102 t0 = s 102 t := fun h => z h.symm
              rw [tt]; simp [z']
        · by_cases z : s 101 t = s 101 t0
          · refine yes ?_ (fun p => ?_)
            · simp (disch := omega) only [fn_269_3, fn_269_41, ↓LMb LL, LM LL, RM MM, hT.1, ht', z, eq_self, Nat.le_refl, Nat.lt_irrefl, some_if, Option.bind_some, Option.bind_none, Option.some.injEq, ↓reduceIte, reduceCtorEq, Bool.false_eq_true, Bool.true_eq_false, not_true_eq_false, not_false_eq_true, cmb0, cmb1, Nat.reduceAdd, Nat.reduceMul, Nat.reduceSub, Nat.add_zero, Bool.not_eq_true, Bool.not_eq_false, Nat.reduceEqDiff, Nat.reduceLeDiff, Nat.reduceLT, Int32.reduceLT, Int32.reduceLE, iin_nI, iin_lit, iin_m1, tn_nI, tn_lit, nI_lm, nI_ml, nI_al, nI_la, nI_add, pk_mul, nI_le_l, nI_l_le, nI_lt_l, nI_l_lt, nI_eq_l, nI_l_eq, nI_eqP, nI_leP, nI_ltP, nI_m1, m1_nI, nI_ll, m1_l, l_m1]
            · unfold tog
              rw [tt, z]; simp
          · refine no ?_ (fun p => ?_)
            · simp (disch := omega) only [fn_269_3, fn_269_41, ↓LMb LL, LM LL, RM MM, hT.1, ht', z, eq_self, Nat.le_refl, Nat.lt_irrefl, some_if, Option.bind_some, Option.bind_none, Option.some.injEq, ↓reduceIte, reduceCtorEq, Bool.false_eq_true, Bool.true_eq_false, not_true_eq_false, not_false_eq_true, cmb0, cmb1, Nat.reduceAdd, Nat.reduceMul, Nat.reduceSub, Nat.add_zero, Bool.not_eq_true, Bool.not_eq_false, Nat.reduceEqDiff, Nat.reduceLeDiff, Nat.reduceLT, Int32.reduceLT, Int32.reduceLE, iin_nI, iin_lit, iin_m1, tn_nI, tn_lit, nI_lm, nI_ml, nI_al, nI_la, nI_add, pk_mul, nI_le_l, nI_l_le, nI_lt_l, nI_l_lt, nI_eq_l, nI_l_eq, nI_eqP, nI_leP, nI_ltP, nI_m1, m1_nI, nI_ll, m1_l, l_m1]
            · unfold tog
              have z' : ¬ s 101 t0 = s 101 t := fun h => z h.symm
              rw [tt]; simp [z']
  · obtain ⟨F, hi, hf, h⟩ := ha
    refine ⟨a, ?_, F, hi, hf, h⟩
    simp (disch := omega) only [fn_269_3, ↓LMb F.1, LM F.1, RM F.2.1, hT.1, eq_self, Nat.le_refl, Nat.lt_irrefl, some_if, Option.bind_some, Option.bind_none, Option.some.injEq, ↓reduceIte, reduceCtorEq, Bool.false_eq_true, Bool.true_eq_false, not_true_eq_false, not_false_eq_true, cmb0, cmb1, Nat.reduceAdd, Nat.reduceMul, Nat.reduceSub, Nat.add_zero, Bool.not_eq_true, Bool.not_eq_false, Nat.reduceEqDiff, Nat.reduceLeDiff, Nat.reduceLT, Int32.reduceLT, Int32.reduceLE, iin_nI, iin_lit, iin_m1, tn_nI, tn_lit, nI_lm, nI_ml, nI_al, nI_la, nI_add, pk_mul, nI_le_l, nI_l_le, nI_lt_l, nI_l_lt, nI_eq_l, nI_l_eq, nI_eqP, nI_leP, nI_ltP, nI_m1, m1_nI, nI_ll, m1_l, l_m1]
end MMK
