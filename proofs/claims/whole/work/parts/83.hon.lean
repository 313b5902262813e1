/-! honest: the call -/
def exf (T : Nat) (x : Int32) (t : Nat) : Bool := decide (t + 1 = T) || bit x t
section HON
variable {v c u n m l p q : Nat} {w w' : cm_W} {s s' : St} {M : Mk} {ex : Nat → Bool}
theorem enc_eq {k T : Nat} (hk : k < 2147483648) (hT : T < 2147483648) : (nI k = enc T) = (k + 1 = T) := by
  unfold enc
  by_cases z : T = 0
  · rw [if_pos z, nI_m1 hk]
    exact propext ⟨False.elim, fun h => by omega⟩
  · rw [if_neg z, nI_eqP hk (by omega)]
    exact propext ⟨fun h => by omega, fun h => by omega⟩
theorem enc_0 : enc 0 = -1 := rfl
theorem enc_m1 {T : Nat} (hT : T < 2147483648) : (enc T = -1) = (T = 0) := by
  unfold enc
  by_cases z : T = 0
  · rw [if_pos z]; exact propext ⟨fun _ => z, fun _ => rfl⟩
  · rw [if_neg z, nI_m1 (by omega)]; exact propext ⟨False.elim, z⟩
theorem lst_ext {ex : Nat → Bool} {n : Nat} (h0 : ∀ t, n ≤ t → M.D t = 0) : ∀ k, M.lst ex (n + k) = M.lst ex n := by
  intro k
  induction k with
  | zero => rfl
  | succ k ih =>
    show (if M.D (n + k) = 0 ∨ ex (n + k) = true then M.lst ex (n + k) else _) = _
    rw [if_pos (Or.inl (h0 _ (by omega))), ih]
theorem c89 (L : Lay v c w) (K : SayC w M) (O : M.Ok) (hD : ∀ t, M.D t ≤ 99) (x : Int32) : fn_89 w 55 x = some (enc (M.lst (exf (M.top M.n) x) M.n)) := by
  have hn := O.2.2.1
  have e8 : M.lst (exf (M.top M.n) x) 8 = M.lst (exf (M.top M.n) x) M.n := by
    have := lst_ext (ex := exf (M.top M.n) x) (fun t ht => O.D0 ht) (8 - M.n)
    rw [show M.n + (8 - M.n) = 8 by omega] at this
    exact this
  rw [← e8]
  refine up_0 (fun n k a => fn_89_4 w n 55 x a (nI k)) 8 (fun k a => a = enc (M.lst (exf (M.top M.n) x) k)) (fun o => o = _) (-1) (by omega) rfl (fun n k a hk ha => Or.inr ⟨_, rfl, ?_⟩) (fun n a ha => ?_)
  · subst ha
    have hk' : ¬ 8 ≤ k := by omega
    have hd := hD k
    have e7 := K.1 k hk
    have et := K.2.2
    have tl := top_le (M := M) M.n
    have ll := lst_le (M := M) (ex := exf (M.top M.n) x) k
    have st : M.lst (exf (M.top M.n) x) (k + 1) = if M.D k = 0 ∨ exf (M.top M.n) x k = true then M.lst (exf (M.top M.n) x) k else if M.lst (exf (M.top M.n) x) k = 0 then k + 1 else if M.U (M.lst (exf (M.top M.n) x) k - 1) ≤ M.U k then M.lst (exf (M.top M.n) x) k else k + 1 := rfl
    have eq1 := enc_eq (k := k) (T := M.top M.n) (by omega) (by omega)
    by_cases d : M.D k = 0
    · rw [if_pos (Or.inl d)] at st
      rw [st]
      simp (disch := omega) only [fn_89_4, fn_89_39, fn_89_69, hk', ↓LCb L, LC L, e7, d, eq_self, Nat.le_refl, Nat.lt_irrefl, some_if, Option.bind_some, Option.bind_none, Option.some.injEq, ↓reduceIte, reduceCtorEq, Bool.false_eq_true, Bool.true_eq_false, not_true_eq_false, not_false_eq_true, cmb0, cmb1, Nat.reduceAdd, Nat.reduceMul, Nat.reduceSub, Nat.add_zero, Bool.not_eq_true, Bool.not_eq_false, Nat.reduceEqDiff, Nat.reduceLeDiff, Nat.reduceLT, Int32.reduceLT, Int32.reduceLE, iin_nI, iin_lit, iin_m1, tn_nI, tn_lit, nI_lm, nI_ml, nI_al, nI_la, nI_add, pk_mul, nI_le_l, nI_l_le, nI_lt_l, nI_l_lt, nI_eq_l, nI_l_eq, nI_eqP, nI_leP, nI_ltP, nI_m1, m1_nI, nI_ll, m1_l, l_m1]
    · have dp : ¬ M.D k ≤ 0 := by omega
      have kn : k < M.n := by
        rcases Nat.lt_or_ge k M.n with h | h
        · exact h
        · exact absurd (O.D0 h) d
      by_cases z1 : k + 1 = M.top M.n
      · have ee : exf (M.top M.n) x k = true := by unfold exf; rw [decide_eq_true z1]; rfl
        rw [if_pos (Or.inr ee)] at st
        rw [st]
        simp (disch := omega) only [fn_89_4, fn_89_39, fn_89_69, hk', ↓LCb L, LC L, e7, dp, et, eq1, z1, eq_self, Nat.le_refl, Nat.lt_irrefl, some_if, Option.bind_some, Option.bind_none, Option.some.injEq, ↓reduceIte, reduceCtorEq, Bool.false_eq_true, Bool.true_eq_false, not_true_eq_false, not_false_eq_true, cmb0, cmb1, Nat.reduceAdd, Nat.reduceMul, Nat.reduceSub, Nat.add_zero, Bool.not_eq_true, Bool.not_eq_false, Nat.reduceEqDiff, Nat.reduceLeDiff, Nat.reduceLT, Int32.reduceLT, Int32.reduceLE, iin_nI, iin_lit, iin_m1, tn_nI, tn_lit, nI_lm, nI_ml, nI_al, nI_la, nI_add, pk_mul, nI_le_l, nI_l_le, nI_lt_l, nI_l_lt, nI_eq_l, nI_l_eq, nI_eqP, nI_leP, nI_ltP, nI_m1, m1_nI, nI_ll, m1_l, l_m1]
      · cases z2 : bit x k
        · have ee : ¬ (M.D k = 0 ∨ exf (M.top M.n) x k = true) := fun h => by
            rcases h with h | h
            · exact d h
            · unfold exf at h; rw [decide_eq_false z1, z2] at h; cases h
          rw [if_neg ee] at st
          have b0 := bt0 x (k := k) (by omega)
          rw [z2] at b0
          have m1 := enc_m1 (T := M.lst (exf (M.top M.n) x) k) (by omega)
          by_cases z3 : M.lst (exf (M.top M.n) x) k = 0
          · rw [if_pos z3] at st
            rw [st]
            simp (disch := omega) only [fn_89_4, fn_89_67, fn_89_69, hk', ↓LCb L, LC L, e7, dp, et, eq1, z1, b0, z3, enc_0, enc_s, eq_self, Nat.le_refl, Nat.lt_irrefl, some_if, Option.bind_some, Option.bind_none, Option.some.injEq, ↓reduceIte, reduceCtorEq, Bool.false_eq_true, Bool.true_eq_false, not_true_eq_false, not_false_eq_true, cmb0, cmb1, Nat.reduceAdd, Nat.reduceMul, Nat.reduceSub, Nat.add_zero, Bool.not_eq_true, Bool.not_eq_false, Nat.reduceEqDiff, Nat.reduceLeDiff, Nat.reduceLT, Int32.reduceLT, Int32.reduceLE, iin_nI, iin_lit, iin_m1, tn_nI, tn_lit, nI_lm, nI_ml, nI_al, nI_la, nI_add, pk_mul, nI_le_l, nI_l_le, nI_lt_l, nI_l_lt, nI_eq_l, nI_l_eq, nI_eqP, nI_leP, nI_ltP, nI_m1, m1_nI, nI_ll, m1_l, l_m1]
          · rw [if_neg z3] at st
            have es : enc (M.lst (exf (M.top M.n) x) k) = nI (M.lst (exf (M.top M.n) x) k - 1) := if_neg z3
            rw [es] at m1 ⊢
            have u1 := K.2.1 k kn
            have u2 := K.2.1 (M.lst (exf (M.top M.n) x) k - 1) (by omega)
            have o1 := O.1 k kn
            have o2 := O.1 (M.lst (exf (M.top M.n) x) k - 1) (by omega)
            by_cases z4 : M.U (M.lst (exf (M.top M.n) x) k - 1) ≤ M.U k
            · rw [if_pos z4] at st
              rw [st, es]
              simp (disch := omega) only [fn_89_4, fn_89_67, fn_89_69, hk', ↓LCb L, LC L, e7, dp, et, eq1, z1, b0, m1, z3, u1, u2, z4, eq_self, Nat.le_refl, Nat.lt_irrefl, some_if, Option.bind_some, Option.bind_none, Option.some.injEq, ↓reduceIte, reduceCtorEq, Bool.false_eq_true, Bool.true_eq_false, not_true_eq_false, not_false_eq_true, cmb0, cmb1, Nat.reduceAdd, Nat.reduceMul, Nat.reduceSub, Nat.add_zero, Bool.not_eq_true, Bool.not_eq_false, Nat.reduceEqDiff, Nat.reduceLeDiff, Nat.reduceLT, Int32.reduceLT, Int32.reduceLE, iin_nI, iin_lit, iin_m1, tn_nI, tn_lit, nI_lm, nI_ml, nI_al, nI_la, nI_add, pk_mul, nI_le_l, nI_l_le, nI_lt_l, nI_l_lt, nI_eq_l, nI_l_eq, nI_eqP, nI_leP, nI_ltP, nI_m1, m1_nI, nI_ll, m1_l, l_m1]
            · rw [if_neg z4] at st
              rw [st]
              simp (disch := omega) only [fn_89_4, fn_89_67, fn_89_69, hk', ↓LCb L, LC L, e7, dp, et, eq1, z1, b0, m1, z3, u1, u2, z4, enc_s, eq_self, Nat.le_refl, Nat.lt_irrefl, some_if, Option.bind_some, Option.bind_none, Option.some.injEq, ↓reduceIte, reduceCtorEq, Bool.false_eq_true, Bool.true_eq_false, not_true_eq_false, not_false_eq_true, cmb0, cmb1, Nat.reduceAdd, Nat.reduceMul, Nat.reduceSub, Nat.add_zero, Bool.not_eq_true, Bool.not_eq_false, Nat.reduceEqDiff, Nat.reduceLeDiff, Nat.reduceLT, Int32.reduceLT, Int32.reduceLE, iin_nI, iin_lit, iin_m1, tn_nI, tn_lit, nI_lm, nI_ml, nI_al, nI_la, nI_add, pk_mul, nI_le_l, nI_l_le, nI_lt_l, nI_l_lt, nI_eq_l, nI_l_eq, nI_eqP, nI_leP, nI_ltP, nI_m1, m1_nI, nI_ll, m1_l, l_m1]
        · have ee : exf (M.top M.n) x k = true := by unfold exf; rw [z2, Bool.or_true]
          rw [if_pos (Or.inr ee)] at st
          rw [st]
          have b0 := bt0 x (k := k) (by omega)
          rw [z2] at b0
          simp (disch := omega) only [fn_89_4, fn_89_39, fn_89_69, hk', ↓LCb L, LC L, e7, dp, et, eq1, z1, b0, eq_self, Nat.le_refl, Nat.lt_irrefl, some_if, Option.bind_some, Option.bind_none, Option.some.injEq, ↓reduceIte, reduceCtorEq, Bool.false_eq_true, Bool.true_eq_false, not_true_eq_false, not_false_eq_true, cmb0, cmb1, Nat.reduceAdd, Nat.reduceMul, Nat.reduceSub, Nat.add_zero, Bool.not_eq_true, Bool.not_eq_false, Nat.reduceEqDiff, Nat.reduceLeDiff, Nat.reduceLT, Int32.reduceLT, Int32.reduceLE, iin_nI, iin_lit, iin_m1, tn_nI, tn_lit, nI_lm, nI_ml, nI_al, nI_la, nI_add, pk_mul, nI_le_l, nI_l_le, nI_lt_l, nI_l_lt, nI_eq_l, nI_l_eq, nI_eqP, nI_leP, nI_ltP, nI_m1, m1_nI, nI_ll, m1_l, l_m1]
  · subst ha
    simp (disch := omega) only [fn_89_4, eq_self, Nat.le_refl, Nat.lt_irrefl, some_if, Option.bind_some, Option.bind_none, Option.some.injEq, ↓reduceIte, reduceCtorEq, Bool.false_eq_true, Bool.true_eq_false, not_true_eq_false, not_false_eq_true, cmb0, cmb1, Nat.reduceAdd, Nat.reduceMul, Nat.reduceSub, Nat.add_zero, Bool.not_eq_true, Bool.not_eq_false, Nat.reduceEqDiff, Nat.reduceLeDiff, Nat.reduceLT, Int32.reduceLT, Int32.reduceLE, iin_nI, iin_lit, iin_m1, tn_nI, tn_lit, nI_lm, nI_ml, nI_al, nI_la, nI_add, pk_mul, nI_le_l, nI_l_le, nI_lt_l, nI_l_lt, nI_eq_l, nI_l_eq, nI_eqP, nI_leP, nI_ltP, nI_m1, m1_nI, nI_ll, m1_l, l_m1]
theorem m286 (L : Lay v c w) (R : RelM w s) (I : InvV s) (hp : p < nP s) (hm : m < 6) : fn_286 w 96 (nI p) (nI m) = some (enc ((mko s p m).top (nT s))) := by
  have hP := I.2.1
  have hT := I.1
  refine up_0 (fun n k a => fn_286_5 w n 96 (nI p) (nI m) a (nI k)) (nT s) (fun k a => a = enc ((mko s p m).top k)) (fun o => o = _) (-1) (by omega) rfl (fun n k a hk ha => Or.inr ⟨_, rfl, ?_⟩) (fun n a ha => ?_)
  · subst ha
    have hk' : ¬ nT s ≤ k := by omega
    obtain ⟨es, hs⟩ := sh_n I hp hk
    have e8 := (m228 L R (p := p) (t := k) (by omega) (by omega)).trans (congrArg some es)
    have d : (mko s p m).D k = tn (s 107 (8 * p + k)) := if_pos hk
    have st : (mko s p m).top (k + 1) = if (mko s p m).D k = 0 then (mko s p m).top k else if (mko s p m).top k = 0 then k + 1 else if wn s m k ≤ wn s m ((mko s p m).top k - 1) then (mko s p m).top k else k + 1 := rfl
    rw [d] at st
    have tl := top_le (M := mko s p m) k
    have m1 := enc_m1 (T := (mko s p m).top k) (by omega)
    by_cases d0 : tn (s 107 (8 * p + k)) = 0
    · rw [if_pos d0] at st
      rw [st]
      simp (disch := omega) only [fn_286_5, fn_286_48, ↓LMb L, LM L, RM R, hT.1, hk', e8, d0, eq_self, Nat.le_refl, Nat.lt_irrefl, some_if, Option.bind_some, Option.bind_none, Option.some.injEq, ↓reduceIte, reduceCtorEq, Bool.false_eq_true, Bool.true_eq_false, not_true_eq_false, not_false_eq_true, cmb0, cmb1, Nat.reduceAdd, Nat.reduceMul, Nat.reduceSub, Nat.add_zero, Bool.not_eq_true, Bool.not_eq_false, Nat.reduceEqDiff, Nat.reduceLeDiff, Nat.reduceLT, Int32.reduceLT, Int32.reduceLE, iin_nI, iin_lit, iin_m1, tn_nI, tn_lit, nI_lm, nI_ml, nI_al, nI_la, nI_add, pk_mul, nI_le_l, nI_l_le, nI_lt_l, nI_l_lt, nI_eq_l, nI_l_eq, nI_eqP, nI_leP, nI_ltP, nI_m1, m1_nI, nI_ll, m1_l, l_m1]
    · rw [if_neg d0] at st
      have dp : ¬ tn (s 107 (8 * p + k)) ≤ 0 := by omega
      by_cases z : (mko s p m).top k = 0
      · rw [if_pos z] at st
        rw [st]
        simp (disch := omega) only [fn_286_5, fn_286_45, fn_286_48, ↓LMb L, LM L, RM R, hT.1, hk', e8, dp, z, enc_0, enc_s, eq_self, Nat.le_refl, Nat.lt_irrefl, some_if, Option.bind_some, Option.bind_none, Option.some.injEq, ↓reduceIte, reduceCtorEq, Bool.false_eq_true, Bool.true_eq_false, not_true_eq_false, not_false_eq_true, cmb0, cmb1, Nat.reduceAdd, Nat.reduceMul, Nat.reduceSub, Nat.add_zero, Bool.not_eq_true, Bool.not_eq_false, Nat.reduceEqDiff, Nat.reduceLeDiff, Nat.reduceLT, Int32.reduceLT, Int32.reduceLE, iin_nI, iin_lit, iin_m1, tn_nI, tn_lit, nI_lm, nI_ml, nI_al, nI_la, nI_add, pk_mul, nI_le_l, nI_l_le, nI_lt_l, nI_l_lt, nI_eq_l, nI_l_eq, nI_eqP, nI_leP, nI_ltP, nI_m1, m1_nI, nI_ll, m1_l, l_m1]
      · rw [if_neg z] at st
        have e1 : enc ((mko s p m).top k) = nI ((mko s p m).top k - 1) := if_neg z
        rw [e1] at m1 ⊢
        obtain ⟨w1, h1⟩ := wo_n I hk hm
        obtain ⟨w2, h2⟩ := wo_n I (t := (mko s p m).top k - 1) (by omega) hm
        have f1 := (m222 L R (t := k) (by omega) (nI m)).trans (congrArg some w1)
        have f2 := (m222 L R (t := (mko s p m).top k - 1) (by omega) (nI m)).trans (congrArg some w2)
        by_cases z4 : wn s m k ≤ wn s m ((mko s p m).top k - 1)
        · rw [if_pos z4] at st
          rw [st, e1]
          simp (disch := omega) only [fn_286_5, fn_286_45, fn_286_48, ↓LMb L, LM L, RM R, hT.1, hk', e8, dp, m1, z, f1, f2, z4, eq_self, Nat.le_refl, Nat.lt_irrefl, some_if, Option.bind_some, Option.bind_none, Option.some.injEq, ↓reduceIte, reduceCtorEq, Bool.false_eq_true, Bool.true_eq_false, not_true_eq_false, not_false_eq_true, cmb0, cmb1, Nat.reduceAdd, Nat.reduceMul, Nat.reduceSub, Nat.add_zero, Bool.not_eq_true, Bool.not_eq_false, Nat.reduceEqDiff, Nat.reduceLeDiff, Nat.reduceLT, Int32.reduceLT, Int32.reduceLE, iin_nI, iin_lit, iin_m1, tn_nI, tn_lit, nI_lm, nI_ml, nI_al, nI_la, nI_add, pk_mul, nI_le_l, nI_l_le, nI_lt_l, nI_l_lt, nI_eq_l, nI_l_eq, nI_eqP, nI_leP, nI_ltP, nI_m1, m1_nI, nI_ll, m1_l, l_m1]
        · rw [if_neg z4] at st
          rw [st]
          simp (disch := omega) only [fn_286_5, fn_286_45, fn_286_48, ↓LMb L, LM L, RM R, hT.1, hk', e8, dp, m1, z, f1, f2, z4, enc_s, eq_self, Nat.le_refl, Nat.lt_irrefl, some_if, Option.bind_some, Option.bind_none, Option.some.injEq, ↓reduceIte, reduceCtorEq, Bool.false_eq_true, Bool.true_eq_false, not_true_eq_false, not_false_eq_true, cmb0, cmb1, Nat.reduceAdd, Nat.reduceMul, Nat.reduceSub, Nat.add_zero, Bool.not_eq_true, Bool.not_eq_false, Nat.reduceEqDiff, Nat.reduceLeDiff, Nat.reduceLT, Int32.reduceLT, Int32.reduceLE, iin_nI, iin_lit, iin_m1, tn_nI, tn_lit, nI_lm, nI_ml, nI_al, nI_la, nI_add, pk_mul, nI_le_l, nI_l_le, nI_lt_l, nI_l_lt, nI_eq_l, nI_l_eq, nI_eqP, nI_leP, nI_ltP, nI_m1, m1_nI, nI_ll, m1_l, l_m1]
  · subst ha
    simp (disch := omega) only [fn_286_5, ↓LMb L, LM L, RM R, hT.1, eq_self, Nat.le_refl, Nat.lt_irrefl, some_if, Option.bind_some, Option.bind_none, Option.some.injEq, ↓reduceIte, reduceCtorEq, Bool.false_eq_true, Bool.true_eq_false, not_true_eq_false, not_false_eq_true, cmb0, cmb1, Nat.reduceAdd, Nat.reduceMul, Nat.reduceSub, Nat.add_zero, Bool.not_eq_true, Bool.not_eq_false, Nat.reduceEqDiff, Nat.reduceLeDiff, Nat.reduceLT, Int32.reduceLT, Int32.reduceLE, iin_nI, iin_lit, iin_m1, tn_nI, tn_lit, nI_lm, nI_ml, nI_al, nI_la, nI_add, pk_mul, nI_le_l, nI_l_le, nI_lt_l, nI_l_lt, nI_eq_l, nI_l_eq, nI_eqP, nI_leP, nI_ltP, nI_m1, m1_nI, nI_ll, m1_l, l_m1]
theorem m287 (L : Lay v c w) (R : RelM w s) (I : InvV s) (hp : p < nP s) (hm : m < 6) {T : Nat} (hTT : T < 2147483648) (x : Int32) : fn_287 w 96 (nI p) (nI m) (enc T) x = some (enc ((mko s p m).lst (exf T x) (nT s))) := by
  have hP := I.2.1
  have hT := I.1
  refine up_0 (fun n k a => fn_287_6 w n 96 (nI p) (nI m) (enc T) x a (nI k)) (nT s) (fun k a => a = enc ((mko s p m).lst (exf T x) k)) (fun o => o = _) (-1) (by omega) rfl (fun n k a hk ha => Or.inr ⟨_, rfl, ?_⟩) (fun n a ha => ?_)
  · subst ha
    have hk' : ¬ nT s ≤ k := by omega
    obtain ⟨es, hs⟩ := sh_n I hp hk
    have e8 := (m228 L R (p := p) (t := k) (by omega) (by omega)).trans (congrArg some es)
    have d : (mko s p m).D k = tn (s 107 (8 * p + k)) := if_pos hk
    have st : (mko s p m).lst (exf T x) (k + 1) = if (mko s p m).D k = 0 ∨ exf T x k = true then (mko s p m).lst (exf T x) k else if (mko s p m).lst (exf T x) k = 0 then k + 1 else if wn s m ((mko s p m).lst (exf T x) k - 1) ≤ wn s m k then (mko s p m).lst (exf T x) k else k + 1 := rfl
    rw [d] at st
    have tl := lst_le (M := mko s p m) (ex := exf T x) k
    have m1 := enc_m1 (T := (mko s p m).lst (exf T x) k) (by omega)
    have eq1 := enc_eq (k := k) (T := T) (by omega) hTT
    have b6 := b196 w x (k := k) (by omega)
    by_cases d0 : tn (s 107 (8 * p + k)) = 0
    · rw [if_pos (Or.inl d0)] at st
      rw [st]
      simp (disch := omega) only [fn_287_6, fn_287_68, ↓LMb L, LM L, RM R, hT.1, hk', e8, d0, eq_self, Nat.le_refl, Nat.lt_irrefl, some_if, Option.bind_some, Option.bind_none, Option.some.injEq, ↓reduceIte, reduceCtorEq, Bool.false_eq_true, Bool.true_eq_false, not_true_eq_false, not_false_eq_true, cmb0, cmb1, Nat.reduceAdd, Nat.reduceMul, Nat.reduceSub, Nat.add_zero, Bool.not_eq_true, Bool.not_eq_false, Nat.reduceEqDiff, Nat.reduceLeDiff, Nat.reduceLT, Int32.reduceLT, Int32.reduceLE, iin_nI, iin_lit, iin_m1, tn_nI, tn_lit, nI_lm, nI_ml, nI_al, nI_la, nI_add, pk_mul, nI_le_l, nI_l_le, nI_lt_l, nI_l_lt, nI_eq_l, nI_l_eq, nI_eqP, nI_leP, nI_ltP, nI_m1, m1_nI, nI_ll, m1_l, l_m1]
    have dp : ¬ tn (s 107 (8 * p + k)) ≤ 0 := by omega
    by_cases z1 : k + 1 = T
    · have ee : exf T x k = true := by unfold exf; rw [decide_eq_true z1]; rfl
      rw [if_pos (Or.inr ee)] at st
      rw [st]
      simp (disch := omega) only [fn_287_6, fn_287_68, ↓LMb L, LM L, RM R, hT.1, hk', e8, dp, eq1, z1, eq_self, Nat.le_refl, Nat.lt_irrefl, some_if, Option.bind_some, Option.bind_none, Option.some.injEq, ↓reduceIte, reduceCtorEq, Bool.false_eq_true, Bool.true_eq_false, not_true_eq_false, not_false_eq_true, cmb0, cmb1, Nat.reduceAdd, Nat.reduceMul, Nat.reduceSub, Nat.add_zero, Bool.not_eq_true, Bool.not_eq_false, Nat.reduceEqDiff, Nat.reduceLeDiff, Nat.reduceLT, Int32.reduceLT, Int32.reduceLE, iin_nI, iin_lit, iin_m1, tn_nI, tn_lit, nI_lm, nI_ml, nI_al, nI_la, nI_add, pk_mul, nI_le_l, nI_l_le, nI_lt_l, nI_l_lt, nI_eq_l, nI_l_eq, nI_eqP, nI_leP, nI_ltP, nI_m1, m1_nI, nI_ll, m1_l, l_m1]
    cases z2 : bit x k
    rotate_left
    · have ee : exf T x k = true := by unfold exf; rw [z2, Bool.or_true]
      rw [if_pos (Or.inr ee)] at st
      rw [st]
      rw [z2] at b6
      simp (disch := omega) only [fn_287_6, fn_287_68, ↓LMb L, LM L, RM R, hT.1, hk', e8, dp, eq1, z1, b6, eq_self, Nat.le_refl, Nat.lt_irrefl, some_if, Option.bind_some, Option.bind_none, Option.some.injEq, ↓reduceIte, reduceCtorEq, Bool.false_eq_true, Bool.true_eq_false, not_true_eq_false, not_false_eq_true, cmb0, cmb1, Nat.reduceAdd, Nat.reduceMul, Nat.reduceSub, Nat.add_zero, Bool.not_eq_true, Bool.not_eq_false, Nat.reduceEqDiff, Nat.reduceLeDiff, Nat.reduceLT, Int32.reduceLT, Int32.reduceLE, iin_nI, iin_lit, iin_m1, tn_nI, tn_lit, nI_lm, nI_ml, nI_al, nI_la, nI_add, pk_mul, nI_le_l, nI_l_le, nI_lt_l, nI_l_lt, nI_eq_l, nI_l_eq, nI_eqP, nI_leP, nI_ltP, nI_m1, m1_nI, nI_ll, m1_l, l_m1]
    have ee : ¬ (tn (s 107 (8 * p + k)) = 0 ∨ exf T x k = true) := fun h => by
      rcases h with h | h
      · exact d0 h
      · unfold exf at h; rw [decide_eq_false z1, z2] at h; cases h
    rw [z2] at b6
    rw [if_neg ee] at st
    by_cases z : (mko s p m).lst (exf T x) k = 0
    · rw [if_pos z] at st
      rw [st]
      simp (disch := omega) only [fn_287_6, fn_287_64, fn_287_68, ↓LMb L, LM L, RM R, hT.1, hk', e8, dp, eq1, z1, b6, z, enc_0, enc_s, eq_self, Nat.le_refl, Nat.lt_irrefl, some_if, Option.bind_some, Option.bind_none, Option.some.injEq, ↓reduceIte, reduceCtorEq, Bool.false_eq_true, Bool.true_eq_false, not_true_eq_false, not_false_eq_true, cmb0, cmb1, Nat.reduceAdd, Nat.reduceMul, Nat.reduceSub, Nat.add_zero, Bool.not_eq_true, Bool.not_eq_false, Nat.reduceEqDiff, Nat.reduceLeDiff, Nat.reduceLT, Int32.reduceLT, Int32.reduceLE, iin_nI, iin_lit, iin_m1, tn_nI, tn_lit, nI_lm, nI_ml, nI_al, nI_la, nI_add, pk_mul, nI_le_l, nI_l_le, nI_lt_l, nI_l_lt, nI_eq_l, nI_l_eq, nI_eqP, nI_leP, nI_ltP, nI_m1, m1_nI, nI_ll, m1_l, l_m1]
    · rw [if_neg z] at st
      have e1 : enc ((mko s p m).lst (exf T x) k) = nI ((mko s p m).lst (exf T x) k - 1) := if_neg z
      rw [e1] at m1 ⊢
      obtain ⟨w1, h1⟩ := wo_n I hk hm
      obtain ⟨w2, h2⟩ := wo_n I (t := (mko s p m).lst (exf T x) k - 1) (by omega) hm
      have f1 := (m222 L R (t := k) (by omega) (nI m)).trans (congrArg some w1)
      have f2 := (m222 L R (t := (mko s p m).lst (exf T x) k - 1) (by omega) (nI m)).trans (congrArg some w2)
      by_cases z4 : wn s m ((mko s p m).lst (exf T x) k - 1) ≤ wn s m k
      · rw [if_pos z4] at st
        rw [st, e1]
        simp (disch := omega) only [fn_287_6, fn_287_64, fn_287_68, ↓LMb L, LM L, RM R, hT.1, hk', e8, dp, eq1, z1, b6, m1, z, f1, f2, z4, eq_self, Nat.le_refl, Nat.lt_irrefl, some_if, Option.bind_some, Option.bind_none, Option.some.injEq, ↓reduceIte, reduceCtorEq, Bool.false_eq_true, Bool.true_eq_false, not_true_eq_false, not_false_eq_true, cmb0, cmb1, Nat.reduceAdd, Nat.reduceMul, Nat.reduceSub, Nat.add_zero, Bool.not_eq_true, Bool.not_eq_false, Nat.reduceEqDiff, Nat.reduceLeDiff, Nat.reduceLT, Int32.reduceLT, Int32.reduceLE, iin_nI, iin_lit, iin_m1, tn_nI, tn_lit, nI_lm, nI_ml, nI_al, nI_la, nI_add, pk_mul, nI_le_l, nI_l_le, nI_lt_l, nI_l_lt, nI_eq_l, nI_l_eq, nI_eqP, nI_leP, nI_ltP, nI_m1, m1_nI, nI_ll, m1_l, l_m1]
      · rw [if_neg z4] at st
        rw [st]
        simp (disch := omega) only [fn_287_6, fn_287_64, fn_287_68, ↓LMb L, LM L, RM R, hT.1, hk', e8, dp, eq1, z1, b6, m1, z, f1, f2, z4, enc_s, eq_self, Nat.le_refl, Nat.lt_irrefl, some_if, Option.bind_some, Option.bind_none, Option.some.injEq, ↓reduceIte, reduceCtorEq, Bool.false_eq_true, Bool.true_eq_false, not_true_eq_false, not_false_eq_true, cmb0, cmb1, Nat.reduceAdd, Nat.reduceMul, Nat.reduceSub, Nat.add_zero, Bool.not_eq_true, Bool.not_eq_false, Nat.reduceEqDiff, Nat.reduceLeDiff, Nat.reduceLT, Int32.reduceLT, Int32.reduceLE, iin_nI, iin_lit, iin_m1, tn_nI, tn_lit, nI_lm, nI_ml, nI_al, nI_la, nI_add, pk_mul, nI_le_l, nI_l_le, nI_lt_l, nI_l_lt, nI_eq_l, nI_l_eq, nI_eqP, nI_leP, nI_ltP, nI_m1, m1_nI, nI_ll, m1_l, l_m1]
  · subst ha
    simp (disch := omega) only [fn_287_6, ↓LMb L, LM L, RM R, hT.1, eq_self, Nat.le_refl, Nat.lt_irrefl, some_if, Option.bind_some, Option.bind_none, Option.some.injEq, ↓reduceIte, reduceCtorEq, Bool.false_eq_true, Bool.true_eq_false, not_true_eq_false, not_false_eq_true, cmb0, cmb1, Nat.reduceAdd, Nat.reduceMul, Nat.reduceSub, Nat.add_zero, Bool.not_eq_true, Bool.not_eq_false, Nat.reduceEqDiff, Nat.reduceLeDiff, Nat.reduceLT, Int32.reduceLT, Int32.reduceLE, iin_nI, iin_lit, iin_m1, tn_nI, tn_lit, nI_lm, nI_ml, nI_al, nI_la, nI_add, pk_mul, nI_le_l, nI_l_le, nI_lt_l, nI_l_lt, nI_eq_l, nI_l_eq, nI_eqP, nI_leP, nI_ltP, nI_m1, m1_nI, nI_ll, m1_l, l_m1]
end HON
