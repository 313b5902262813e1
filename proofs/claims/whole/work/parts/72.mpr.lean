/-! the reference's market: the price where it rests, what is lost -/
section MPR
variable {v c u n m : Nat} {w w' : cm_W} {s s' : St} {D : Nat → Nat}
theorem enc_p (q : Nat) : nI q + (-1) = enc q := by
  rcases q with _ | q
  · rfl
  · show nI (q + 1) + (-1) = nI q
    rw [← nI_add q 1, Int32.add_assoc]
    exact Int32.add_zero _
theorem m270 (L : Lay v c w) (R : RelM w s) (I : InvV s) (K : MkM w (mm s m D)) (O : (mm s m D).Ok) (hm : m < 6) {q : Nat} (hq : q < 1000) : fn_270 w 96 (nI m) (nI q) = some (msk ((mm s m D).sold q) (nT s)) := by
  have hT := I.1
  refine up_f (fun n k a => fn_270_5 w n 96 (nI m) (nI q) a (nI k)) (nT s) (fun t a => if (mm s m D).sold q t then a ||| ((1 : Int32) <<< (nI t &&& 31)) else a) 0 _ (by omega) (fun n t a ht => ?_) (fun n => ?_)
  · have ht' : ¬ nT s ≤ t := by omega
    have hd := O.Db t
    have e := K t ht
    have e3 := (m223 L R (t := t) (by omega) (nI m)).trans (congrArg some (ko_n I ht hm))
    have k1 := O.1 t ht
    have kk : (mm s m D).K t = kn s m t := rfl
    rw [kk] at k1
    have l1 : ∀ x : Int32, fn_195 w 0 = some 0 ∧ fn_195 w 1 = some 1 := fun _ => ⟨rfl, rfl⟩
    have l2 := (l1 0).1
    have l3 := (l1 0).2
    by_cases z : (mm s m D).D t = 0
    · have so : (mm s m D).sold q t = false := decide_eq_false (fun h => by omega)
      rw [so]
      simp (disch := omega) only [fn_270_5, ↓LMb L, LM L, RM R, hT.1, ht', e, lgc_le, lle0, z, l2, sh0, Int32.or_zero, eq_self, Nat.le_refl, Nat.lt_irrefl, some_if, Option.bind_some, Option.bind_none, Option.some.injEq, ↓reduceIte, reduceCtorEq, Bool.false_eq_true, Bool.true_eq_false, not_true_eq_false, not_false_eq_true, cmb0, cmb1, Nat.reduceAdd, Nat.reduceMul, Nat.reduceSub, Nat.add_zero, Bool.not_eq_true, Bool.not_eq_false, Nat.reduceEqDiff, Nat.reduceLeDiff, Nat.reduceLT, Int32.reduceLT, Int32.reduceLE, iin_nI, iin_lit, iin_m1, tn_nI, tn_lit, nI_lm, nI_ml, nI_al, nI_la, nI_add, pk_mul, nI_le_l, nI_l_le, nI_lt_l, nI_l_lt, nI_eq_l, nI_l_eq, nI_eqP, nI_leP, nI_ltP, nI_m1, m1_nI, nI_ll, m1_l, l_m1]
    · by_cases z2 : kn s m t ≤ q
      · have so : (mm s m D).sold q t = true := decide_eq_true ⟨by omega, z2⟩
        have z3 : ¬ q < kn s m t := by omega
        rw [so]
        simp (disch := omega) only [fn_270_5, ↓LMb L, LM L, RM R, hT.1, ht', e, lgc_le, lle0, z, z3, e3, l3, eq_self, Nat.le_refl, Nat.lt_irrefl, some_if, Option.bind_some, Option.bind_none, Option.some.injEq, ↓reduceIte, reduceCtorEq, Bool.false_eq_true, Bool.true_eq_false, not_true_eq_false, not_false_eq_true, cmb0, cmb1, Nat.reduceAdd, Nat.reduceMul, Nat.reduceSub, Nat.add_zero, Bool.not_eq_true, Bool.not_eq_false, Nat.reduceEqDiff, Nat.reduceLeDiff, Nat.reduceLT, Int32.reduceLT, Int32.reduceLE, iin_nI, iin_lit, iin_m1, tn_nI, tn_lit, nI_lm, nI_ml, nI_al, nI_la, nI_add, pk_mul, nI_le_l, nI_l_le, nI_lt_l, nI_l_lt, nI_eq_l, nI_l_eq, nI_eqP, nI_leP, nI_ltP, nI_m1, m1_nI, nI_ll, m1_l, l_m1]
      · have so : (mm s m D).sold q t = false := decide_eq_false (fun h => z2 h.2)
        have z3 : q < kn s m t := by omega
        rw [so]
        simp (disch := omega) only [fn_270_5, ↓LMb L, LM L, RM R, hT.1, ht', e, lgc_le, lle0, z, z3, e3, l2, sh0, Int32.or_zero, eq_self, Nat.le_refl, Nat.lt_irrefl, some_if, Option.bind_some, Option.bind_none, Option.some.injEq, ↓reduceIte, reduceCtorEq, Bool.false_eq_true, Bool.true_eq_false, not_true_eq_false, not_false_eq_true, cmb0, cmb1, Nat.reduceAdd, Nat.reduceMul, Nat.reduceSub, Nat.add_zero, Bool.not_eq_true, Bool.not_eq_false, Nat.reduceEqDiff, Nat.reduceLeDiff, Nat.reduceLT, Int32.reduceLT, Int32.reduceLE, iin_nI, iin_lit, iin_m1, tn_nI, tn_lit, nI_lm, nI_ml, nI_al, nI_la, nI_add, pk_mul, nI_le_l, nI_l_le, nI_lt_l, nI_l_lt, nI_eq_l, nI_l_eq, nI_eqP, nI_leP, nI_ltP, nI_m1, m1_nI, nI_ll, m1_l, l_m1]
  · simp (disch := omega) only [fn_270_5, ↓LMb L, LM L, RM R, hT.1, eq_self, Nat.le_refl, Nat.lt_irrefl, some_if, Option.bind_some, Option.bind_none, Option.some.injEq, ↓reduceIte, reduceCtorEq, Bool.false_eq_true, Bool.true_eq_false, not_true_eq_false, not_false_eq_true, cmb0, cmb1, Nat.reduceAdd, Nat.reduceMul, Nat.reduceSub, Nat.add_zero, Bool.not_eq_true, Bool.not_eq_false, Nat.reduceEqDiff, Nat.reduceLeDiff, Nat.reduceLT, Int32.reduceLT, Int32.reduceLE, iin_nI, iin_lit, iin_m1, tn_nI, tn_lit, nI_lm, nI_ml, nI_al, nI_la, nI_add, pk_mul, nI_le_l, nI_l_le, nI_lt_l, nI_l_lt, nI_eq_l, nI_l_eq, nI_eqP, nI_leP, nI_ltP, nI_m1, m1_nI, nI_ll, m1_l, l_m1]
    rfl
theorem m271 (L : Lay v c w) (R : RelM w s) (I : InvV s) (K : MkM w (mm s m D)) (O : (mm s m D).Ok) (hm : m < 6) (q : Nat) : fn_271 w 96 (msk ((mm s m D).sold q) (nT s)) (nI m) = some (if (mm s m D).SD q = 0 then -1 else lN ((mm s m D).SU q / (mm s m D).SD q)) := by
  have hT := I.1
  generalize hM : mm s m D = M at *
  have Mn : M.n = nT s := by rw [← hM]; rfl
  have MU : ∀ t, M.U t = wn s m t := fun t => by rw [← hM]; rfl
  refine up_0 (fun n k (a : Int64 × Int64) => fn_271_8 w n 96 (msk (M.sold q) (nT s)) (nI m) a.1 a.2 (nI k)) (nT s) (fun k a => a.2 = lN (sgm (fun t => if M.sold q t then M.D t else 0) k) ∧ a.1 = lN (sgm (fun t => if M.sold q t then M.D t * M.U t else 0) k)) (fun o => o = _) ((0 : Int64), (0 : Int64)) (by omega) ⟨rfl, rfl⟩ (fun n k a hk ha => Or.inr ?_) (fun n a ha => ?_)
  · obtain ⟨a1, a2⟩ := a
    obtain ⟨rfl, rfl⟩ := ha
    have hk' : ¬ nT s ≤ k := by omega
    have e := m196 w (M.sold q) hT.2 hk
    have e2 := (m222 L R (t := k) (by omega) (nI m)).trans (congrArg some (wo_n I hk hm).1)
    have k2 := O.1 k (by omega)
    rw [MU] at k2
    have eD := K k (by omega)
    by_cases z : M.sold q k = true
    · rw [z] at e
      refine ⟨(lN (sgm (fun t => if M.sold q t then M.D t * M.U t else 0) k + M.D k * M.U k), lN (sgm (fun t => if M.sold q t then M.D t else 0) k + M.D k)), ⟨?_, ?_⟩, ?_⟩
      · show lN (_ + M.D k) = lN (_ + if M.sold q k then M.D k else 0)
        rw [if_pos z]
      · show lN (_ + M.D k * M.U k) = lN (_ + if M.sold q k then M.D k * M.U k else 0)
        rw [if_pos z]
      · rw [MU]
        simp (disch := omega) only [fn_271_8, fn_271_29, fn_271_60, hk', hT.1, ↓LMb L, LM L, RM R, e, e2, eD, nI_l, lN_mul, lN_add, eq_self, Nat.le_refl, Nat.lt_irrefl, some_if, Option.bind_some, Option.bind_none, Option.some.injEq, ↓reduceIte, reduceCtorEq, Bool.false_eq_true, Bool.true_eq_false, not_true_eq_false, not_false_eq_true, cmb0, cmb1, Nat.reduceAdd, Nat.reduceMul, Nat.reduceSub, Nat.add_zero, Bool.not_eq_true, Bool.not_eq_false, Nat.reduceEqDiff, Nat.reduceLeDiff, Nat.reduceLT, Int32.reduceLT, Int32.reduceLE, iin_nI, iin_lit, iin_m1, tn_nI, tn_lit, nI_lm, nI_ml, nI_al, nI_la, nI_add, pk_mul, nI_le_l, nI_l_le, nI_lt_l, nI_l_lt, nI_eq_l, nI_l_eq, nI_eqP, nI_leP, nI_ltP, nI_m1, m1_nI, nI_ll, m1_l, l_m1]
    · have z2 : M.sold q k = false := by rw [Bool.not_eq_true] at z; exact z
      rw [z2] at e
      refine ⟨(lN (sgm (fun t => if M.sold q t then M.D t * M.U t else 0) k), lN (sgm (fun t => if M.sold q t then M.D t else 0) k)), ⟨?_, ?_⟩, ?_⟩
      · show lN _ = lN (_ + if M.sold q k then M.D k else 0)
        rw [if_neg z]; rfl
      · show lN _ = lN (_ + if M.sold q k then M.D k * M.U k else 0)
        rw [if_neg z]; rfl
      · simp (disch := omega) only [fn_271_8, fn_271_60, hk', hT.1, ↓LMb L, LM L, RM R, e, eq_self, Nat.le_refl, Nat.lt_irrefl, some_if, Option.bind_some, Option.bind_none, Option.some.injEq, ↓reduceIte, reduceCtorEq, Bool.false_eq_true, Bool.true_eq_false, not_true_eq_false, not_false_eq_true, cmb0, cmb1, Nat.reduceAdd, Nat.reduceMul, Nat.reduceSub, Nat.add_zero, Bool.not_eq_true, Bool.not_eq_false, Nat.reduceEqDiff, Nat.reduceLeDiff, Nat.reduceLT, Int32.reduceLT, Int32.reduceLE, iin_nI, iin_lit, iin_m1, tn_nI, tn_lit, nI_lm, nI_ml, nI_al, nI_la, nI_add, pk_mul, nI_le_l, nI_l_le, nI_lt_l, nI_l_lt, nI_eq_l, nI_l_eq, nI_eqP, nI_leP, nI_ltP, nI_m1, m1_nI, nI_ll, m1_l, l_m1]
  · obtain ⟨a1, a2⟩ := a
    obtain ⟨rfl, rfl⟩ := ha
    have e1 : sgm (fun t => if M.sold q t then M.D t else 0) (nT s) = M.SD q := by rw [← Mn]; rfl
    have e2 : sgm (fun t => if M.sold q t then M.D t * M.U t else 0) (nT s) = M.SU q := by rw [← Mn]; rfl
    have b1 := Mk.SD_le O q
    have b2 := SU_b O q
    show fn_271_8 w (n + 1) 96 _ (nI m) (lN (sgm (fun t => if M.sold q t then M.D t * M.U t else 0) (nT s))) (lN (sgm (fun t => if M.sold q t then M.D t else 0) (nT s))) (nI (nT s)) = _
    rw [e1, e2]
    by_cases z : M.SD q = 0
    · simp (disch := omega) only [fn_271_8, fn_271_66, hT.1, ↓LMb L, LM L, RM R, lgc_eq, leq0, z, eq_self, Nat.le_refl, Nat.lt_irrefl, some_if, Option.bind_some, Option.bind_none, Option.some.injEq, ↓reduceIte, reduceCtorEq, Bool.false_eq_true, Bool.true_eq_false, not_true_eq_false, not_false_eq_true, cmb0, cmb1, Nat.reduceAdd, Nat.reduceMul, Nat.reduceSub, Nat.add_zero, Bool.not_eq_true, Bool.not_eq_false, Nat.reduceEqDiff, Nat.reduceLeDiff, Nat.reduceLT, Int32.reduceLT, Int32.reduceLE, iin_nI, iin_lit, iin_m1, tn_nI, tn_lit, nI_lm, nI_ml, nI_al, nI_la, nI_add, pk_mul, nI_le_l, nI_l_le, nI_lt_l, nI_l_lt, nI_eq_l, nI_l_eq, nI_eqP, nI_leP, nI_ltP, nI_m1, m1_nI, nI_ll, m1_l, l_m1]
    · simp (disch := omega) only [fn_271_8, fn_271_66, fn_271_79, hT.1, ↓LMb L, LM L, RM R, lgc_eq, leq0, z, pk_lDiv, eq_self, Nat.le_refl, Nat.lt_irrefl, some_if, Option.bind_some, Option.bind_none, Option.some.injEq, ↓reduceIte, reduceCtorEq, Bool.false_eq_true, Bool.true_eq_false, not_true_eq_false, not_false_eq_true, cmb0, cmb1, Nat.reduceAdd, Nat.reduceMul, Nat.reduceSub, Nat.add_zero, Bool.not_eq_true, Bool.not_eq_false, Nat.reduceEqDiff, Nat.reduceLeDiff, Nat.reduceLT, Int32.reduceLT, Int32.reduceLE, iin_nI, iin_lit, iin_m1, tn_nI, tn_lit, nI_lm, nI_ml, nI_al, nI_la, nI_add, pk_mul, nI_le_l, nI_l_le, nI_lt_l, nI_l_lt, nI_eq_l, nI_l_eq, nI_eqP, nI_leP, nI_ltP, nI_m1, m1_nI, nI_ll, m1_l, l_m1]
/-- the mask behind a search -/
def smk (M : Mk) (x : Nat) : Int32 := if x = 0 then 0 else msk (M.sold (x - 1)) M.n
theorem m272 (L : Lay v c w) (R : RelM w s) (I : InvV s) (K : MkM w (mm s m D)) (O : (mm s m D).Ok) (hm : m < 6) : ∃ y, fn_272 96 (nI m) w = some (rp (mm s m D), y) ∧ FM v c w y s ∧ cm_L y = cm_L w ∧ cm_I y 96 66 = smk (mm s m D) (mm s m D).rest := by
  have hT := I.1
  have main : ∀ q, q ≤ 1000 → ∀ n a, q < n → FM v c w a s → cm_L a = cm_L w → ∃ y, fn_272_4 n 96 (nI m) (enc q) a = some (enc ((mm s m D).scan q), y) ∧ FM v c w y s ∧ cm_L y = cm_L w ∧ cm_I y 96 66 = smk (mm s m D) ((mm s m D).scan q) := by
    intro q
    induction q with
    | zero =>
      intro _ n a hn F hl
      obtain ⟨n, rfl⟩ : ∃ k, n = k + 1 := ⟨n - 1, by omega⟩
      refine ⟨cm_sI a 96 66 0, ?_, F.sI (by omega) rfl, hl, I_eq⟩
      show fn_272_4 (n + 1) 96 (nI m) (-1) a = some (-1, _)
      have m1 : (-1 : Int32) < 0 := by decide
      simp (disch := omega) only [fn_272_4, fn_272_48, m1, LM F.1, cm_w2, Nat.reduceLeDiff, Nat.reduceLT, decide_true, Bool.and_self, Bool.and_true, eq_self, Nat.le_refl, Nat.lt_irrefl, some_if, Option.bind_some, Option.bind_none, Option.some.injEq, ↓reduceIte, reduceCtorEq, Bool.false_eq_true, Bool.true_eq_false, not_true_eq_false, not_false_eq_true, cmb0, cmb1, Nat.reduceAdd, Nat.reduceMul, Nat.reduceSub, Nat.add_zero, Bool.not_eq_true, Bool.not_eq_false, Nat.reduceEqDiff, Nat.reduceLeDiff, Nat.reduceLT, Int32.reduceLT, Int32.reduceLE, iin_nI, iin_lit, iin_m1, tn_nI, tn_lit, nI_lm, nI_ml, nI_al, nI_la, nI_add, pk_mul, nI_le_l, nI_l_le, nI_lt_l, nI_l_lt, nI_eq_l, nI_l_eq, nI_eqP, nI_leP, nI_ltP, nI_m1, m1_nI, nI_ll, m1_l, l_m1]
    | succ q ih =>
      intro hq n a hn F hl
      obtain ⟨n, rfl⟩ : ∃ k, n = k + 1 := ⟨n - 1, by omega⟩
      have K1 : MkM a (mm s m D) := fun t ht => by rw [hl]; exact K t ht
      have e0 := m270 F.1 F.2.1 I K1 O hm (q := q) (by omega)
      have F2 : FM v c w (cm_sI a 96 66 (msk ((mm s m D).sold q) (nT s))) s := F.sI (by omega) rfl
      have K2 : MkM (cm_sI a 96 66 (msk ((mm s m D).sold q) (nT s))) (mm s m D) := K1
      have e1 := m271 F2.1 F2.2.1 I K2 O hm q
      have q0 : ¬ nI q < 0 := nI_pos (by omega)
      have nx := ih (by omega) n _ (by omega) F2 hl
      have e42 : fn_272_42 (fn_272_4 n) 96 (nI m) (nI q) (cm_sI a 96 66 (msk ((mm s m D).sold q) (nT s))) = fn_272_4 n 96 (nI m) (enc q) (cm_sI a 96 66 (msk ((mm s m D).sold q) (nT s))) := by
        unfold fn_272_42
        rw [enc_p]
      have sc : (mm s m D).scan (q + 1) = if (mm s m D).good q then q + 1 else (mm s m D).scan q := rfl
      show ∃ y, fn_272_4 (n + 1) 96 (nI m) (nI q) a = _ ∧ _
      generalize hM : mm s m D = M at *
      have Mn : M.n = nT s := by rw [← hM]; rfl
      have b1 := Mk.SD_le O q
      have ml := Mk.mean_lt O q
      by_cases z : M.SD q = 0
      · have g : M.good q = false := decide_eq_false (fun h => by omega)
        rw [g] at sc
        have mz : msk (M.sold q) (nT s) = 0 := msk_no _ _ fun k hk => by
          cases h : M.sold q k
          · rfl
          · exact absurd (Mk.SD_pos (by omega) h) (by omega)
        have st : fn_272_4 (n + 1) 96 (nI m) (nI q) a = fn_272_42 (fn_272_4 n) 96 (nI m) (nI q) (cm_sI a 96 66 (msk (M.sold q) (nT s))) := by
          rw [mz] at e0 ⊢
          simp (disch := omega) only [fn_272_4, q0, LM F.1, e0, I_eq, cm_w2, Nat.reduceLeDiff, Nat.reduceLT, decide_true, Bool.and_self, Bool.and_true, eq_self, Nat.le_refl, Nat.lt_irrefl, some_if, Option.bind_some, Option.bind_none, Option.some.injEq, ↓reduceIte, reduceCtorEq, Bool.false_eq_true, Bool.true_eq_false, not_true_eq_false, not_false_eq_true, cmb0, cmb1, Nat.reduceAdd, Nat.reduceMul, Nat.reduceSub, Nat.add_zero, Bool.not_eq_true, Bool.not_eq_false, Nat.reduceEqDiff, Nat.reduceLeDiff, Nat.reduceLT, Int32.reduceLT, Int32.reduceLE, iin_nI, iin_lit, iin_m1, tn_nI, tn_lit, nI_lm, nI_ml, nI_al, nI_la, nI_add, pk_mul, nI_le_l, nI_l_le, nI_lt_l, nI_l_lt, nI_eq_l, nI_l_eq, nI_eqP, nI_leP, nI_ltP, nI_m1, m1_nI, nI_ll, m1_l, l_m1]
        rw [st, e42, sc]
        exact nx
      · obtain ⟨k, hk, hs⟩ := Mk.SD_ex (m := M) (q := q) (by omega)
        have mz : ¬ msk (M.sold q) (nT s) = 0 := msk_yes _ hT.2 (k := k) (by omega) hs
        rw [if_neg z] at e1
        by_cases g : M.good q = true
        · rw [if_pos g] at sc
          have g2 := (of_decide_eq_true g).2
          rw [sc]
          refine ⟨_, ?_, F2, hl, ?_⟩
          · have e9 : ¬ (0 < lg_cmp (nI q).toInt64 (lN (M.SU q / M.SD q))) := by
              rw [lgc_gt, nI_l (by omega), pk_lLT (by omega) (by omega)]
              omega
            simp (disch := omega) only [fn_272_4, q0, LM F.1, e0, I_eq, mz, e1, e9, enc_s, cm_w2, Nat.reduceLeDiff, Nat.reduceLT, decide_true, Bool.and_self, Bool.and_true, eq_self, Nat.le_refl, Nat.lt_irrefl, some_if, Option.bind_some, Option.bind_none, Option.some.injEq, ↓reduceIte, reduceCtorEq, Bool.false_eq_true, Bool.true_eq_false, not_true_eq_false, not_false_eq_true, cmb0, cmb1, Nat.reduceAdd, Nat.reduceMul, Nat.reduceSub, Nat.add_zero, Bool.not_eq_true, Bool.not_eq_false, Nat.reduceEqDiff, Nat.reduceLeDiff, Nat.reduceLT, Int32.reduceLT, Int32.reduceLE, iin_nI, iin_lit, iin_m1, tn_nI, tn_lit, nI_lm, nI_ml, nI_al, nI_la, nI_add, pk_mul, nI_le_l, nI_l_le, nI_lt_l, nI_l_lt, nI_eq_l, nI_l_eq, nI_eqP, nI_leP, nI_ltP, nI_m1, m1_nI, nI_ll, m1_l, l_m1]
          · rw [I_eq]; unfold smk; rw [if_neg (by omega), Mn]; rfl
        · have g2 : ¬ q ≤ M.SU q / M.SD q := fun h => g (decide_eq_true ⟨by omega, h⟩)
          rw [if_neg g] at sc
          have st : fn_272_4 (n + 1) 96 (nI m) (nI q) a = fn_272_42 (fn_272_4 n) 96 (nI m) (nI q) (cm_sI a 96 66 (msk (M.sold q) (nT s))) := by
            have e9 : (0 < lg_cmp (nI q).toInt64 (lN (M.SU q / M.SD q))) := by
              rw [lgc_gt, nI_l (by omega), pk_lLT (by omega) (by omega)]
              omega
            simp (disch := omega) only [fn_272_4, q0, LM F.1, e0, I_eq, mz, e1, e9, cm_w2, Nat.reduceLeDiff, Nat.reduceLT, decide_true, Bool.and_self, Bool.and_true, eq_self, Nat.le_refl, Nat.lt_irrefl, some_if, Option.bind_some, Option.bind_none, Option.some.injEq, ↓reduceIte, reduceCtorEq, Bool.false_eq_true, Bool.true_eq_false, not_true_eq_false, not_false_eq_true, cmb0, cmb1, Nat.reduceAdd, Nat.reduceMul, Nat.reduceSub, Nat.add_zero, Bool.not_eq_true, Bool.not_eq_false, Nat.reduceEqDiff, Nat.reduceLeDiff, Nat.reduceLT, Int32.reduceLT, Int32.reduceLE, iin_nI, iin_lit, iin_m1, tn_nI, tn_lit, nI_lm, nI_ml, nI_al, nI_la, nI_add, pk_mul, nI_le_l, nI_l_le, nI_lt_l, nI_l_lt, nI_eq_l, nI_l_eq, nI_eqP, nI_leP, nI_ltP, nI_m1, m1_nI, nI_ll, m1_l, l_m1]
          rw [st, e42, sc]
          exact nx
  exact main 1000 (by omega) cm_N w (by decide +kernel) (FM.rf L R) rfl
theorem m196s (w : cm_W) (M : Mk) (O : M.Ok) {k : Nat} (hk : k < M.n) : fn_196 w (smk M M.rest) (nI k) = some (decide (M.rest ≠ 0 ∧ M.sold (M.rest - 1) k = true)) := by
  have hn := O.2.2.1
  unfold smk
  by_cases z : M.rest = 0
  · rw [if_pos z, decide_eq_false (fun h => h.1 z)]
    have := m196 w (fun _ => false) hn hk
    rw [msk_no _ _ (fun _ _ => rfl)] at this
    exact this
  · rw [if_neg z, m196 w _ hn hk]
    cases M.sold (M.rest - 1) k
    · rw [decide_eq_false (fun h => by cases h.2)]
    · rw [decide_eq_true ⟨z, rfl⟩]
theorem m274 (L : Lay v c w) (R : RelM w s) (I : InvV s) (K : MkM w (mm s m D)) (O : (mm s m D).Ok) (hm : m < 6) : ∃ y, fn_274 96 (nI m) w = some y ∧ FM v c w y s ∧ cm_L y 96 67 = cm_L w 96 67 + lN (mm s m D).lost ∧ cm_L y 96 68 = cm_L w 96 68 + lN (mm s m D).tot := by
  have hT := I.1
  obtain ⟨y0, a1, F0, a3, a4⟩ := m272 L R I K O hm
  have e0 : fn_274 96 (nI m) w = fn_274_8 cm_N 96 (nI m) (rp (mm s m D)) 0 y0 := by
    simp (disch := omega) only [fn_274, LM L, a1, eq_self, Nat.le_refl, Nat.lt_irrefl, some_if, Option.bind_some, Option.bind_none, Option.some.injEq, ↓reduceIte, reduceCtorEq, Bool.false_eq_true, Bool.true_eq_false, not_true_eq_false, not_false_eq_true, cmb0, cmb1, Nat.reduceAdd, Nat.reduceMul, Nat.reduceSub, Nat.add_zero, Bool.not_eq_true, Bool.not_eq_false, Nat.reduceEqDiff, Nat.reduceLeDiff, Nat.reduceLT, Int32.reduceLT, Int32.reduceLE, iin_nI, iin_lit, iin_m1, tn_nI, tn_lit, nI_lm, nI_ml, nI_al, nI_la, nI_add, pk_mul, nI_le_l, nI_l_le, nI_lt_l, nI_l_lt, nI_eq_l, nI_l_eq, nI_eqP, nI_leP, nI_ltP, nI_m1, m1_nI, nI_ll, m1_l, l_m1]
  rw [e0]
  refine up_0 (fun n k a => fn_274_8 n 96 (nI m) (rp (mm s m D)) (nI k) a) (nT s) (fun k a => FM v c w a s ∧ cm_I a 96 66 = smk (mm s m D) (mm s m D).rest ∧ (∀ b, b ≠ 96 → cm_L a b = cm_L w b) ∧ cm_L a 96 67 = cm_L w 96 67 + lN (sgm (mm s m D).un k) ∧ cm_L a 96 68 = cm_L w 96 68 + lN (sgm (mm s m D).D k)) (fun o => ∃ y, o = some y ∧ FM v c w y s ∧ cm_L y 96 67 = cm_L w 96 67 + lN (mm s m D).lost ∧ cm_L y 96 68 = cm_L w 96 68 + lN (mm s m D).tot) y0 (by omega) ⟨F0, a4, fun b _ => by rw [a3], by rw [a3]; exact (Int64.add_zero _).symm, by rw [a3]; exact (Int64.add_zero _).symm⟩ (fun n k a hk ha => Or.inr ?_) (fun n a ha => ?_)
  · obtain ⟨F, h66, hf, h67, h68⟩ := ha
    have hk' : ¬ nT s ≤ k := by omega
    have F1 : FM v c w (cm_sL a 96 68 (cm_L a 96 68 + lN ((mm s m D).D k))) s := F.sL (by omega) (by omega) (by omega)
    have eD : cm_L a 136 k = lN ((mm s m D).D k) := by rw [hf 136 (by omega)]; exact K k hk
    have e6 := m196s (cm_sL a 96 68 (cm_L a 96 68 + lN ((mm s m D).D k))) (mm s m D) O (k := k) hk
    have e2 := (m222 F1.1 F1.2.1 (t := k) (by omega) (nI m)).trans (congrArg some (wo_n I hk hm).1)
    have e3 := (m223 F1.1 F1.2.1 (t := k) (by omega) (nI m)).trans (congrArg some (ko_n I hk hm))
    have k1 := O.1 k hk
    have kK : (mm s m D).K k = kn s m k := rfl
    have kU : (mm s m D).U k = wn s m k := rfl
    rw [kK, kU] at k1
    have s68 : cm_L w 96 68 + lN (sgm (mm s m D).D (k + 1)) = cm_L a 96 68 + lN ((mm s m D).D k) := by
      rw [h68, Int64.add_assoc, lN_add]; rfl
    by_cases z : (mm s m D).rest ≠ 0 ∧ (mm s m D).sold ((mm s m D).rest - 1) k = true
    · rw [decide_eq_true z] at e6
      have r1 : ¬ rp (mm s m D) = -1 := by
        have := (mm s m D).scan_le 1000
        unfold rp
        rw [if_neg z.1, nI_m1 (by unfold Mk.rest; omega)]
        exact id
      refine ⟨cm_sL a 96 68 (cm_L a 96 68 + lN ((mm s m D).D k)), ⟨F1, h66, fun b hb => ?_, ?_, ?_⟩, ?_⟩
      · rw [← hf b hb]; funext j; exact L_ne hb
      · rw [L_nk (by omega), h67]
        have : (mm s m D).un k = 0 := if_pos z
        show _ = _ + lN (sgm (mm s m D).un k + (mm s m D).un k)
        rw [this]; rfl
      · rw [L_eq]; exact s68.symm
      · simp (disch := omega) only [fn_274_8, fn_274_77, ↓LMb F.1, LM F.1, RM F.2.1, hT.1, hk', eD, r1, h66, e6, I_sL, cm_w2, Nat.reduceLeDiff, Nat.reduceLT, decide_true, Bool.and_self, Bool.and_true, eq_self, Nat.le_refl, Nat.lt_irrefl, some_if, Option.bind_some, Option.bind_none, Option.some.injEq, ↓reduceIte, reduceCtorEq, Bool.false_eq_true, Bool.true_eq_false, not_true_eq_false, not_false_eq_true, cmb0, cmb1, Nat.reduceAdd, Nat.reduceMul, Nat.reduceSub, Nat.add_zero, Bool.not_eq_true, Bool.not_eq_false, Nat.reduceEqDiff, Nat.reduceLeDiff, Nat.reduceLT, Int32.reduceLT, Int32.reduceLE, iin_nI, iin_lit, iin_m1, tn_nI, tn_lit, nI_lm, nI_ml, nI_al, nI_la, nI_add, pk_mul, nI_le_l, nI_l_le, nI_lt_l, nI_l_lt, nI_eq_l, nI_l_eq, nI_eqP, nI_leP, nI_ltP, nI_m1, m1_nI, nI_ll, m1_l, l_m1]
    · rw [decide_eq_false z] at e6
      have un : (mm s m D).un k = (mm s m D).D k * (wn s m k - kn s m k) := if_neg z
      have e47 : fn_274_47 (fn_274_8 n) 96 (nI m) (rp (mm s m D)) (nI k) (cm_sL a 96 68 (cm_L a 96 68 + lN ((mm s m D).D k))) = fn_274_8 n 96 (nI m) (rp (mm s m D)) (nI (k + 1)) (cm_sL (cm_sL a 96 68 (cm_L a 96 68 + lN ((mm s m D).D k))) 96 67 (cm_L a 96 67 + lN ((mm s m D).un k))) := by
        have l1 : cm_L (cm_sL a 96 68 (cm_L a 96 68 + lN ((mm s m D).D k))) 136 k = lN ((mm s m D).D k) := by rw [L_ne (by omega)]; exact eD
        have l2 : cm_L (cm_sL a 96 68 (cm_L a 96 68 + lN ((mm s m D).D k))) 96 67 = cm_L a 96 67 := L_nk (by omega)
        rw [un]
        simp (disch := omega) only [fn_274_47, fn_274_77, ↓LMb F1.1, LM F1.1, RM F1.2.1, l1, l2, e2, e3, pk_sub, nI_l, lN_mul, cm_w2, Nat.reduceLeDiff, Nat.reduceLT, decide_true, Bool.and_self, Bool.and_true, eq_self, Nat.le_refl, Nat.lt_irrefl, some_if, Option.bind_some, Option.bind_none, Option.some.injEq, ↓reduceIte, reduceCtorEq, Bool.false_eq_true, Bool.true_eq_false, not_true_eq_false, not_false_eq_true, cmb0, cmb1, Nat.reduceAdd, Nat.reduceMul, Nat.reduceSub, Nat.add_zero, Bool.not_eq_true, Bool.not_eq_false, Nat.reduceEqDiff, Nat.reduceLeDiff, Nat.reduceLT, Int32.reduceLT, Int32.reduceLE, iin_nI, iin_lit, iin_m1, tn_nI, tn_lit, nI_lm, nI_ml, nI_al, nI_la, nI_add, pk_mul, nI_le_l, nI_l_le, nI_lt_l, nI_l_lt, nI_eq_l, nI_l_eq, nI_eqP, nI_leP, nI_ltP, nI_m1, m1_nI, nI_ll, m1_l, l_m1]
      refine ⟨_, ⟨F1.sL (by omega) (by omega) (by omega), h66, fun b hb => ?_, ?_, ?_⟩, Eq.trans ?_ e47⟩
      · rw [← hf b hb]; funext j; rw [L_ne hb, L_ne hb]
      · rw [L_eq, h67, Int64.add_assoc, lN_add]; rfl
      · rw [L_nk (by omega), L_eq]; exact s68.symm
      · by_cases r1 : rp (mm s m D) = -1 <;> simp (disch := omega) only [fn_274_8, ↓LMb F.1, LM F.1, RM F.2.1, hT.1, hk', eD, r1, h66, e6, I_sL, cm_w2, Nat.reduceLeDiff, Nat.reduceLT, decide_true, Bool.and_self, Bool.and_true, eq_self, Nat.le_refl, Nat.lt_irrefl, some_if, Option.bind_some, Option.bind_none, Option.some.injEq, ↓reduceIte, reduceCtorEq, Bool.false_eq_true, Bool.true_eq_false, not_true_eq_false, not_false_eq_true, cmb0, cmb1, Nat.reduceAdd, Nat.reduceMul, Nat.reduceSub, Nat.add_zero, Bool.not_eq_true, Bool.not_eq_false, Nat.reduceEqDiff, Nat.reduceLeDiff, Nat.reduceLT, Int32.reduceLT, Int32.reduceLE, iin_nI, iin_lit, iin_m1, tn_nI, tn_lit, nI_lm, nI_ml, nI_al, nI_la, nI_add, pk_mul, nI_le_l, nI_l_le, nI_lt_l, nI_l_lt, nI_eq_l, nI_l_eq, nI_eqP, nI_leP, nI_ltP, nI_m1, m1_nI, nI_ll, m1_l, l_m1]
  · obtain ⟨F, h66, hf, h67, h68⟩ := ha
    refine ⟨a, ?_, F, h67, h68⟩
    simp (disch := omega) only [fn_274_8, ↓LMb F.1, LM F.1, RM F.2.1, hT.1, eq_self, Nat.le_refl, Nat.lt_irrefl, some_if, Option.bind_some, Option.bind_none, Option.some.injEq, ↓reduceIte, reduceCtorEq, Bool.false_eq_true, Bool.true_eq_false, not_true_eq_false, not_false_eq_true, cmb0, cmb1, Nat.reduceAdd, Nat.reduceMul, Nat.reduceSub, Nat.add_zero, Bool.not_eq_true, Bool.not_eq_false, Nat.reduceEqDiff, Nat.reduceLeDiff, Nat.reduceLT, Int32.reduceLT, Int32.reduceLE, iin_nI, iin_lit, iin_m1, tn_nI, tn_lit, nI_lm, nI_ml, nI_al, nI_la, nI_add, pk_mul, nI_le_l, nI_l_le, nI_lt_l, nI_l_lt, nI_eq_l, nI_l_eq, nI_eqP, nI_leP, nI_ltP, nI_m1, m1_nI, nI_ll, m1_l, l_m1]
end MPR
