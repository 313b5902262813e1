/-! hours: the call -/
/-- the market at an hour -/
def Mh (s : St) (m : Nat) (D : Nat → Nat) (h : Nat) : Mk := mm s m (Dh s m D h)
section HOURS2
variable {v c u n m l p q : Nat} {w w' : cm_W} {s s' : St} {M : Mk} {D : Nat → Nat} {i3 i4 : Int32}
theorem c52_to (L : Lay v c w) (K : MkC w (mm s m D)) (O : (mm s m D).Ok) {e : Nat} (he : e ≤ 8) (hr : ∀ h, h < e → (Mh s m D h).rest ≠ 0) (hn : ∀ h, h < e → ¬ nI h = i3) (P : Option (Int32 × cm_W) → Prop)
    (H : ∀ n a, FC v c w a → MkC a (Mh s m D e) → P (fn_52_17 (n + 1) 51 i3 i4 (nI e) a)) : P (fn_52_17 cm_N 51 i3 i4 0 w) := by
  refine up_0 (fun n k a => fn_52_17 n 51 i3 i4 (nI k) a) e (fun k a => FC v c w a ∧ cm_I a = cm_I w ∧ ∀ t, t < 8 → cm_L a 52 t = lN ((Mh s m D k).D t)) P w (by omega) ⟨FC.rf L, rfl, fun t ht => K.1 t ht⟩ (fun n k a hk ha => Or.inr ?_) (fun n a ha => ?_)
  · obtain ⟨F, hi, h⟩ := ha
    have Ok : (Mh s m D k).Ok := Dh_ok O k
    have Kk : MkC a (Mh s m D k) := ⟨h, fun t ht => by rw [hi]; exact K.2 t ht⟩
    have r := hr k hk
    have tn0 : ¬ (Mh s m D k).tot = 0 := by rw [tot_rest Ok]; exact r
    have tl := tot_le Ok
    have k8 : ¬ 8 ≤ k := by omega
    have kn := hn k hk
    obtain ⟨y, y1, F2, i2, h2⟩ := c51 F.1 Kk Ok r
    refine ⟨y, ⟨F.tr F2, by rw [i2, hi], fun t ht => h2 t ht⟩, ?_⟩
    simp (disch := omega) only [fn_52_17, fn_52_63, k8, LC F.1, c46 F.1 Kk Ok, c40 F.1 Kk Ok, lgc_le, lle0, tn0, kn, y1, eq_self, Nat.le_refl, Nat.lt_irrefl, some_if, Option.bind_some, Option.bind_none, Option.some.injEq, ↓reduceIte, reduceCtorEq, Bool.false_eq_true, Bool.true_eq_false, not_true_eq_false, not_false_eq_true, cmb0, cmb1, Nat.reduceAdd, Nat.reduceMul, Nat.reduceSub, Nat.add_zero, Bool.not_eq_true, Bool.not_eq_false, Nat.reduceEqDiff, Nat.reduceLeDiff, Nat.reduceLT, Int32.reduceLT, Int32.reduceLE, iin_nI, iin_lit, iin_m1, tn_nI, tn_lit, nI_lm, nI_ml, nI_al, nI_la, nI_add, pk_mul, nI_le_l, nI_l_le, nI_lt_l, nI_l_lt, nI_eq_l, nI_l_eq, nI_eqP, nI_leP, nI_ltP, nI_m1, m1_nI, nI_ll, m1_l, l_m1]
  · obtain ⟨F, hi, h⟩ := ha
    exact H n a F ⟨h, fun t ht => by rw [hi]; exact K.2 t ht⟩
theorem m284_to (L : Lay v c w) (R : RelM w s) (I : InvV s) (K : MkM w (mm s m D)) (O : (mm s m D).Ok) (hm : m < 6) {x0 : Int32} (hx : x0 = rp (mm s m D)) (h66 : cm_I w 96 66 = smk (mm s m D) (mm s m D).rest) {e : Nat} (he : e ≤ 8) (hr : ∀ h, h < e → (Mh s m D h).rest ≠ 0) (hn : ∀ h, h < e → ¬ nI h = i3) (P : Option (Int32 × cm_W) → Prop)
    (H : ∀ n a, FM v c w a s → cm_I a 96 66 = smk (Mh s m D e) (Mh s m D e).rest → P (fn_284_66 (n + 1) 96 (nI m) i3 i4 (nI e) (rp (Mh s m D e)) a)) : P (fn_284_66 cm_N 96 (nI m) i3 i4 0 x0 w) := by
  have hT := I.1
  refine up_0 (fun n k (a : Int32 × cm_W) => fn_284_66 n 96 (nI m) i3 i4 (nI k) a.1 a.2) e (fun k a => FM v c w a.2 s ∧ a.1 = rp (Mh s m D k) ∧ cm_I a.2 96 66 = smk (Mh s m D k) (Mh s m D k).rest ∧ MkM a.2 (Mh s m D k)) P (x0, w) (by omega) ⟨FM.rf L R, hx, h66, K⟩ (fun n k a hk ha => Or.inr ?_) (fun n a ha => ?_)
  · obtain ⟨a1, a⟩ := a
    obtain ⟨F, h1, h2, h3⟩ := ha
    dsimp only at F h1 h2 h3 ⊢
    subst h1
    have Ok : (Mh s m D k).Ok := Dh_ok O k
    have r := hr k hk
    have kn := hn k hk
    have r1 : ¬ rp (Mh s m D k) = -1 := by rw [rp_m1]; exact r
    have lp : ∃ y, fn_284_93 (fn_284_66 n) 96 (nI m) i3 i4 (nI k) a = fn_284_131 (fn_284_66 n) 96 (nI m) i3 i4 (nI k) y ∧ FM v c w y s ∧ ∀ t, t < nT s → cm_L y 136 t = lN (lft (Mh s m D k) t) := by
      refine up_0 (fun j t a => fn_284_96 (fn_284_66 n) j 96 (nI m) i3 i4 (nI k) (nI t) a) (nT s) (fun t a => FM v c w a s ∧ cm_I a 96 66 = smk (Mh s m D k) (Mh s m D k).rest ∧ ∀ x, x < nT s → cm_L a 136 x = lN (if x < t then lft (Mh s m D k) x else (Mh s m D k).D x)) (fun o => ∃ y, o = fn_284_131 (fn_284_66 n) 96 (nI m) i3 i4 (nI k) y ∧ FM v c w y s ∧ ∀ t, t < nT s → cm_L y 136 t = lN (lft (Mh s m D k) t)) a (by omega) ⟨F, h2, fun x hx => by rw [if_neg (by omega)]; exact h3 x hx⟩ (fun j t a ht ha => Or.inr ?_) (fun j a ha => ?_)
      · obtain ⟨F, h2, h3⟩ := ha
        have ht' : ¬ nT s ≤ t := by omega
        have e6 := m196s a (Mh s m D k) Ok (k := t) ht
        rw [← h2] at e6
        have l1 : lft (Mh s m D k) t = if (Mh s m D k).rest ≠ 0 ∧ (Mh s m D k).sold ((Mh s m D k).rest - 1) t = true then 0 else (Mh s m D k).D t := rfl
        by_cases z : (Mh s m D k).rest ≠ 0 ∧ (Mh s m D k).sold ((Mh s m D k).rest - 1) t = true
        · rw [decide_eq_true z] at e6
          rw [if_pos z] at l1
          refine ⟨cm_sL a 136 t 0, ⟨F.sL (by omega) (by omega) (by omega), h2, fun x hx => ?_⟩, ?_⟩
          · by_cases q : x = t
            · subst q; rw [L_eq, if_pos (show x < x + 1 by omega), l1]; rfl
            · rw [L_nk q, h3 x hx]
              by_cases q2 : x < t
              · rw [if_pos q2, if_pos (by omega)]
              · rw [if_neg q2, if_neg (by omega)]
          · simp (disch := omega) only [fn_284_96, fn_284_125, ↓LMb F.1, LM F.1, RM F.2.1, hT.1, ht', e6, cm_w2, Nat.reduceLeDiff, Nat.reduceLT, decide_true, Bool.and_self, Bool.and_true, eq_self, Nat.le_refl, Nat.lt_irrefl, some_if, Option.bind_some, Option.bind_none, Option.some.injEq, ↓reduceIte, reduceCtorEq, Bool.false_eq_true, Bool.true_eq_false, not_true_eq_false, not_false_eq_true, cmb0, cmb1, Nat.reduceAdd, Nat.reduceMul, Nat.reduceSub, Nat.add_zero, Bool.not_eq_true, Bool.not_eq_false, Nat.reduceEqDiff, Nat.reduceLeDiff, Nat.reduceLT, Int32.reduceLT, Int32.reduceLE, iin_nI, iin_lit, iin_m1, tn_nI, tn_lit, nI_lm, nI_ml, nI_al, nI_la, nI_add, pk_mul, nI_le_l, nI_l_le, nI_lt_l, nI_l_lt, nI_eq_l, nI_l_eq, nI_eqP, nI_leP, nI_ltP, nI_m1, m1_nI, nI_ll, m1_l, l_m1]
        · rw [decide_eq_false z] at e6
          rw [if_neg z] at l1
          refine ⟨a, ⟨F, h2, fun x hx => ?_⟩, ?_⟩
          · rw [h3 x hx]
            by_cases q : x = t
            · subst q; rw [if_neg (by omega), if_pos (by omega), l1]
            · by_cases q2 : x < t
              · rw [if_pos q2, if_pos (by omega)]
              · rw [if_neg q2, if_neg (by omega)]
          · simp (disch := omega) only [fn_284_96, fn_284_125, ↓LMb F.1, LM F.1, RM F.2.1, hT.1, ht', e6, eq_self, Nat.le_refl, Nat.lt_irrefl, some_if, Option.bind_some, Option.bind_none, Option.some.injEq, ↓reduceIte, reduceCtorEq, Bool.false_eq_true, Bool.true_eq_false, not_true_eq_false, not_false_eq_true, cmb0, cmb1, Nat.reduceAdd, Nat.reduceMul, Nat.reduceSub, Nat.add_zero, Bool.not_eq_true, Bool.not_eq_false, Nat.reduceEqDiff, Nat.reduceLeDiff, Nat.reduceLT, Int32.reduceLT, Int32.reduceLE, iin_nI, iin_lit, iin_m1, tn_nI, tn_lit, nI_lm, nI_ml, nI_al, nI_la, nI_add, pk_mul, nI_le_l, nI_l_le, nI_lt_l, nI_l_lt, nI_eq_l, nI_l_eq, nI_eqP, nI_leP, nI_ltP, nI_m1, m1_nI, nI_ll, m1_l, l_m1]
      · obtain ⟨F, h2, h3⟩ := ha
        refine ⟨a, ?_, F, fun t ht => ?_⟩
        · simp (disch := omega) only [fn_284_96, ↓LMb F.1, LM F.1, RM F.2.1, hT.1, eq_self, Nat.le_refl, Nat.lt_irrefl, some_if, Option.bind_some, Option.bind_none, Option.some.injEq, ↓reduceIte, reduceCtorEq, Bool.false_eq_true, Bool.true_eq_false, not_true_eq_false, not_false_eq_true, cmb0, cmb1, Nat.reduceAdd, Nat.reduceMul, Nat.reduceSub, Nat.add_zero, Bool.not_eq_true, Bool.not_eq_false, Nat.reduceEqDiff, Nat.reduceLeDiff, Nat.reduceLT, Int32.reduceLT, Int32.reduceLE, iin_nI, iin_lit, iin_m1, tn_nI, tn_lit, nI_lm, nI_ml, nI_al, nI_la, nI_add, pk_mul, nI_le_l, nI_l_le, nI_lt_l, nI_l_lt, nI_eq_l, nI_l_eq, nI_eqP, nI_leP, nI_ltP, nI_m1, m1_nI, nI_ll, m1_l, l_m1]
        · have := h3 t ht
          rw [if_pos ht] at this
          exact this
    obtain ⟨y, y1, F2, h4⟩ := lp
    obtain ⟨z, z1, F3, z3, z4⟩ := m272 F2.1 F2.2.1 I (D := Dh s m D (k + 1)) h4 (Dh_ok O (k + 1)) hm
    refine ⟨(rp (Mh s m D (k + 1)), z), ⟨F2.tr F3, rfl, z4, fun t ht => by rw [z3]; exact h4 t ht⟩, ?_⟩
    have e0 : fn_284_66 (n + 1) 96 (nI m) i3 i4 (nI k) (rp (Mh s m D k)) a = fn_284_93 (fn_284_66 n) 96 (nI m) i3 i4 (nI k) a := by
      simp (disch := omega) only [fn_284_66, r1, kn, eq_self, Nat.le_refl, Nat.lt_irrefl, some_if, Option.bind_some, Option.bind_none, Option.some.injEq, ↓reduceIte, reduceCtorEq, Bool.false_eq_true, Bool.true_eq_false, not_true_eq_false, not_false_eq_true, cmb0, cmb1, Nat.reduceAdd, Nat.reduceMul, Nat.reduceSub, Nat.add_zero, Bool.not_eq_true, Bool.not_eq_false, Nat.reduceEqDiff, Nat.reduceLeDiff, Nat.reduceLT, Int32.reduceLT, Int32.reduceLE, iin_nI, iin_lit, iin_m1, tn_nI, tn_lit, nI_lm, nI_ml, nI_al, nI_la, nI_add, pk_mul, nI_le_l, nI_l_le, nI_lt_l, nI_l_lt, nI_eq_l, nI_l_eq, nI_eqP, nI_leP, nI_ltP, nI_m1, m1_nI, nI_ll, m1_l, l_m1]
    show fn_284_66 (n + 1) 96 (nI m) i3 i4 (nI k) (rp (Mh s m D k)) a = _
    rw [e0, y1]
    have z1 : fn_272 96 (nI m) y = some (rp (Mh s m D (k + 1)), z) := z1
    simp (disch := omega) only [fn_284_131, LM F2.1, z1, eq_self, Nat.le_refl, Nat.lt_irrefl, some_if, Option.bind_some, Option.bind_none, Option.some.injEq, ↓reduceIte, reduceCtorEq, Bool.false_eq_true, Bool.true_eq_false, not_true_eq_false, not_false_eq_true, cmb0, cmb1, Nat.reduceAdd, Nat.reduceMul, Nat.reduceSub, Nat.add_zero, Bool.not_eq_true, Bool.not_eq_false, Nat.reduceEqDiff, Nat.reduceLeDiff, Nat.reduceLT, Int32.reduceLT, Int32.reduceLE, iin_nI, iin_lit, iin_m1, tn_nI, tn_lit, nI_lm, nI_ml, nI_al, nI_la, nI_add, pk_mul, nI_le_l, nI_l_le, nI_lt_l, nI_l_lt, nI_eq_l, nI_l_eq, nI_eqP, nI_leP, nI_ltP, nI_m1, m1_nI, nI_ll, m1_l, l_m1]
  · obtain ⟨a1, a⟩ := a
    obtain ⟨F, h1, h2, h3⟩ := ha
    dsimp only at F h1 h2 h3 ⊢
    subst h1
    exact H n a F h2
theorem w_hours (g : GG v c w s) (i1 i2 i3 i4 : Int32) : OKW (fn_181 2 i1 i2 i3 i4) (fn_284 96 i1 i2 i3 i4) w := by
  obtain ⟨L, R, C, Z, I⟩ := id g
  have hv := L.1
  have V := C.2.1
  have hT := I.1.1
  have hP := I.1.2.1
  have e01 : ∀ x, fn_194 x i4 (0 : Int32) (1 : Int32) = some (cm_iin i4 2) := fun x => isIn_lit x i4 1 (by decide)
  rcases iin_cs i1 (n := nP s) (by omega) with h | ⟨p, hp, rfl⟩
  · refine ok_bad g ?_ (fun x L1 M1 => ?_)
    · simp (disch := omega) only [fn_181, fn_181_40, fn_177, ↓LCb L, LC L, LV L hv, c10o L hv V I.1 h, eq_self, Nat.le_refl, Nat.lt_irrefl, some_if, Option.bind_some, Option.bind_none, Option.some.injEq, ↓reduceIte, reduceCtorEq, Bool.false_eq_true, Bool.true_eq_false, not_true_eq_false, not_false_eq_true, cmb0, cmb1, Nat.reduceAdd, Nat.reduceMul, Nat.reduceSub, Nat.add_zero, Bool.not_eq_true, Bool.not_eq_false, Nat.reduceEqDiff, Nat.reduceLeDiff, Nat.reduceLT, Int32.reduceLT, Int32.reduceLE, iin_nI, iin_lit, iin_m1, tn_nI, tn_lit, nI_lm, nI_ml, nI_al, nI_la, nI_add, pk_mul, nI_le_l, nI_l_le, nI_lt_l, nI_l_lt, nI_eq_l, nI_l_eq, nI_eqP, nI_leP, nI_ltP, nI_m1, m1_nI, nI_ll, m1_l, l_m1]
    · simp (disch := omega) only [fn_284, LM L1, mWho L1 M1 I.1, h, eq_self, Nat.le_refl, Nat.lt_irrefl, some_if, Option.bind_some, Option.bind_none, Option.some.injEq, ↓reduceIte, reduceCtorEq, Bool.false_eq_true, Bool.true_eq_false, not_true_eq_false, not_false_eq_true, cmb0, cmb1, Nat.reduceAdd, Nat.reduceMul, Nat.reduceSub, Nat.add_zero, Bool.not_eq_true, Bool.not_eq_false, Nat.reduceEqDiff, Nat.reduceLeDiff, Nat.reduceLT, Int32.reduceLT, Int32.reduceLE, iin_nI, iin_lit, iin_m1, tn_nI, tn_lit, nI_lm, nI_ml, nI_al, nI_la, nI_add, pk_mul, nI_le_l, nI_l_le, nI_lt_l, nI_l_lt, nI_eq_l, nI_l_eq, nI_eqP, nI_leP, nI_ltP, nI_m1, m1_nI, nI_ll, m1_l, l_m1]
  obtain ⟨es, hs, hs2⟩ := shs_n I.1 hp
  have e10 := (c10 L hv V I.1 hp).trans (congrArg some es)
  rcases iin_cs i2 (n := 6) (by omega) with h | ⟨m, hm, rfl⟩
  · refine ok_bad g ?_ (fun x L1 M1 => ?_)
    · by_cases z : tn (shs s p) ≤ 0 <;> simp (disch := omega) only [fn_181, fn_181_40, fn_177, bmon, ↓LCb L, LC L, LV L hv, e10, z, h, eq_self, Nat.le_refl, Nat.lt_irrefl, some_if, Option.bind_some, Option.bind_none, Option.some.injEq, ↓reduceIte, reduceCtorEq, Bool.false_eq_true, Bool.true_eq_false, not_true_eq_false, not_false_eq_true, cmb0, cmb1, Nat.reduceAdd, Nat.reduceMul, Nat.reduceSub, Nat.add_zero, Bool.not_eq_true, Bool.not_eq_false, Nat.reduceEqDiff, Nat.reduceLeDiff, Nat.reduceLT, Int32.reduceLT, Int32.reduceLE, iin_nI, iin_lit, iin_m1, tn_nI, tn_lit, nI_lm, nI_ml, nI_al, nI_la, nI_add, pk_mul, nI_le_l, nI_l_le, nI_lt_l, nI_l_lt, nI_eq_l, nI_l_eq, nI_eqP, nI_leP, nI_ltP, nI_m1, m1_nI, nI_ll, m1_l, l_m1]
    · simp (disch := omega) only [fn_284, LM L1, mWho L1 M1 I.1, mmon (a := 0) _ L1, h, eq_self, Nat.le_refl, Nat.lt_irrefl, some_if, Option.bind_some, Option.bind_none, Option.some.injEq, ↓reduceIte, reduceCtorEq, Bool.false_eq_true, Bool.true_eq_false, not_true_eq_false, not_false_eq_true, cmb0, cmb1, Nat.reduceAdd, Nat.reduceMul, Nat.reduceSub, Nat.add_zero, Bool.not_eq_true, Bool.not_eq_false, Nat.reduceEqDiff, Nat.reduceLeDiff, Nat.reduceLT, Int32.reduceLT, Int32.reduceLE, iin_nI, iin_lit, iin_m1, tn_nI, tn_lit, nI_lm, nI_ml, nI_al, nI_la, nI_add, pk_mul, nI_le_l, nI_l_le, nI_lt_l, nI_l_lt, nI_eq_l, nI_l_eq, nI_eqP, nI_leP, nI_ltP, nI_m1, m1_nI, nI_ll, m1_l, l_m1]
  by_cases t0 : nT s = 0
  · have z : tn (shs s p) = 0 := by
      rw [shs_sg (m := 0) I.1 hp]
      show sgm _ (nT s) = 0
      rw [t0]; rfl
    refine ok_bad g ?_ (fun x L1 M1 => ?_)
    · simp (disch := omega) only [fn_181, fn_181_40, fn_177, ↓LCb L, LC L, LV L hv, e10, z, eq_self, Nat.le_refl, Nat.lt_irrefl, some_if, Option.bind_some, Option.bind_none, Option.some.injEq, ↓reduceIte, reduceCtorEq, Bool.false_eq_true, Bool.true_eq_false, not_true_eq_false, not_false_eq_true, cmb0, cmb1, Nat.reduceAdd, Nat.reduceMul, Nat.reduceSub, Nat.add_zero, Bool.not_eq_true, Bool.not_eq_false, Nat.reduceEqDiff, Nat.reduceLeDiff, Nat.reduceLT, Int32.reduceLT, Int32.reduceLE, iin_nI, iin_lit, iin_m1, tn_nI, tn_lit, nI_lm, nI_ml, nI_al, nI_la, nI_add, pk_mul, nI_le_l, nI_l_le, nI_lt_l, nI_l_lt, nI_eq_l, nI_l_eq, nI_eqP, nI_leP, nI_ltP, nI_m1, m1_nI, nI_ll, m1_l, l_m1]
    · by_cases f : i4 = 0
      · subst f
        by_cases a : i3 < -1 <;> by_cases d : i3 = -1 <;> simp (disch := omega) only [fn_284, fn_284_40, LM L1, RM M1, hT.1, mWho L1 M1 I.1, mmon (a := 0) _ L1, e01, a, d, t0, eq_self, Nat.le_refl, Nat.lt_irrefl, some_if, Option.bind_some, Option.bind_none, Option.some.injEq, ↓reduceIte, reduceCtorEq, Bool.false_eq_true, Bool.true_eq_false, not_true_eq_false, not_false_eq_true, cmb0, cmb1, Nat.reduceAdd, Nat.reduceMul, Nat.reduceSub, Nat.add_zero, Bool.not_eq_true, Bool.not_eq_false, Nat.reduceEqDiff, Nat.reduceLeDiff, Nat.reduceLT, Int32.reduceLT, Int32.reduceLE, iin_nI, iin_lit, iin_m1, tn_nI, tn_lit, nI_lm, nI_ml, nI_al, nI_la, nI_add, pk_mul, nI_le_l, nI_l_le, nI_lt_l, nI_l_lt, nI_eq_l, nI_l_eq, nI_eqP, nI_leP, nI_ltP, nI_m1, m1_nI, nI_ll, m1_l, l_m1]
      · by_cases a : i3 < -1 <;> cases b : cm_iin i4 2 <;> by_cases d : i3 = -1 <;> simp (disch := omega) only [fn_284, fn_284_40, LM L1, RM M1, hT.1, mWho L1 M1 I.1, mmon (a := 0) _ L1, e01, a, b, d, f, t0, eq_self, Nat.le_refl, Nat.lt_irrefl, some_if, Option.bind_some, Option.bind_none, Option.some.injEq, ↓reduceIte, reduceCtorEq, Bool.false_eq_true, Bool.true_eq_false, not_true_eq_false, not_false_eq_true, cmb0, cmb1, Nat.reduceAdd, Nat.reduceMul, Nat.reduceSub, Nat.add_zero, Bool.not_eq_true, Bool.not_eq_false, Nat.reduceEqDiff, Nat.reduceLeDiff, Nat.reduceLT, Int32.reduceLT, Int32.reduceLE, iin_nI, iin_lit, iin_m1, tn_nI, tn_lit, nI_lm, nI_ml, nI_al, nI_la, nI_add, pk_mul, nI_le_l, nI_l_le, nI_lt_l, nI_l_lt, nI_eq_l, nI_l_eq, nI_eqP, nI_leP, nI_ltP, nI_m1, m1_nI, nI_ll, m1_l, l_m1]
  have hs2 := hs2 (by omega)
  have z : ¬ tn (shs s p) ≤ 0 := by omega
  -- what is asked badly
  by_cases bad : i3 < -1 ∨ (¬ i4 = 0 ∧ ¬ i4 = 1) ∨ (i4 = 1 ∧ i3 = -1)
  · refine ok_bad g ?_ (fun x L1 M1 => ?_)
    · rcases bad with a | ⟨a, b⟩ | ⟨rfl, rfl⟩
      · simp (disch := omega) only [fn_181, fn_181_40, fn_177, bmon, ↓LCb L, LC L, LV L hv, e10, z, a, eq_self, Nat.le_refl, Nat.lt_irrefl, some_if, Option.bind_some, Option.bind_none, Option.some.injEq, ↓reduceIte, reduceCtorEq, Bool.false_eq_true, Bool.true_eq_false, not_true_eq_false, not_false_eq_true, cmb0, cmb1, Nat.reduceAdd, Nat.reduceMul, Nat.reduceSub, Nat.add_zero, Bool.not_eq_true, Bool.not_eq_false, Nat.reduceEqDiff, Nat.reduceLeDiff, Nat.reduceLT, Int32.reduceLT, Int32.reduceLE, iin_nI, iin_lit, iin_m1, tn_nI, tn_lit, nI_lm, nI_ml, nI_al, nI_la, nI_add, pk_mul, nI_le_l, nI_l_le, nI_lt_l, nI_l_lt, nI_eq_l, nI_l_eq, nI_eqP, nI_leP, nI_ltP, nI_m1, m1_nI, nI_ll, m1_l, l_m1]
      · by_cases d : i3 < -1 <;> simp (disch := omega) only [fn_181, fn_181_40, fn_177, bmon, ↓LCb L, LC L, LV L hv, e10, z, a, b, d, eq_self, Nat.le_refl, Nat.lt_irrefl, some_if, Option.bind_some, Option.bind_none, Option.some.injEq, ↓reduceIte, reduceCtorEq, Bool.false_eq_true, Bool.true_eq_false, not_true_eq_false, not_false_eq_true, cmb0, cmb1, Nat.reduceAdd, Nat.reduceMul, Nat.reduceSub, Nat.add_zero, Bool.not_eq_true, Bool.not_eq_false, Nat.reduceEqDiff, Nat.reduceLeDiff, Nat.reduceLT, Int32.reduceLT, Int32.reduceLE, iin_nI, iin_lit, iin_m1, tn_nI, tn_lit, nI_lm, nI_ml, nI_al, nI_la, nI_add, pk_mul, nI_le_l, nI_l_le, nI_lt_l, nI_l_lt, nI_eq_l, nI_l_eq, nI_eqP, nI_leP, nI_ltP, nI_m1, m1_nI, nI_ll, m1_l, l_m1]
      · have d : ¬ (-1 : Int32) < -1 := by decide
        simp (disch := omega) only [fn_181, fn_181_40, fn_177, bmon, ↓LCb L, LC L, LV L hv, e10, z, d, eq_self, Nat.le_refl, Nat.lt_irrefl, some_if, Option.bind_some, Option.bind_none, Option.some.injEq, ↓reduceIte, reduceCtorEq, Bool.false_eq_true, Bool.true_eq_false, not_true_eq_false, not_false_eq_true, cmb0, cmb1, Nat.reduceAdd, Nat.reduceMul, Nat.reduceSub, Nat.add_zero, Bool.not_eq_true, Bool.not_eq_false, Nat.reduceEqDiff, Nat.reduceLeDiff, Nat.reduceLT, Int32.reduceLT, Int32.reduceLE, iin_nI, iin_lit, iin_m1, tn_nI, tn_lit, nI_lm, nI_ml, nI_al, nI_la, nI_add, pk_mul, nI_le_l, nI_l_le, nI_lt_l, nI_l_lt, nI_eq_l, nI_l_eq, nI_eqP, nI_leP, nI_ltP, nI_m1, m1_nI, nI_ll, m1_l, l_m1]
    · rcases bad with a | ⟨a, b⟩ | ⟨rfl, rfl⟩
      · simp (disch := omega) only [fn_284, LM L1, mWho L1 M1 I.1, mmon (a := 0) _ L1, a, eq_self, Nat.le_refl, Nat.lt_irrefl, some_if, Option.bind_some, Option.bind_none, Option.some.injEq, ↓reduceIte, reduceCtorEq, Bool.false_eq_true, Bool.true_eq_false, not_true_eq_false, not_false_eq_true, cmb0, cmb1, Nat.reduceAdd, Nat.reduceMul, Nat.reduceSub, Nat.add_zero, Bool.not_eq_true, Bool.not_eq_false, Nat.reduceEqDiff, Nat.reduceLeDiff, Nat.reduceLT, Int32.reduceLT, Int32.reduceLE, iin_nI, iin_lit, iin_m1, tn_nI, tn_lit, nI_lm, nI_ml, nI_al, nI_la, nI_add, pk_mul, nI_le_l, nI_l_le, nI_lt_l, nI_l_lt, nI_eq_l, nI_l_eq, nI_eqP, nI_leP, nI_ltP, nI_m1, m1_nI, nI_ll, m1_l, l_m1]
      · have h2 : cm_iin i4 2 = false := by
          rcases iin_cs i4 (n := 2) (by omega) with h | ⟨k, hk, e⟩
          · exact h
          · rcases (show k = 0 ∨ k = 1 by omega) with rfl | rfl
            · exact absurd e a
            · exact absurd e b
        by_cases d : i3 < -1 <;> simp (disch := omega) only [fn_284, LM L1, mWho L1 M1 I.1, mmon (a := 0) _ L1, e01, h2, d, eq_self, Nat.le_refl, Nat.lt_irrefl, some_if, Option.bind_some, Option.bind_none, Option.some.injEq, ↓reduceIte, reduceCtorEq, Bool.false_eq_true, Bool.true_eq_false, not_true_eq_false, not_false_eq_true, cmb0, cmb1, Nat.reduceAdd, Nat.reduceMul, Nat.reduceSub, Nat.add_zero, Bool.not_eq_true, Bool.not_eq_false, Nat.reduceEqDiff, Nat.reduceLeDiff, Nat.reduceLT, Int32.reduceLT, Int32.reduceLE, iin_nI, iin_lit, iin_m1, tn_nI, tn_lit, nI_lm, nI_ml, nI_al, nI_la, nI_add, pk_mul, nI_le_l, nI_l_le, nI_lt_l, nI_l_lt, nI_eq_l, nI_l_eq, nI_eqP, nI_leP, nI_ltP, nI_m1, m1_nI, nI_ll, m1_l, l_m1]
      · have d : ¬ (-1 : Int32) < -1 := by decide
        simp (disch := omega) only [fn_284, LM L1, mWho L1 M1 I.1, mmon (a := 0) _ L1, e01, d, eq_self, Nat.le_refl, Nat.lt_irrefl, some_if, Option.bind_some, Option.bind_none, Option.some.injEq, ↓reduceIte, reduceCtorEq, Bool.false_eq_true, Bool.true_eq_false, not_true_eq_false, not_false_eq_true, cmb0, cmb1, Nat.reduceAdd, Nat.reduceMul, Nat.reduceSub, Nat.add_zero, Bool.not_eq_true, Bool.not_eq_false, Nat.reduceEqDiff, Nat.reduceLeDiff, Nat.reduceLT, Int32.reduceLT, Int32.reduceLE, iin_nI, iin_lit, iin_m1, tn_nI, tn_lit, nI_lm, nI_ml, nI_al, nI_la, nI_add, pk_mul, nI_le_l, nI_l_le, nI_lt_l, nI_l_lt, nI_eq_l, nI_l_eq, nI_eqP, nI_leP, nI_ltP, nI_m1, m1_nI, nI_ll, m1_l, l_m1]
  have b1 : ¬ i3 < -1 := fun h => bad (Or.inl h)
  have b2 : i4 = 0 ∨ i4 = 1 := by
    by_cases h : i4 = 0
    · exact Or.inl h
    · by_cases h2 : i4 = 1
      · exact Or.inr h2
      · exact absurd (Or.inr (Or.inl ⟨h, h2⟩)) bad
  have b3 : ¬ (i4 = 1 ∧ i3 = -1) := fun h => bad (Or.inr (Or.inr h))
  -- both come to the loop
  have O := mkt_ok I.1 (l := 1) (m := m) (i := nI p) (j := -1) hm
  obtain ⟨y1, y, a1, F1, a2, F, K⟩ := c_mkt L hv V I.1 (l := 1) (i := nI p) (j := -1) (Or.inl (by omega)) hm
  have a2 : fn_36 51 v 1 (nI p) (-1) y1 = some y := a2
  have cc : fn_181 2 (nI p) (nI m) i3 i4 w = fn_52_17 cm_N 51 i3 i4 0 y := by
    have e52 : fn_52 51 v (nI p) (nI m) i3 i4 w = fn_52_17 cm_N 51 i3 i4 0 y := by
      simp (disch := omega) only [fn_52, LC L, a1, LC F1.1, a2, eq_self, Nat.le_refl, Nat.lt_irrefl, some_if, Option.bind_some, Option.bind_none, Option.some.injEq, ↓reduceIte, reduceCtorEq, Bool.false_eq_true, Bool.true_eq_false, not_true_eq_false, not_false_eq_true, cmb0, cmb1, Nat.reduceAdd, Nat.reduceMul, Nat.reduceSub, Nat.add_zero, Bool.not_eq_true, Bool.not_eq_false, Nat.reduceEqDiff, Nat.reduceLeDiff, Nat.reduceLT, Int32.reduceLT, Int32.reduceLE, iin_nI, iin_lit, iin_m1, tn_nI, tn_lit, nI_lm, nI_ml, nI_al, nI_la, nI_add, pk_mul, nI_le_l, nI_l_le, nI_lt_l, nI_l_lt, nI_eq_l, nI_l_eq, nI_eqP, nI_leP, nI_ltP, nI_m1, m1_nI, nI_ll, m1_l, l_m1]
    have e36 : fn_181_36 2 (nI p) (nI m) i3 i4 w = fn_52_17 cm_N 51 i3 i4 0 y := by
      simp (disch := omega) only [fn_181_36, ↓LCb L, LC L, e52, eq_self, Nat.le_refl, Nat.lt_irrefl, some_if, Option.bind_some, Option.bind_none, Option.some.injEq, ↓reduceIte, reduceCtorEq, Bool.false_eq_true, Bool.true_eq_false, not_true_eq_false, not_false_eq_true, cmb0, cmb1, Nat.reduceAdd, Nat.reduceMul, Nat.reduceSub, Nat.add_zero, Bool.not_eq_true, Bool.not_eq_false, Nat.reduceEqDiff, Nat.reduceLeDiff, Nat.reduceLT, Int32.reduceLT, Int32.reduceLE, iin_nI, iin_lit, iin_m1, tn_nI, tn_lit, nI_lm, nI_ml, nI_al, nI_la, nI_add, pk_mul, nI_le_l, nI_l_le, nI_lt_l, nI_l_lt, nI_eq_l, nI_l_eq, nI_eqP, nI_leP, nI_ltP, nI_m1, m1_nI, nI_ll, m1_l, l_m1]
      cases fn_52_17 cm_N 51 i3 i4 0 y <;> rfl
    rcases b2 with rfl | rfl
    · simp (disch := omega) only [fn_181, fn_177, bmon, ↓LCb L, LC L, LV L hv, e10, z, b1, e36, eq_self, Nat.le_refl, Nat.lt_irrefl, some_if, Option.bind_some, Option.bind_none, Option.some.injEq, ↓reduceIte, reduceCtorEq, Bool.false_eq_true, Bool.true_eq_false, not_true_eq_false, not_false_eq_true, cmb0, cmb1, Nat.reduceAdd, Nat.reduceMul, Nat.reduceSub, Nat.add_zero, Bool.not_eq_true, Bool.not_eq_false, Nat.reduceEqDiff, Nat.reduceLeDiff, Nat.reduceLT, Int32.reduceLT, Int32.reduceLE, iin_nI, iin_lit, iin_m1, tn_nI, tn_lit, nI_lm, nI_ml, nI_al, nI_la, nI_add, pk_mul, nI_le_l, nI_l_le, nI_lt_l, nI_l_lt, nI_eq_l, nI_l_eq, nI_eqP, nI_leP, nI_ltP, nI_m1, m1_nI, nI_ll, m1_l, l_m1]
    · have : ¬ i3 = -1 := fun h => b3 ⟨rfl, h⟩
      simp (disch := omega) only [fn_181, fn_177, bmon, ↓LCb L, LC L, LV L hv, e10, z, b1, this, e36, eq_self, Nat.le_refl, Nat.lt_irrefl, some_if, Option.bind_some, Option.bind_none, Option.some.injEq, ↓reduceIte, reduceCtorEq, Bool.false_eq_true, Bool.true_eq_false, not_true_eq_false, not_false_eq_true, cmb0, cmb1, Nat.reduceAdd, Nat.reduceMul, Nat.reduceSub, Nat.add_zero, Bool.not_eq_true, Bool.not_eq_false, Nat.reduceEqDiff, Nat.reduceLeDiff, Nat.reduceLT, Int32.reduceLT, Int32.reduceLE, iin_nI, iin_lit, iin_m1, tn_nI, tn_lit, nI_lm, nI_ml, nI_al, nI_la, nI_add, pk_mul, nI_le_l, nI_l_le, nI_lt_l, nI_l_lt, nI_eq_l, nI_l_eq, nI_eqP, nI_leP, nI_ltP, nI_m1, m1_nI, nI_ll, m1_l, l_m1]
  have mc : ∀ x, Lay v c x → RelM x s → ∃ y, FM v c x y s ∧ MkM y (mkt s 1 (nI p) (-1) m) ∧ cm_I y 96 66 = smk (mkt s 1 (nI p) (-1) m) (mkt s 1 (nI p) (-1) m).rest ∧ fn_284 96 (nI p) (nI m) i3 i4 x = fn_284_66 cm_N 96 (nI m) i3 i4 0 (rp (mkt s 1 (nI p) (-1) m)) y := by
    intro x L1 M1
    obtain ⟨y1, b1', G1, -, b3', b2'⟩ := m269 L1 M1 I.1 (l := 1) (i := nI p) (j := 0) (Or.inl (by omega))
    have b1' : fn_269 96 1 (nI p) 0 x = some y1 := b1'
    have e9 : mkt s 1 (nI p) 0 m = mkt s 1 (nI p) (-1) m := mkt_cg fun _ _ => rfl
    have O' := mkt_ok I.1 (l := 1) (m := m) (i := nI p) (j := 0) hm
    obtain ⟨y2, d1, G2, d3, d4⟩ := m272 G1.1 G1.2.1 I.1 (D := dmp s 1 (nI p) 0 (nP s)) b2' O' hm
    rw [← mkt_mm, e9] at d1 d4
    refine ⟨y2, G1.tr G2, ?_, d4, ?_⟩
    · rw [← e9]
      intro t ht
      rw [d3]
      exact b2' t ht
    · have e49 : fn_284_40 96 (nI p) (nI m) i3 i4 x = fn_284_66 cm_N 96 (nI m) i3 i4 0 (rp (mkt s 1 (nI p) (-1) m)) y2 := by
        have t0' : ¬ nT s = 0 := t0
        simp (disch := omega) only [fn_284_40, fn_284_49, LM L1, RM M1, hT.1, t0', b1', LM G1.1, d1, eq_self, Nat.le_refl, Nat.lt_irrefl, some_if, Option.bind_some, Option.bind_none, Option.some.injEq, ↓reduceIte, reduceCtorEq, Bool.false_eq_true, Bool.true_eq_false, not_true_eq_false, not_false_eq_true, cmb0, cmb1, Nat.reduceAdd, Nat.reduceMul, Nat.reduceSub, Nat.add_zero, Bool.not_eq_true, Bool.not_eq_false, Nat.reduceEqDiff, Nat.reduceLeDiff, Nat.reduceLT, Int32.reduceLT, Int32.reduceLE, iin_nI, iin_lit, iin_m1, tn_nI, tn_lit, nI_lm, nI_ml, nI_al, nI_la, nI_add, pk_mul, nI_le_l, nI_l_le, nI_lt_l, nI_l_lt, nI_eq_l, nI_l_eq, nI_eqP, nI_leP, nI_ltP, nI_m1, m1_nI, nI_ll, m1_l, l_m1]
      rcases b2 with rfl | rfl
      · by_cases d : i3 = -1
        · subst d
          simp (disch := omega) only [fn_284, LM L1, mWho L1 M1 I.1, mmon (a := 0) _ L1, e01, b1, e49, eq_self, Nat.le_refl, Nat.lt_irrefl, some_if, Option.bind_some, Option.bind_none, Option.some.injEq, ↓reduceIte, reduceCtorEq, Bool.false_eq_true, Bool.true_eq_false, not_true_eq_false, not_false_eq_true, cmb0, cmb1, Nat.reduceAdd, Nat.reduceMul, Nat.reduceSub, Nat.add_zero, Bool.not_eq_true, Bool.not_eq_false, Nat.reduceEqDiff, Nat.reduceLeDiff, Nat.reduceLT, Int32.reduceLT, Int32.reduceLE, iin_nI, iin_lit, iin_m1, tn_nI, tn_lit, nI_lm, nI_ml, nI_al, nI_la, nI_add, pk_mul, nI_le_l, nI_l_le, nI_lt_l, nI_l_lt, nI_eq_l, nI_l_eq, nI_eqP, nI_leP, nI_ltP, nI_m1, m1_nI, nI_ll, m1_l, l_m1]
        · simp (disch := omega) only [fn_284, LM L1, mWho L1 M1 I.1, mmon (a := 0) _ L1, e01, b1, d, e49, eq_self, Nat.le_refl, Nat.lt_irrefl, some_if, Option.bind_some, Option.bind_none, Option.some.injEq, ↓reduceIte, reduceCtorEq, Bool.false_eq_true, Bool.true_eq_false, not_true_eq_false, not_false_eq_true, cmb0, cmb1, Nat.reduceAdd, Nat.reduceMul, Nat.reduceSub, Nat.add_zero, Bool.not_eq_true, Bool.not_eq_false, Nat.reduceEqDiff, Nat.reduceLeDiff, Nat.reduceLT, Int32.reduceLT, Int32.reduceLE, iin_nI, iin_lit, iin_m1, tn_nI, tn_lit, nI_lm, nI_ml, nI_al, nI_la, nI_add, pk_mul, nI_le_l, nI_l_le, nI_lt_l, nI_l_lt, nI_eq_l, nI_l_eq, nI_eqP, nI_leP, nI_ltP, nI_m1, m1_nI, nI_ll, m1_l, l_m1]
      · have d : ¬ i3 = -1 := fun h => b3 ⟨rfl, h⟩
        simp (disch := omega) only [fn_284, LM L1, mWho L1 M1 I.1, mmon (a := 0) _ L1, e01, b1, d, e49, eq_self, Nat.le_refl, Nat.lt_irrefl, some_if, Option.bind_some, Option.bind_none, Option.some.injEq, ↓reduceIte, reduceCtorEq, Bool.false_eq_true, Bool.true_eq_false, not_true_eq_false, not_false_eq_true, cmb0, cmb1, Nat.reduceAdd, Nat.reduceMul, Nat.reduceSub, Nat.add_zero, Bool.not_eq_true, Bool.not_eq_false, Nat.reduceEqDiff, Nat.reduceLeDiff, Nat.reduceLT, Int32.reduceLT, Int32.reduceLE, iin_nI, iin_lit, iin_m1, tn_nI, tn_lit, nI_lm, nI_ml, nI_al, nI_la, nI_add, pk_mul, nI_le_l, nI_l_le, nI_lt_l, nI_l_lt, nI_eq_l, nI_l_eq, nI_eqP, nI_leP, nI_ltP, nI_m1, m1_nI, nI_ll, m1_l, l_m1]
  rw [mkt_mm] at O K
  obtain ⟨N, N8, N0, N1⟩ := hours_end O
  -- the loop ends where nothing is left
  have endN : (∀ h, h < N → ¬ nI h = i3) → OKW (fn_181 2 (nI p) (nI m) i3 i4) (fn_284 96 (nI p) (nI m) i3 i4) w := by
    intro hn
    refine ok_ro (c' := c) (r := if ¬ i3 = -1 then -1 else nI N) g ?_ (fun x L1 M1 _ => ?_)
    · rw [cc]
      refine c52_to F.1 K O N8 N1 hn (fun o => ∃ w1, o = some (if ¬ i3 = -1 then -1 else nI N, w1) ∧ FC v c w w1) (fun n a Fa Ka => ⟨a, ?_, F.tr Fa⟩)
      have Ok : (Mh s m (dmp s 1 (nI p) (-1) (nP s)) N).Ok := Dh_ok O N
      have tz : (Mh s m (dmp s 1 (nI p) (-1) (nP s)) N).tot = 0 := by rw [tot_rest Ok]; exact N0
      by_cases q : i3 = -1 <;> by_cases q8 : 8 ≤ N <;> simp (disch := omega) only [fn_52_17, fn_52_75, q8, LC Fa.1, c46 Fa.1 Ka Ok, lgc_le, lle0, tz, q, eq_self, Nat.le_refl, Nat.lt_irrefl, some_if, Option.bind_some, Option.bind_none, Option.some.injEq, ↓reduceIte, reduceCtorEq, Bool.false_eq_true, Bool.true_eq_false, not_true_eq_false, not_false_eq_true, cmb0, cmb1, Nat.reduceAdd, Nat.reduceMul, Nat.reduceSub, Nat.add_zero, Bool.not_eq_true, Bool.not_eq_false, Nat.reduceEqDiff, Nat.reduceLeDiff, Nat.reduceLT, Int32.reduceLT, Int32.reduceLE, iin_nI, iin_lit, iin_m1, tn_nI, tn_lit, nI_lm, nI_ml, nI_al, nI_la, nI_add, pk_mul, nI_le_l, nI_l_le, nI_lt_l, nI_l_lt, nI_eq_l, nI_l_eq, nI_eqP, nI_leP, nI_ltP, nI_m1, m1_nI, nI_ll, m1_l, l_m1]
    · obtain ⟨y2, G, Km, h66, em⟩ := mc x L1 M1
      rw [em]
      rw [mkt_mm] at Km h66
      refine m284_to G.1 G.2.1 I.1 Km O hm rfl h66 N8 N1 hn (fun o => ∃ y, o = some (if ¬ i3 = -1 then -1 else nI N, y) ∧ FM v c x y s) (fun n a Fa ha => ⟨a, ?_, G.tr Fa⟩)
      have r1 : rp (Mh s m (dmp s 1 (nI p) (-1) (nP s)) N) = -1 := by rw [rp_m1]; exact N0
      rw [r1]
      by_cases q : i3 = -1 <;> simp (disch := omega) only [fn_284_66, fn_284_144, q, eq_self, Nat.le_refl, Nat.lt_irrefl, some_if, Option.bind_some, Option.bind_none, Option.some.injEq, ↓reduceIte, reduceCtorEq, Bool.false_eq_true, Bool.true_eq_false, not_true_eq_false, not_false_eq_true, cmb0, cmb1, Nat.reduceAdd, Nat.reduceMul, Nat.reduceSub, Nat.add_zero, Bool.not_eq_true, Bool.not_eq_false, Nat.reduceEqDiff, Nat.reduceLeDiff, Nat.reduceLT, Int32.reduceLT, Int32.reduceLE, iin_nI, iin_lit, iin_m1, tn_nI, tn_lit, nI_lm, nI_ml, nI_al, nI_la, nI_add, pk_mul, nI_le_l, nI_l_le, nI_lt_l, nI_l_lt, nI_eq_l, nI_l_eq, nI_eqP, nI_leP, nI_ltP, nI_m1, m1_nI, nI_ll, m1_l, l_m1]
  by_cases im : ∃ k, k < N ∧ i3 = nI k
  · obtain ⟨k, hk, rfl⟩ := im
    have rk := N1 k hk
    have hn : ∀ h, h < k → ¬ nI h = nI k := fun h hh e => by
      have := (nI_eq (a := h) (b := k) (by omega) (by omega)).mp e
      omega
    have hr : ∀ h, h < k → (Mh s m (dmp s 1 (nI p) (-1) (nP s)) h).rest ≠ 0 := fun h hh => N1 h (by omega)
    refine ok_ro (c' := c) (r := if ¬ i4 = 0 then smk (Mh s m (dmp s 1 (nI p) (-1) (nP s)) k) (Mh s m (dmp s 1 (nI p) (-1) (nP s)) k).rest else rp (Mh s m (dmp s 1 (nI p) (-1) (nP s)) k)) g ?_ (fun x L1 M1 _ => ?_)
    · rw [cc]
      refine c52_to F.1 K O (show k ≤ 8 by omega) hr hn (fun o => ∃ w1, o = some (_, w1) ∧ FC v c w w1) (fun n a Fa Ka => ⟨a, ?_, F.tr Fa⟩)
      have Ok : (Mh s m (dmp s 1 (nI p) (-1) (nP s)) k).Ok := Dh_ok O k
      generalize hM : Mh s m (dmp s 1 (nI p) (-1) (nP s)) k = M at *
      have rk : M.rest ≠ 0 := by rw [← hM]; exact rk
      have tz : ¬ M.tot = 0 := by rw [tot_rest Ok]; exact rk
      have tl := tot_le Ok
      have k8 : ¬ 8 ≤ k := by omega
      have rl : M.rest ≤ 1000 := M.scan_le 1000
      have e0 : rp M = nI (M.rest - 1) := if_neg rk
      have e41 := c41 Fa.1 Ka Ok (q := M.rest - 1) (by omega)
      rw [← e0] at e41
      have sk : smk M M.rest = msk (M.sold (M.rest - 1)) M.n := if_neg rk
      rw [sk]
      by_cases q : i4 = 0 <;> simp (disch := omega) only [fn_52_17, fn_52_56, k8, LC Fa.1, c46 Fa.1 Ka Ok, c40 Fa.1 Ka Ok, lgc_le, lle0, tz, e41, q, eq_self, Nat.le_refl, Nat.lt_irrefl, some_if, Option.bind_some, Option.bind_none, Option.some.injEq, ↓reduceIte, reduceCtorEq, Bool.false_eq_true, Bool.true_eq_false, not_true_eq_false, not_false_eq_true, cmb0, cmb1, Nat.reduceAdd, Nat.reduceMul, Nat.reduceSub, Nat.add_zero, Bool.not_eq_true, Bool.not_eq_false, Nat.reduceEqDiff, Nat.reduceLeDiff, Nat.reduceLT, Int32.reduceLT, Int32.reduceLE, iin_nI, iin_lit, iin_m1, tn_nI, tn_lit, nI_lm, nI_ml, nI_al, nI_la, nI_add, pk_mul, nI_le_l, nI_l_le, nI_lt_l, nI_l_lt, nI_eq_l, nI_l_eq, nI_eqP, nI_leP, nI_ltP, nI_m1, m1_nI, nI_ll, m1_l, l_m1]
    · obtain ⟨y2, G, Km, h66, em⟩ := mc x L1 M1
      rw [em]
      rw [mkt_mm] at Km h66
      refine m284_to G.1 G.2.1 I.1 Km O hm rfl h66 (show k ≤ 8 by omega) hr hn (fun o => ∃ y, o = some (_, y) ∧ FM v c x y s) (fun n a Fa ha => ⟨a, ?_, G.tr Fa⟩)
      have r1 : ¬ rp (Mh s m (dmp s 1 (nI p) (-1) (nP s)) k) = -1 := by rw [rp_m1]; exact rk
      by_cases q : i4 = 0 <;> simp (disch := omega) only [fn_284_66, fn_284_88, r1, LM Fa.1, ha, q, eq_self, Nat.le_refl, Nat.lt_irrefl, some_if, Option.bind_some, Option.bind_none, Option.some.injEq, ↓reduceIte, reduceCtorEq, Bool.false_eq_true, Bool.true_eq_false, not_true_eq_false, not_false_eq_true, cmb0, cmb1, Nat.reduceAdd, Nat.reduceMul, Nat.reduceSub, Nat.add_zero, Bool.not_eq_true, Bool.not_eq_false, Nat.reduceEqDiff, Nat.reduceLeDiff, Nat.reduceLT, Int32.reduceLT, Int32.reduceLE, iin_nI, iin_lit, iin_m1, tn_nI, tn_lit, nI_lm, nI_ml, nI_al, nI_la, nI_add, pk_mul, nI_le_l, nI_l_le, nI_lt_l, nI_l_lt, nI_eq_l, nI_l_eq, nI_eqP, nI_leP, nI_ltP, nI_m1, m1_nI, nI_ll, m1_l, l_m1]
  · exact endN (fun h hh e => im ⟨h, hh, e.symm⟩)
end HOURS2
