/-! years: the call -/
section YEARS2
variable {v c u n m p q d : Nat} {w w' w'' x : cm_W} {s s' : St}
theorem c42k (L : Lay v c w) (hv : v = 10 ∨ v = 20) (V : VilC w v s) (I : InvV s) (hm : m < 6) (i : Int32) : ∃ y, fn_42 51 v i (nI m) w = some (rpo s i m, y) ∧ FC v c w y ∧ MkC y (mkt s 1 i (-1) m) := by
  have O := mkt_ok I (l := 1) (m := m) (i := i) (j := -1) hm
  obtain ⟨y1, y, a1, F1, a2, F, K⟩ := c_mkt L hv V I (l := 1) (i := i) (j := -1) (Or.inl (by omega)) hm
  have a2 : fn_36 51 v 1 i (-1) y1 = some y := a2
  have a3 := c40 F.1 K O
  refine ⟨y, ?_, F, K⟩
  unfold rpo
  simp (disch := omega) only [fn_42, LC L, a1, LC F1.1, a2, LC F.1, a3, eq_self, Nat.le_refl, Nat.lt_irrefl, some_if, Option.bind_some, Option.bind_none, Option.some.injEq, ↓reduceIte, reduceCtorEq, Bool.false_eq_true, Bool.true_eq_false, not_true_eq_false, not_false_eq_true, cmb0, cmb1, Nat.reduceAdd, Nat.reduceMul, Nat.reduceSub, Nat.add_zero, Bool.not_eq_true, Bool.not_eq_false, Nat.reduceEqDiff, Nat.reduceLeDiff, Nat.reduceLT, Int32.reduceLT, Int32.reduceLE, iin_nI, iin_lit, iin_m1, tn_nI, tn_lit, nI_lm, nI_ml, nI_al, nI_la, nI_add, pk_mul, nI_le_l, nI_l_le, nI_lt_l, nI_l_lt, nI_eq_l, nI_l_eq, nI_eqP, nI_leP, nI_ltP, nI_m1, m1_nI, nI_ll, m1_l, l_m1]
theorem m272fr (i1 : Int32) : ∀ (N : Nat) (i : Int32) (w : cm_W) (r : Int32) (y : cm_W), fn_272_4 N 96 i1 i w = some (r, y) → ∀ a, a ≠ 96 → ∀ j, cm_I y a j = cm_I w a j := by
  intro N
  induction N with
  | zero => intro i w r y h; cases h
  | succ N ih =>
    intro i w r y h a ha j
    rw [fn_272_4] at h
    split at h
    · unfold fn_272_48 at h
      split at h
      · split at h
        · cases h; exact I_ne ha
        · cases h
      · cases h
    · split at h
      · obtain ⟨v5, -, h⟩ := Option.bind_eq_some_iff.mp h
        split at h
        · split at h
          · exact (ih _ _ _ _ h a ha j).trans (I_ne ha)
          · obtain ⟨v9, -, h⟩ := Option.bind_eq_some_iff.mp h
            split at h
            · exact (ih _ _ _ _ h a ha j).trans (I_ne ha)
            · cases h; exact I_ne ha
        · cases h
      · cases h
theorem m280k (L : Lay v c w) (R : RelM w s) (I : InvV s) (hm : m < 6) (i : Int32) : ∃ y, fn_280 96 i (nI m) w = some (rpo s i m, y) ∧ FM v c w y s ∧ cm_I y 96 66 = smk (mkt s 1 i (-1) m) (mkt s 1 i (-1) m).rest ∧ (∀ t, cm_I y 139 t = cm_I w 139 t) := by
  obtain ⟨y1, b1, G1, i1, b3, b2⟩ := m269 L R I (l := 1) (i := i) (j := 0) (Or.inl (by omega))
  have b1 : fn_269 96 1 i 0 w = some y1 := b1
  have O := mkt_ok I (l := 1) (m := m) (i := i) (j := 0) hm
  obtain ⟨y2, d1, G2, -, d4⟩ := m272 G1.1 G1.2.1 I (D := dmp s 1 i 0 (nP s)) b2 O hm
  have fr := m272fr _ _ _ _ _ _ d1
  have e9 : mkt s 1 i 0 m = mkt s 1 i (-1) m := mkt_cg fun _ _ => rfl
  rw [← mkt_mm, e9] at d1 d4
  refine ⟨y2, ?_, G1.tr G2, d4, fun t => ?_⟩
  · unfold rpo
    simp (disch := omega) only [fn_280, LM L, b1, LM G1.1, d1, eq_self, Nat.le_refl, Nat.lt_irrefl, some_if, Option.bind_some, Option.bind_none, Option.some.injEq, ↓reduceIte, reduceCtorEq, Bool.false_eq_true, Bool.true_eq_false, not_true_eq_false, not_false_eq_true, cmb0, cmb1, Nat.reduceAdd, Nat.reduceMul, Nat.reduceSub, Nat.add_zero, Bool.not_eq_true, Bool.not_eq_false, Nat.reduceEqDiff, Nat.reduceLeDiff, Nat.reduceLT, Int32.reduceLT, Int32.reduceLE, iin_nI, iin_lit, iin_m1, tn_nI, tn_lit, nI_lm, nI_ml, nI_al, nI_la, nI_add, pk_mul, nI_le_l, nI_l_le, nI_lt_l, nI_l_lt, nI_eq_l, nI_l_eq, nI_eqP, nI_leP, nI_ltP, nI_m1, m1_nI, nI_ll, m1_l, l_m1]
  · rw [fr 139 (by omega), i1]
theorem w_years (g : GG v c w s) (i1 i2 i3 : Int32) : OKW (fn_188 2 i1 i2 i3) (fn_294 96 i1 i2 i3) w := by
  obtain ⟨L, M, C, Z, I⟩ := id g
  have hv := L.1
  have V := C.2.1
  have hT := I.1.1
  have hP := I.1.2.1
  have e5 : ∀ x i, fn_194 x i (1 : Int32) (1000 : Int32) = some (cm_iin (i - 1) 1000) := fun x i => isIn_sh x i (lo := 1) (n := 1000) (by omega) (by omega)
  have e6 : ∀ x i, fn_194 x i (10 : Int32) (nI (9 + nT s)) = some (cm_iin (i - 10) (nT s)) := fun x i => by
    have := isIn_sh x i (lo := 10) (n := nT s) (by omega) (by omega)
    rw [show 10 + nT s - 1 = 9 + nT s by omega] at this
    exact this
  rcases iin_cs i1 (n := nP s) (by omega) with h | ⟨p, hp, rfl⟩
  · refine ok_bad g ?_ (fun x L1 M1 => ?_)
    · simp (disch := omega) only [fn_188, fn_188_45, fn_177, ↓LCb L, LC L, LV L hv, c10o L hv V I.1 h, eq_self, Nat.le_refl, Nat.lt_irrefl, some_if, Option.bind_some, Option.bind_none, Option.some.injEq, ↓reduceIte, reduceCtorEq, Bool.false_eq_true, Bool.true_eq_false, not_true_eq_false, not_false_eq_true, cmb0, cmb1, Nat.reduceAdd, Nat.reduceMul, Nat.reduceSub, Nat.add_zero, Bool.not_eq_true, Bool.not_eq_false, Nat.reduceEqDiff, Nat.reduceLeDiff, Nat.reduceLT, Int32.reduceLT, Int32.reduceLE, iin_nI, iin_lit, iin_m1, tn_nI, tn_lit, nI_lm, nI_ml, nI_al, nI_la, nI_add, pk_mul, nI_le_l, nI_l_le, nI_lt_l, nI_l_lt, nI_eq_l, nI_l_eq, nI_eqP, nI_leP, nI_ltP, nI_m1, m1_nI, nI_ll, m1_l, l_m1]
    · simp (disch := omega) only [fn_294, LM L1, mWho L1 M1 I.1, h, eq_self, Nat.le_refl, Nat.lt_irrefl, some_if, Option.bind_some, Option.bind_none, Option.some.injEq, ↓reduceIte, reduceCtorEq, Bool.false_eq_true, Bool.true_eq_false, not_true_eq_false, not_false_eq_true, cmb0, cmb1, Nat.reduceAdd, Nat.reduceMul, Nat.reduceSub, Nat.add_zero, Bool.not_eq_true, Bool.not_eq_false, Nat.reduceEqDiff, Nat.reduceLeDiff, Nat.reduceLT, Int32.reduceLT, Int32.reduceLE, iin_nI, iin_lit, iin_m1, tn_nI, tn_lit, nI_lm, nI_ml, nI_al, nI_la, nI_add, pk_mul, nI_le_l, nI_l_le, nI_lt_l, nI_l_lt, nI_eq_l, nI_l_eq, nI_eqP, nI_leP, nI_ltP, nI_m1, m1_nI, nI_ll, m1_l, l_m1]
  obtain ⟨es, hs, hs2⟩ := shs_n I.1 hp
  have e10 := (c10 L hv V I.1 hp).trans (congrArg some es)
  have tt := shs_sg (m := 0) I.1 hp
  by_cases t0 : nT s = 0
  · have z : tn (shs s p) = 0 := by
      rw [tt]
      show sgm _ (nT s) = 0
      rw [t0]; rfl
    refine ok_bad g ?_ (fun x L1 M1 => ?_)
    · simp (disch := omega) only [fn_188, fn_188_45, fn_177, ↓LCb L, LC L, LV L hv, e10, z, eq_self, Nat.le_refl, Nat.lt_irrefl, some_if, Option.bind_some, Option.bind_none, Option.some.injEq, ↓reduceIte, reduceCtorEq, Bool.false_eq_true, Bool.true_eq_false, not_true_eq_false, not_false_eq_true, cmb0, cmb1, Nat.reduceAdd, Nat.reduceMul, Nat.reduceSub, Nat.add_zero, Bool.not_eq_true, Bool.not_eq_false, Nat.reduceEqDiff, Nat.reduceLeDiff, Nat.reduceLT, Int32.reduceLT, Int32.reduceLE, iin_nI, iin_lit, iin_m1, tn_nI, tn_lit, nI_lm, nI_ml, nI_al, nI_la, nI_add, pk_mul, nI_le_l, nI_l_le, nI_lt_l, nI_l_lt, nI_eq_l, nI_l_eq, nI_eqP, nI_leP, nI_ltP, nI_m1, m1_nI, nI_ll, m1_l, l_m1]
    · by_cases i0 : i3 = 0
      · cases h2 : cm_iin (i2 - 1) 1000 <;> simp (disch := omega) only [fn_294, fn_294_39, LM L1, RM M1, hT.1, mWho L1 M1 I.1, e5, h2, i0, t0, eq_self, Nat.le_refl, Nat.lt_irrefl, some_if, Option.bind_some, Option.bind_none, Option.some.injEq, ↓reduceIte, reduceCtorEq, Bool.false_eq_true, Bool.true_eq_false, not_true_eq_false, not_false_eq_true, cmb0, cmb1, Nat.reduceAdd, Nat.reduceMul, Nat.reduceSub, Nat.add_zero, Bool.not_eq_true, Bool.not_eq_false, Nat.reduceEqDiff, Nat.reduceLeDiff, Nat.reduceLT, Int32.reduceLT, Int32.reduceLE, iin_nI, iin_lit, iin_m1, tn_nI, tn_lit, nI_lm, nI_ml, nI_al, nI_la, nI_add, pk_mul, nI_le_l, nI_l_le, nI_lt_l, nI_l_lt, nI_eq_l, nI_l_eq, nI_eqP, nI_leP, nI_ltP, nI_m1, m1_nI, nI_ll, m1_l, l_m1]
      · have e7 := e6 x i3
        cases h2 : cm_iin (i2 - 1) 1000 <;> cases h3 : cm_iin (i3 - 10) (nT s) <;> rw [h3] at e7 <;> simp (disch := omega) only [fn_294, fn_294_39, LM L1, RM M1, hT.1, mWho L1 M1 I.1, e5, e7, h2, h3, i0, eq_self, Nat.le_refl, Nat.lt_irrefl, some_if, Option.bind_some, Option.bind_none, Option.some.injEq, ↓reduceIte, reduceCtorEq, Bool.false_eq_true, Bool.true_eq_false, not_true_eq_false, not_false_eq_true, cmb0, cmb1, Nat.reduceAdd, Nat.reduceMul, Nat.reduceSub, Nat.add_zero, Bool.not_eq_true, Bool.not_eq_false, Nat.reduceEqDiff, Nat.reduceLeDiff, Nat.reduceLT, Int32.reduceLT, Int32.reduceLE, iin_nI, iin_lit, iin_m1, tn_nI, tn_lit, nI_lm, nI_ml, nI_al, nI_la, nI_add, pk_mul, nI_le_l, nI_l_le, nI_lt_l, nI_l_lt, nI_eq_l, nI_l_eq, nI_eqP, nI_leP, nI_ltP, nI_m1, m1_nI, nI_ll, m1_l, l_m1]
        simp only [t0, eq_self, Nat.le_refl, Nat.lt_irrefl, some_if, Option.bind_some, Option.bind_none, Option.some.injEq, ↓reduceIte, reduceCtorEq, Bool.false_eq_true, Bool.true_eq_false, not_true_eq_false, not_false_eq_true, cmb0, cmb1, Nat.reduceAdd, Nat.reduceMul, Nat.reduceSub, Nat.add_zero, Bool.not_eq_true, Bool.not_eq_false, Nat.reduceEqDiff, Nat.reduceLeDiff, Nat.reduceLT, Int32.reduceLT, Int32.reduceLE, iin_nI, iin_lit, iin_m1, tn_nI, tn_lit, nI_lm, nI_ml, nI_al, nI_la, nI_add, pk_mul, nI_le_l, nI_l_le, nI_lt_l, nI_l_lt, nI_eq_l, nI_l_eq, nI_eqP, nI_leP, nI_ltP, nI_m1, m1_nI, nI_ll, m1_l, l_m1]
  have hs2 := hs2 (by omega)
  have z : ¬ tn (shs s p) ≤ 0 := by omega
  rcases iin_cs (i2 - 1) (n := 1000) (by omega) with h | ⟨n, hn, e⟩
  · refine ok_bad g ?_ (fun x L1 M1 => ?_)
    · rcases lo1 (by omega) h with h3 | ⟨h3, h4⟩
      · simp (disch := omega) only [fn_188, fn_188_45, fn_177, ↓LCb L, LC L, LV L hv, e10, z, h3, eq_self, Nat.le_refl, Nat.lt_irrefl, some_if, Option.bind_some, Option.bind_none, Option.some.injEq, ↓reduceIte, reduceCtorEq, Bool.false_eq_true, Bool.true_eq_false, not_true_eq_false, not_false_eq_true, cmb0, cmb1, Nat.reduceAdd, Nat.reduceMul, Nat.reduceSub, Nat.add_zero, Bool.not_eq_true, Bool.not_eq_false, Nat.reduceEqDiff, Nat.reduceLeDiff, Nat.reduceLT, Int32.reduceLT, Int32.reduceLE, iin_nI, iin_lit, iin_m1, tn_nI, tn_lit, nI_lm, nI_ml, nI_al, nI_la, nI_add, pk_mul, nI_le_l, nI_l_le, nI_lt_l, nI_l_lt, nI_eq_l, nI_l_eq, nI_eqP, nI_leP, nI_ltP, nI_m1, m1_nI, nI_ll, m1_l, l_m1]
      · have h4 : (1000 : Int32) < i2 := h4
        simp (disch := omega) only [fn_188, fn_188_45, fn_177, ↓LCb L, LC L, LV L hv, e10, z, h3, h4, eq_self, Nat.le_refl, Nat.lt_irrefl, some_if, Option.bind_some, Option.bind_none, Option.some.injEq, ↓reduceIte, reduceCtorEq, Bool.false_eq_true, Bool.true_eq_false, not_true_eq_false, not_false_eq_true, cmb0, cmb1, Nat.reduceAdd, Nat.reduceMul, Nat.reduceSub, Nat.add_zero, Bool.not_eq_true, Bool.not_eq_false, Nat.reduceEqDiff, Nat.reduceLeDiff, Nat.reduceLT, Int32.reduceLT, Int32.reduceLE, iin_nI, iin_lit, iin_m1, tn_nI, tn_lit, nI_lm, nI_ml, nI_al, nI_la, nI_add, pk_mul, nI_le_l, nI_l_le, nI_lt_l, nI_l_lt, nI_eq_l, nI_l_eq, nI_eqP, nI_leP, nI_ltP, nI_m1, m1_nI, nI_ll, m1_l, l_m1]
    · simp (disch := omega) only [fn_294, LM L1, mWho L1 M1 I.1, e5, h, eq_self, Nat.le_refl, Nat.lt_irrefl, some_if, Option.bind_some, Option.bind_none, Option.some.injEq, ↓reduceIte, reduceCtorEq, Bool.false_eq_true, Bool.true_eq_false, not_true_eq_false, not_false_eq_true, cmb0, cmb1, Nat.reduceAdd, Nat.reduceMul, Nat.reduceSub, Nat.add_zero, Bool.not_eq_true, Bool.not_eq_false, Nat.reduceEqDiff, Nat.reduceLeDiff, Nat.reduceLT, Int32.reduceLT, Int32.reduceLE, iin_nI, iin_lit, iin_m1, tn_nI, tn_lit, nI_lm, nI_ml, nI_al, nI_la, nI_add, pk_mul, nI_le_l, nI_l_le, nI_lt_l, nI_l_lt, nI_eq_l, nI_l_eq, nI_eqP, nI_leP, nI_ltP, nI_m1, m1_nI, nI_ll, m1_l, l_m1]
  have en : i2 = nI (n + 1) := by
    have : i2 = nI n + 1 := by rw [← e]; grind
    rw [this, nI_1]
  subst en
  have k3 : ¬ n + 1 < 1 := by omega
  have k4 : ¬ 1000 < n + 1 := by omega
  obtain ⟨r, hr, er⟩ := rpo_n I.1 (m := 0) hp (by omega) (by omega)
  have rr : (mkt s 1 (nI p) (-1) 0).rest = r + 1 := by
    have er : rp (mkt s 1 (nI p) (-1) 0) = nI r := er
    unfold rp at er
    by_cases z0 : (mkt s 1 (nI p) (-1) 0).rest = 0
    · rw [if_pos z0, m1_nI (by omega)] at er; cases er
    · rw [if_neg z0] at er
      have rl : (mkt s 1 (nI p) (-1) 0).rest ≤ 1000 := (mkt s 1 (nI p) (-1) 0).scan_le 1000
      have := (nI_eq (by omega) (by omega)).mp er
      omega
  have O := mkt_ok I.1 (l := 1) (m := 0) (i := nI p) (j := -1) (by omega)
  obtain ⟨y, a1, F, K⟩ := c42k L hv V I.1 (m := 0) (by omega) (nI p)
  rw [er] at a1
  have a1 : fn_42 51 v (nI p) 0 w = some (nI r, y) := a1
  have a2 : fn_41 y 51 (nI r) = some (msk ((mkt s 1 (nI p) (-1) 0).sold r) (nT s)) := c41 F.1 K O (q := r) (by omega)
  have a3 := y_cl F.1 hv (F.V V hv) I.1 hp (r := r) (bb := (mkt s 1 (nI p) (-1) 0).sold r) hr (n := n + 1) (by omega) i3 (cm_L y 30 7) (by omega)
  have ez : cm_L y 30 7 = cm_L w 30 7 := by rw [(F.2 30 (by omega)).2]
  have c55 : fn_188_55 2 (nI p) (nI (n + 1)) i3 w = some ((if ¬ i3 = 0 then yof s p (cm_L w 30 7) i3 (n + 1) else ybr s p (cm_L w 30 7) r ((mkt s 1 (nI p) (-1) 0).sold r) (n + 1)), y) := by
    rw [ez] at a3
    have sh51 : ∀ z : cm_W, Lay v c z → cm_sh z 51 = some (.inl 3) := fun z Lz => (Lz.sh (by decide) (by decide)).trans rfl
    have sh30 : cm_sh y 30 = some (.inl 6) := (F.1.sh (by decide) (by decide)).trans rfl
    rw [fn_188_55, if_pos (LC L).1, bd (show cm_R w 2 12 = some 51 from L.R rfl), bd (show cm_R w 2 3 = some v from L.2.2.2.2.2.2.1), if_pos (sh51 w L), bd a1]
    show (if cm_sh y 2 = some (.inl 10) then (cm_R y 2 12).bind fun r26 => (if cm_sh y r26 = some (.inl 3) then (fn_41 y r26 (nI r)).bind fun v29 => (cm_R y 2 5).bind fun r31 => (if cm_sh y r31 = some (.inl 6) then fn_188_99 cm_N 2 (nI p) (nI (n + 1)) i3 (nI r) v29 (0 : Int32) (0 : Int32) (cm_L y r31 7) (0 : Int32) y else none) else none) else none) = _
    rw [if_pos (LC F.1).1, bd (show cm_R y 2 12 = some 51 from F.1.R rfl), if_pos (sh51 y F.1), bd a2, bd (show cm_R y 2 5 = some 30 from F.1.R rfl), if_pos sh30, ez, a3]
  by_cases i0 : i3 = 0
  · subst i0
    refine ok_ro (c' := c) (r := ybr s p (cm_L w 30 7) r ((mkt s 1 (nI p) (-1) 0).sold r) (n + 1)) g ⟨y, ?_, F⟩ (fun x L1 M1 hz => ?_)
    · rw [if_neg (fun h => h rfl)] at c55
      simp (disch := omega) only [fn_188, fn_188_41, fn_177, ↓LCb L, LC L, LV L hv, e10, z, k3, k4, c55, eq_self, Nat.le_refl, Nat.lt_irrefl, some_if, Option.bind_some, Option.bind_none, Option.some.injEq, ↓reduceIte, reduceCtorEq, Bool.false_eq_true, Bool.true_eq_false, not_true_eq_false, not_false_eq_true, cmb0, cmb1, Nat.reduceAdd, Nat.reduceMul, Nat.reduceSub, Nat.add_zero, Bool.not_eq_true, Bool.not_eq_false, Nat.reduceEqDiff, Nat.reduceLeDiff, Nat.reduceLT, Int32.reduceLT, Int32.reduceLE, iin_nI, iin_lit, iin_m1, tn_nI, tn_lit, nI_lm, nI_ml, nI_al, nI_la, nI_add, pk_mul, nI_le_l, nI_l_le, nI_lt_l, nI_l_lt, nI_eq_l, nI_l_eq, nI_eqP, nI_leP, nI_ltP, nI_m1, m1_nI, nI_ll, m1_l, l_m1]
    · obtain ⟨x1, b1, G, gc⟩ := y_rf L1 M1 I.1 hp (by omega) (n := n + 1) (by omega) 0
      rw [hz] at gc
      obtain ⟨x2, b2, G2, g3, g4⟩ := m280k G.1 G.2.1 I.1 (m := 0) (by omega) (nI p)
      rw [er] at b2
      have b2 : fn_280 96 (nI p) 0 x1 = some (nI r, x2) := b2
      have GG2 := G.tr G2
      refine ⟨x2, ?_, GG2⟩
      have lp : fn_294_198 cm_N 96 (nI r) 0 0 x2 = some (ybr s p (cm_L w 30 7) r ((mkt s 1 (nI p) (-1) 0).sold r) (n + 1), x2) := by
        rw [← ysum I.1 hp (by omega)]
        refine up_0 (fun N t (a : Int32) => fn_294_198 N 96 (nI r) a (nI t) x2) (nT s) (fun t a => a = fup (fun t a => a + ycn s p (cm_L w 30 7) t (n + 1) * yvl s r ((mkt s 1 (nI p) (-1) 0).sold r) t) 0 t) (fun o => o = _) (0 : Int32) (by omega) rfl (fun N t a ht ha => Or.inr ⟨_, rfl, ?_⟩) (fun N a ha => ?_)
        · subst ha
          have ht' : ¬ nT s ≤ t := by omega
          have e6 := m196s x2 (mkt s 1 (nI p) (-1) 0) O (k := t) ht
          rw [← g3] at e6
          have gt := (g4 t).trans (gc t ht)
          have e3 := (m223 GG2.1 GG2.2.1 (t := t) (by omega) (nI 0)).trans (congrArg some (ko_n I.1 ht (m := 0) (by omega)))
          have e3 : fn_223 x2 96 (nI t) 0 = some (nI (kn s 0 t)) := e3
          show _ = fn_294_198 N 96 (nI r) (_ + ycn s p (cm_L w 30 7) t (n + 1) * yvl s r ((mkt s 1 (nI p) (-1) 0).sold r) t) (nI (t + 1)) x2
          unfold yvl
          rw [rr, Nat.add_sub_cancel] at e6
          cases zs : (mkt s 1 (nI p) (-1) 0).sold r t
          · rw [zs, decide_eq_false (fun h => by cases h.2)] at e6
            simp (disch := omega) only [fn_294_198, ↓LMb GG2.1, LM GG2.1, RM GG2.2.1, hT.1, ht', e6, gt, e3, eq_self, Nat.le_refl, Nat.lt_irrefl, some_if, Option.bind_some, Option.bind_none, Option.some.injEq, ↓reduceIte, reduceCtorEq, Bool.false_eq_true, Bool.true_eq_false, not_true_eq_false, not_false_eq_true, cmb0, cmb1, Nat.reduceAdd, Nat.reduceMul, Nat.reduceSub, Nat.add_zero, Bool.not_eq_true, Bool.not_eq_false, Nat.reduceEqDiff, Nat.reduceLeDiff, Nat.reduceLT, Int32.reduceLT, Int32.reduceLE, iin_nI, iin_lit, iin_m1, tn_nI, tn_lit, nI_lm, nI_ml, nI_al, nI_la, nI_add, pk_mul, nI_le_l, nI_l_le, nI_lt_l, nI_l_lt, nI_eq_l, nI_l_eq, nI_eqP, nI_leP, nI_ltP, nI_m1, m1_nI, nI_ll, m1_l, l_m1]
          · rw [zs, decide_eq_true ⟨by omega, rfl⟩] at e6
            simp (disch := omega) only [fn_294_198, ↓LMb GG2.1, LM GG2.1, RM GG2.2.1, hT.1, ht', e6, gt, eq_self, Nat.le_refl, Nat.lt_irrefl, some_if, Option.bind_some, Option.bind_none, Option.some.injEq, ↓reduceIte, reduceCtorEq, Bool.false_eq_true, Bool.true_eq_false, not_true_eq_false, not_false_eq_true, cmb0, cmb1, Nat.reduceAdd, Nat.reduceMul, Nat.reduceSub, Nat.add_zero, Bool.not_eq_true, Bool.not_eq_false, Nat.reduceEqDiff, Nat.reduceLeDiff, Nat.reduceLT, Int32.reduceLT, Int32.reduceLE, iin_nI, iin_lit, iin_m1, tn_nI, tn_lit, nI_lm, nI_ml, nI_al, nI_la, nI_add, pk_mul, nI_le_l, nI_l_le, nI_lt_l, nI_l_lt, nI_eq_l, nI_l_eq, nI_eqP, nI_leP, nI_ltP, nI_m1, m1_nI, nI_ll, m1_l, l_m1]
        · subst ha
          simp (disch := omega) only [fn_294_198, LM GG2.1, RM GG2.2.1, hT.1, eq_self, Nat.le_refl, Nat.lt_irrefl, some_if, Option.bind_some, Option.bind_none, Option.some.injEq, ↓reduceIte, reduceCtorEq, Bool.false_eq_true, Bool.true_eq_false, not_true_eq_false, not_false_eq_true, cmb0, cmb1, Nat.reduceAdd, Nat.reduceMul, Nat.reduceSub, Nat.add_zero, Bool.not_eq_true, Bool.not_eq_false, Nat.reduceEqDiff, Nat.reduceLeDiff, Nat.reduceLT, Int32.reduceLT, Int32.reduceLE, iin_nI, iin_lit, iin_m1, tn_nI, tn_lit, nI_lm, nI_ml, nI_al, nI_la, nI_add, pk_mul, nI_le_l, nI_l_le, nI_lt_l, nI_l_lt, nI_eq_l, nI_l_eq, nI_eqP, nI_leP, nI_ltP, nI_m1, m1_nI, nI_ll, m1_l, l_m1]
      have m184 : fn_294_184 96 (nI p) x1 = some (ybr s p (cm_L w 30 7) r ((mkt s 1 (nI p) (-1) 0).sold r) (n + 1), x2) := by
        rw [fn_294_184, if_pos (LM G.1).1, bd b2]
        show fn_294_198 cm_N 96 (nI r) (0 : Int32) (0 : Int32) x2 = _
        exact lp
      simp (disch := omega) only [fn_294, fn_294_39, LM L1, RM M1, hT.1, mWho L1 M1 I.1, e5, e, t0, b1, fn_294_170, m184, Int32.le_refl, eq_self, Nat.le_refl, Nat.lt_irrefl, some_if, Option.bind_some, Option.bind_none, Option.some.injEq, ↓reduceIte, reduceCtorEq, Bool.false_eq_true, Bool.true_eq_false, not_true_eq_false, not_false_eq_true, cmb0, cmb1, Nat.reduceAdd, Nat.reduceMul, Nat.reduceSub, Nat.add_zero, Bool.not_eq_true, Bool.not_eq_false, Nat.reduceEqDiff, Nat.reduceLeDiff, Nat.reduceLT, Int32.reduceLT, Int32.reduceLE, iin_nI, iin_lit, iin_m1, tn_nI, tn_lit, nI_lm, nI_ml, nI_al, nI_la, nI_add, pk_mul, nI_le_l, nI_l_le, nI_lt_l, nI_l_lt, nI_eq_l, nI_l_eq, nI_eqP, nI_leP, nI_ltP, nI_m1, m1_nI, nI_ll, m1_l, l_m1]
  rcases iin_cs (i3 - 10) (n := nT s) (by omega) with h | ⟨t, ht, e3⟩
  · refine ok_bad g ?_ (fun x L1 M1 => ?_)
    · simp (disch := omega) only [fn_188, fn_188_45, fn_177, ↓LCb L, ↓LVb L hv, LC L, LV L hv, e10, z, k3, k4, i0, hasT L hv V I.1, h, eq_self, Nat.le_refl, Nat.lt_irrefl, some_if, Option.bind_some, Option.bind_none, Option.some.injEq, ↓reduceIte, reduceCtorEq, Bool.false_eq_true, Bool.true_eq_false, not_true_eq_false, not_false_eq_true, cmb0, cmb1, Nat.reduceAdd, Nat.reduceMul, Nat.reduceSub, Nat.add_zero, Bool.not_eq_true, Bool.not_eq_false, Nat.reduceEqDiff, Nat.reduceLeDiff, Nat.reduceLT, Int32.reduceLT, Int32.reduceLE, iin_nI, iin_lit, iin_m1, tn_nI, tn_lit, nI_lm, nI_ml, nI_al, nI_la, nI_add, pk_mul, nI_le_l, nI_l_le, nI_lt_l, nI_l_lt, nI_eq_l, nI_l_eq, nI_eqP, nI_leP, nI_ltP, nI_m1, m1_nI, nI_ll, m1_l, l_m1]
    · simp (disch := omega) only [fn_294, LM L1, RM M1, hT.1, mWho L1 M1 I.1, e5, e6, e, i0, h, eq_self, Nat.le_refl, Nat.lt_irrefl, some_if, Option.bind_some, Option.bind_none, Option.some.injEq, ↓reduceIte, reduceCtorEq, Bool.false_eq_true, Bool.true_eq_false, not_true_eq_false, not_false_eq_true, cmb0, cmb1, Nat.reduceAdd, Nat.reduceMul, Nat.reduceSub, Nat.add_zero, Bool.not_eq_true, Bool.not_eq_false, Nat.reduceEqDiff, Nat.reduceLeDiff, Nat.reduceLT, Int32.reduceLT, Int32.reduceLE, iin_nI, iin_lit, iin_m1, tn_nI, tn_lit, nI_lm, nI_ml, nI_al, nI_la, nI_add, pk_mul, nI_le_l, nI_l_le, nI_lt_l, nI_l_lt, nI_eq_l, nI_l_eq, nI_eqP, nI_leP, nI_ltP, nI_m1, m1_nI, nI_ll, m1_l, l_m1]
  refine ok_ro (c' := c) (r := ycn s p (cm_L w 30 7) t (n + 1)) g ⟨y, ?_, F⟩ (fun x L1 M1 hz => ?_)
  · rw [if_pos i0, yof_n I.1 hp (by omega) _ e3 ht] at c55
    have ht2 : cm_iin (nI t) (nT s) = true := iin_nI ht (by omega)
    simp (disch := omega) only [fn_188, fn_188_41, fn_177, ↓LCb L, ↓LVb L hv, LC L, LV L hv, e10, z, k3, k4, i0, hasT L hv V I.1, e3, ht2, c55, eq_self, Nat.le_refl, Nat.lt_irrefl, some_if, Option.bind_some, Option.bind_none, Option.some.injEq, ↓reduceIte, reduceCtorEq, Bool.false_eq_true, Bool.true_eq_false, not_true_eq_false, not_false_eq_true, cmb0, cmb1, Nat.reduceAdd, Nat.reduceMul, Nat.reduceSub, Nat.add_zero, Bool.not_eq_true, Bool.not_eq_false, Nat.reduceEqDiff, Nat.reduceLeDiff, Nat.reduceLT, Int32.reduceLT, Int32.reduceLE, iin_nI, iin_lit, iin_m1, tn_nI, tn_lit, nI_lm, nI_ml, nI_al, nI_la, nI_add, pk_mul, nI_le_l, nI_l_le, nI_lt_l, nI_l_lt, nI_eq_l, nI_l_eq, nI_eqP, nI_leP, nI_ltP, nI_m1, m1_nI, nI_ll, m1_l, l_m1]
  · obtain ⟨x1, b1, G, gc⟩ := y_rf L1 M1 I.1 hp (by omega) (n := n + 1) (by omega) i3
    rw [hz] at gc
    have ht2 : cm_iin (nI t) (nT s) = true := iin_nI ht (by omega)
    have h0 : ¬ i3 ≤ 0 := by
      have : i3 = nI t + 10 := by rw [← e3]; grind
      have : i3 = nI (t + 10) := this.trans (nI_add t 10)
      rw [this, nI_l_le (n := 0) (by decide) (by omega)]
      show ¬ t + 10 ≤ 0
      omega
    have gt := gc t ht
    refine ⟨x1, ?_, G⟩
    simp (disch := omega) only [fn_294, fn_294_39, LM L1, RM M1, hT.1, mWho L1 M1 I.1, e5, e6, e, e3, ht2, i0, t0, b1, fn_294_170, h0, ↓LMb G.1, LM G.1, gt, eq_self, Nat.le_refl, Nat.lt_irrefl, some_if, Option.bind_some, Option.bind_none, Option.some.injEq, ↓reduceIte, reduceCtorEq, Bool.false_eq_true, Bool.true_eq_false, not_true_eq_false, not_false_eq_true, cmb0, cmb1, Nat.reduceAdd, Nat.reduceMul, Nat.reduceSub, Nat.add_zero, Bool.not_eq_true, Bool.not_eq_false, Nat.reduceEqDiff, Nat.reduceLeDiff, Nat.reduceLT, Int32.reduceLT, Int32.reduceLE, iin_nI, iin_lit, iin_m1, tn_nI, tn_lit, nI_lm, nI_ml, nI_al, nI_la, nI_add, pk_mul, nI_le_l, nI_l_le, nI_lt_l, nI_l_lt, nI_eq_l, nI_l_eq, nI_eqP, nI_leP, nI_ltP, nI_m1, m1_nI, nI_ll, m1_l, l_m1]
end YEARS2
