/-! best, little -/
/-- one's own shares times what is above x, in hundredths of all -/
def abv (s : St) (p m x : Nat) : Nat := sgm (fun t => (mko s p m).D t * ((mko s p m).U t - x)) (nT s) * 100 / tn (shs s p)
section BEST
variable {v c u n m l p : Nat} {w w' : cm_W} {s s' : St} {i : Int32}
theorem c42 (L : Lay v c w) (hv : v = 10 ∨ v = 20) (V : VilC w v s) (I : InvV s) (hm : m < 6) (i : Int32) : ∃ y, fn_42 51 v i (nI m) w = some (rpo s i m, y) ∧ FC v c w y := by
  have O := mkt_ok I (l := 1) (m := m) (i := i) (j := -1) hm
  obtain ⟨y1, y, a1, F1, a2, F, K⟩ := c_mkt L hv V I (l := 1) (i := i) (j := -1) (Or.inl (by omega)) hm
  have a2 : fn_36 51 v 1 i (-1) y1 = some y := a2
  have a3 := c40 F.1 K O
  refine ⟨y, ?_, F⟩
  unfold rpo
  simp (disch := omega) only [fn_42, LC L, a1, LC F1.1, a2, LC F.1, a3, eq_self, Nat.le_refl, Nat.lt_irrefl, some_if, Option.bind_some, Option.bind_none, Option.some.injEq, ↓reduceIte, reduceCtorEq, Bool.false_eq_true, Bool.true_eq_false, not_true_eq_false, not_false_eq_true, cmb0, cmb1, Nat.reduceAdd, Nat.reduceMul, Nat.reduceSub, Nat.add_zero, Bool.not_eq_true, Bool.not_eq_false, Nat.reduceEqDiff, Nat.reduceLeDiff, Nat.reduceLT, Int32.reduceLT, Int32.reduceLE, iin_nI, iin_lit, iin_m1, tn_nI, tn_lit, nI_lm, nI_ml, nI_al, nI_la, nI_add, pk_mul, nI_le_l, nI_l_le, nI_lt_l, nI_l_lt, nI_eq_l, nI_l_eq, nI_eqP, nI_leP, nI_ltP, nI_m1, m1_nI, nI_ll, m1_l, l_m1]
theorem m280 (L : Lay v c w) (R : RelM w s) (I : InvV s) (hm : m < 6) (i : Int32) : ∃ y, fn_280 96 i (nI m) w = some (rpo s i m, y) ∧ FM v c w y s := by
  obtain ⟨y1, b1, G1, -, b3, b2⟩ := m269 L R I (l := 1) (i := i) (j := 0) (Or.inl (by omega))
  have b1 : fn_269 96 1 i 0 w = some y1 := b1
  have O := mkt_ok I (l := 1) (m := m) (i := i) (j := 0) hm
  obtain ⟨y2, d1, G2, -⟩ := m272 G1.1 G1.2.1 I (D := dmp s 1 i 0 (nP s)) b2 O hm
  have e9 : mkt s 1 i 0 m = mkt s 1 i (-1) m := mkt_cg fun _ _ => rfl
  rw [← mkt_mm, e9] at d1
  refine ⟨y2, ?_, G1.tr G2⟩
  unfold rpo
  simp (disch := omega) only [fn_280, LM L, b1, LM G1.1, d1, eq_self, Nat.le_refl, Nat.lt_irrefl, some_if, Option.bind_some, Option.bind_none, Option.some.injEq, ↓reduceIte, reduceCtorEq, Bool.false_eq_true, Bool.true_eq_false, not_true_eq_false, not_false_eq_true, cmb0, cmb1, Nat.reduceAdd, Nat.reduceMul, Nat.reduceSub, Nat.add_zero, Bool.not_eq_true, Bool.not_eq_false, Nat.reduceEqDiff, Nat.reduceLeDiff, Nat.reduceLT, Int32.reduceLT, Int32.reduceLE, iin_nI, iin_lit, iin_m1, tn_nI, tn_lit, nI_lm, nI_ml, nI_al, nI_la, nI_add, pk_mul, nI_le_l, nI_l_le, nI_lt_l, nI_l_lt, nI_eq_l, nI_l_eq, nI_eqP, nI_leP, nI_ltP, nI_m1, m1_nI, nI_ll, m1_l, l_m1]
theorem rpo_n (I : InvV s) (hp : p < nP s) (hm : m < 6) (h1 : 0 < nT s) : ∃ k, k < 1000 ∧ rpo s (nI p) m = nI k := by
  have hT := I.1
  obtain ⟨-, -, h3⟩ := I.2.2.2.2.2.1 p hp
  obtain ⟨t, ht, h4⟩ := h3 h1
  obtain ⟨e, h5⟩ := sh_n I hp ht
  obtain ⟨-, h6, h7⟩ := shs_n I hp
  have mp : 0 < mil s p t := by
    unfold mil
    have a1 : tn (s 107 (8 * p + t)) ≠ 0 := fun z => h4 (by rw [e, z]; rfl)
    exact Nat.div_pos (by omega) (h7 h1)
  have dp : 0 < (mkt s 1 (nI p) (-1) m).D t := by
    show 0 < if t < nT s then dm s 1 (nI p) (-1) t else 0
    rw [if_pos ht]
    refine sgm_pos (nP s) p hp ?_
    show 0 < if tog s 1 (nI p) (-1) p t = true then mil s p t else 0
    rw [if_pos (show tog s 1 (nI p) (-1) p t = true from decide_eq_true rfl)]
    exact mp
  have r := Mk.rest_pos (mkt_ok I (l := 1) (m := m) (i := nI p) (j := -1) hm) (t := t) ht dp
  have rl := (mkt s 1 (nI p) (-1) m).scan_le 1000
  unfold rpo rp
  refine ⟨_, ?_, if_neg (by omega)⟩
  unfold Mk.rest at r ⊢
  omega
theorem rest_0 {M : Mk} (h : ∀ t, t < M.n → M.D t = 0) : M.rest = 0 := by
  rcases e : M.rest with _ | q
  · rfl
  · obtain ⟨t, ht, h2⟩ := Mk.rest_ex e
    have := (of_decide_eq_true h2).1
    rw [h t ht] at this
    omega
theorem rpo_0 (I : InvV s) (h : nT s = 0 ∨ cm_iin i (nP s) = false) : rpo s i m = -1 := by
  have hP := I.2.1
  refine if_pos (rest_0 fun t ht => ?_)
  have ht : t < nT s := ht
  show (if t < nT s then dm s 1 i (-1) t else 0) = 0
  rw [if_pos ht]
  refine sgm_0 _ fun q hq => ?_
  rcases h with h | h
  · omega
  · show (if decide (nI q = i) = true then mil s q t else 0) = 0
    rw [decide_eq_false]
    · rfl
    · intro z
      rw [← z, iin_nI hq (by omega)] at h
      cases h
theorem bsm_lt : ∀ k, bsm s i (k + 1) ≤ k := by
  intro k
  induction k with
  | zero => show (if _ then _ else _) ≤ 0; split <;> exact Nat.le_refl _
  | succ k ih =>
    show (if _ then bsm s i (k + 1) else k + 1) ≤ k + 1
    split
    · exact Nat.le_succ_of_le ih
    · exact Nat.le_refl _
theorem w_best (g : GG v c w s) (i1 i2 : Int32) : OKW (fn_176 2 i1 i2) (fn_281 96 i1 i2) w := by
  obtain ⟨L, M, C, Z, I⟩ := id g
  have hv := L.1
  have V := C.2.1
  have hT := I.1.1
  have hP := I.1.2.1
  have e1 : ∀ x, fn_194 x i2 (0 : Int32) (1 : Int32) = some (cm_iin i2 2) := fun x => isIn_lit x i2 1 (by decide)
  by_cases bad : nT s = 0 ∨ cm_iin i1 (nP s) = false
  · have cl : ∃ y, fn_176 2 i1 i2 w = some (-1, y) ∧ FC v c w y := by
      refine up_0 (fun n k (a : (Int32 × Int32) × cm_W) => fn_176_8 n 2 i1 i2 a.1.1 a.1.2 (nI k) a.2) 5 (fun k a => FC v c w a.2 ∧ a.1 = (-1, -1)) (fun o => ∃ y, o = some (-1, y) ∧ FC v c w y) ((-1, -1), w) (by omega) ⟨FC.rf L, rfl⟩ (fun n k a hk ha => Or.inr ?_) (fun n a ha => ?_)
      · obtain ⟨⟨a1, a2⟩, a⟩ := a
        obtain ⟨F, h1⟩ := ha
        dsimp only at F h1 ⊢
        injection h1 with h1 h2
        subst h1 h2
        have hk' : ¬ 5 ≤ k := by omega
        obtain ⟨y, y1, F2⟩ := c42 F.1 hv (F.V V hv) I.1 (m := k) (by omega) i1
        rw [rpo_0 I.1 bad] at y1
        refine ⟨((-1, -1), y), ⟨F.tr F2, rfl⟩, ?_⟩
        have mm1 : (-1 : Int32) ≤ -1 := by decide
        simp (disch := omega) only [fn_176_8, fn_176_44, hk', ↓LCb F.1, LC F.1, y1, mm1, eq_self, Nat.le_refl, Nat.lt_irrefl, some_if, Option.bind_some, Option.bind_none, Option.some.injEq, ↓reduceIte, reduceCtorEq, Bool.false_eq_true, Bool.true_eq_false, not_true_eq_false, not_false_eq_true, cmb0, cmb1, Nat.reduceAdd, Nat.reduceMul, Nat.reduceSub, Nat.add_zero, Bool.not_eq_true, Bool.not_eq_false, Nat.reduceEqDiff, Nat.reduceLeDiff, Nat.reduceLT, Int32.reduceLT, Int32.reduceLE, iin_nI, iin_lit, iin_m1, tn_nI, tn_lit, nI_lm, nI_ml, nI_al, nI_la, nI_add, pk_mul, nI_le_l, nI_l_le, nI_lt_l, nI_l_lt, nI_eq_l, nI_l_eq, nI_eqP, nI_leP, nI_ltP, nI_m1, m1_nI, nI_ll, m1_l, l_m1]
      · obtain ⟨⟨a1, a2⟩, a⟩ := a
        obtain ⟨F, h1⟩ := ha
        dsimp only at F h1 ⊢
        injection h1 with h1 h2
        subst h1 h2
        refine ⟨a, ?_, F⟩
        by_cases q : i2 = 0 <;> by_cases q1 : i2 = 1 <;> simp (disch := omega) only [fn_176_8, fn_176_50, fn_176_58, q, q1, eq_self, Nat.le_refl, Nat.lt_irrefl, some_if, Option.bind_some, Option.bind_none, Option.some.injEq, ↓reduceIte, reduceCtorEq, Bool.false_eq_true, Bool.true_eq_false, not_true_eq_false, not_false_eq_true, cmb0, cmb1, Nat.reduceAdd, Nat.reduceMul, Nat.reduceSub, Nat.add_zero, Bool.not_eq_true, Bool.not_eq_false, Nat.reduceEqDiff, Nat.reduceLeDiff, Nat.reduceLT, Int32.reduceLT, Int32.reduceLE, iin_nI, iin_lit, iin_m1, tn_nI, tn_lit, nI_lm, nI_ml, nI_al, nI_la, nI_add, pk_mul, nI_le_l, nI_l_le, nI_lt_l, nI_l_lt, nI_eq_l, nI_l_eq, nI_eqP, nI_leP, nI_ltP, nI_m1, m1_nI, nI_ll, m1_l, l_m1]
    obtain ⟨y, y1, F⟩ := cl
    refine ok_ro (r := -1) g ⟨y, y1, F⟩ (fun x L1 M1 _ => ⟨x, ?_, FM.rf L1 M1⟩)
    have mW := mWho L1 M1 I.1 i1
    rcases bad with bad | bad
    · cases h : cm_iin i1 (nP s) <;> cases h2 : cm_iin i2 2 <;> simp (disch := omega) only [fn_281, LM L1, RM M1, hT.1, mW, e1, h, h2, bad, eq_self, Nat.le_refl, Nat.lt_irrefl, some_if, Option.bind_some, Option.bind_none, Option.some.injEq, ↓reduceIte, reduceCtorEq, Bool.false_eq_true, Bool.true_eq_false, not_true_eq_false, not_false_eq_true, cmb0, cmb1, Nat.reduceAdd, Nat.reduceMul, Nat.reduceSub, Nat.add_zero, Bool.not_eq_true, Bool.not_eq_false, Nat.reduceEqDiff, Nat.reduceLeDiff, Nat.reduceLT, Int32.reduceLT, Int32.reduceLE, iin_nI, iin_lit, iin_m1, tn_nI, tn_lit, nI_lm, nI_ml, nI_al, nI_la, nI_add, pk_mul, nI_le_l, nI_l_le, nI_lt_l, nI_l_lt, nI_eq_l, nI_l_eq, nI_eqP, nI_leP, nI_ltP, nI_m1, m1_nI, nI_ll, m1_l, l_m1]
    · simp (disch := omega) only [fn_281, LM L1, mW, bad, eq_self, Nat.le_refl, Nat.lt_irrefl, some_if, Option.bind_some, Option.bind_none, Option.some.injEq, ↓reduceIte, reduceCtorEq, Bool.false_eq_true, Bool.true_eq_false, not_true_eq_false, not_false_eq_true, cmb0, cmb1, Nat.reduceAdd, Nat.reduceMul, Nat.reduceSub, Nat.add_zero, Bool.not_eq_true, Bool.not_eq_false, Nat.reduceEqDiff, Nat.reduceLeDiff, Nat.reduceLT, Int32.reduceLT, Int32.reduceLE, iin_nI, iin_lit, iin_m1, tn_nI, tn_lit, nI_lm, nI_ml, nI_al, nI_la, nI_add, pk_mul, nI_le_l, nI_l_le, nI_lt_l, nI_l_lt, nI_eq_l, nI_l_eq, nI_eqP, nI_leP, nI_ltP, nI_m1, m1_nI, nI_ll, m1_l, l_m1]
  · have bad1 : 0 < nT s := by
      rcases Nat.eq_zero_or_pos (nT s) with h | h
      · exact absurd (Or.inl h) bad
      · exact h
    obtain ⟨p, hp, rfl⟩ : ∃ p, p < nP s ∧ i1 = nI p := by
      rcases iin_cs i1 (n := nP s) (by omega) with h | h
      · exact absurd (Or.inr h) bad
      · exact h
    have cl : ∃ y, fn_176 2 (nI p) i2 w = fn_176_50 i2 (nI (bsm s (nI p) 5)) (rpo s (nI p) (bsm s (nI p) 5)) y ∧ FC v c w y := by
      refine up_0 (fun n k (a : (Int32 × Int32) × cm_W) => fn_176_8 n 2 (nI p) i2 a.1.1 a.1.2 (nI k) a.2) 5 (fun k a => FC v c w a.2 ∧ (k = 0 → a.1 = (-1, -1)) ∧ (k ≠ 0 → a.1 = (nI (bsm s (nI p) k), rpo s (nI p) (bsm s (nI p) k)))) (fun o => ∃ y, o = fn_176_50 i2 (nI (bsm s (nI p) 5)) (rpo s (nI p) (bsm s (nI p) 5)) y ∧ FC v c w y) ((-1, -1), w) (by omega) ⟨FC.rf L, fun _ => rfl, fun h => absurd rfl h⟩ (fun n k a hk ha => Or.inr ?_) (fun n a ha => ?_)
      · obtain ⟨⟨a1, a2⟩, a⟩ := a
        obtain ⟨F, h1, h2⟩ := ha
        dsimp only at F h1 h2 ⊢
        have hk' : ¬ 5 ≤ k := by omega
        obtain ⟨y, y1, F2⟩ := c42 F.1 hv (F.V V hv) I.1 (m := k) (by omega) (nI p)
        obtain ⟨x, hx, ex⟩ := rpo_n I.1 (m := k) hp (by omega) bad1
        refine ⟨((nI (bsm s (nI p) (k + 1)), rpo s (nI p) (bsm s (nI p) (k + 1))), y), ⟨F.tr F2, fun h => by omega, fun _ => rfl⟩, ?_⟩
        by_cases k0 : k = 0
        · subst k0
          have h1 := h1 rfl
          injection h1 with h1 h9
          subst h1 h9
          have b1 : bsm s (nI p) (0 + 1) = 0 := by
            show (if _ then 0 else 0) = 0
            split <;> rfl
          have nx : ¬ rpo s (nI p) 0 ≤ -1 := by
            rw [ex]
            have : ∀ k : Fin 1000, ¬ nI k.1 ≤ -1 := by decide +kernel
            exact this ⟨x, hx⟩
          rw [b1]
          simp (disch := omega) only [fn_176_8, fn_176_44, hk', ↓LCb F.1, LC F.1, y1, nx, eq_self, Nat.le_refl, Nat.lt_irrefl, some_if, Option.bind_some, Option.bind_none, Option.some.injEq, ↓reduceIte, reduceCtorEq, Bool.false_eq_true, Bool.true_eq_false, not_true_eq_false, not_false_eq_true, cmb0, cmb1, Nat.reduceAdd, Nat.reduceMul, Nat.reduceSub, Nat.add_zero, Bool.not_eq_true, Bool.not_eq_false, Nat.reduceEqDiff, Nat.reduceLeDiff, Nat.reduceLT, Int32.reduceLT, Int32.reduceLE, iin_nI, iin_lit, iin_m1, tn_nI, tn_lit, nI_lm, nI_ml, nI_al, nI_la, nI_add, pk_mul, nI_le_l, nI_l_le, nI_lt_l, nI_l_lt, nI_eq_l, nI_l_eq, nI_eqP, nI_leP, nI_ltP, nI_m1, m1_nI, nI_ll, m1_l, l_m1]
        · have h2 := h2 k0
          injection h2 with h2 h3
          subst h2 h3
          have bs : bsm s (nI p) (k + 1) = if rpo s (nI p) k ≤ rpo s (nI p) (bsm s (nI p) k) then bsm s (nI p) k else k := rfl
          rw [bs]
          by_cases q : rpo s (nI p) k ≤ rpo s (nI p) (bsm s (nI p) k) <;> simp (disch := omega) only [fn_176_8, fn_176_44, hk', ↓LCb F.1, LC F.1, y1, q, eq_self, Nat.le_refl, Nat.lt_irrefl, some_if, Option.bind_some, Option.bind_none, Option.some.injEq, ↓reduceIte, reduceCtorEq, Bool.false_eq_true, Bool.true_eq_false, not_true_eq_false, not_false_eq_true, cmb0, cmb1, Nat.reduceAdd, Nat.reduceMul, Nat.reduceSub, Nat.add_zero, Bool.not_eq_true, Bool.not_eq_false, Nat.reduceEqDiff, Nat.reduceLeDiff, Nat.reduceLT, Int32.reduceLT, Int32.reduceLE, iin_nI, iin_lit, iin_m1, tn_nI, tn_lit, nI_lm, nI_ml, nI_al, nI_la, nI_add, pk_mul, nI_le_l, nI_l_le, nI_lt_l, nI_l_lt, nI_eq_l, nI_l_eq, nI_eqP, nI_leP, nI_ltP, nI_m1, m1_nI, nI_ll, m1_l, l_m1]
      · obtain ⟨⟨a1, a2⟩, a⟩ := a
        obtain ⟨F, h1, h2⟩ := ha
        have h2 := h2 (by omega)
        injection h2 with h2 h3
        subst h2 h3
        refine ⟨a, ?_, F⟩
        simp (disch := omega) only [fn_176_8, eq_self, Nat.le_refl, Nat.lt_irrefl, some_if, Option.bind_some, Option.bind_none, Option.some.injEq, ↓reduceIte, reduceCtorEq, Bool.false_eq_true, Bool.true_eq_false, not_true_eq_false, not_false_eq_true, cmb0, cmb1, Nat.reduceAdd, Nat.reduceMul, Nat.reduceSub, Nat.add_zero, Bool.not_eq_true, Bool.not_eq_false, Nat.reduceEqDiff, Nat.reduceLeDiff, Nat.reduceLT, Int32.reduceLT, Int32.reduceLE, iin_nI, iin_lit, iin_m1, tn_nI, tn_lit, nI_lm, nI_ml, nI_al, nI_la, nI_add, pk_mul, nI_le_l, nI_l_le, nI_lt_l, nI_l_lt, nI_eq_l, nI_l_eq, nI_eqP, nI_leP, nI_ltP, nI_m1, m1_nI, nI_ll, m1_l, l_m1]
    obtain ⟨y, y1, F⟩ := cl
    have bl : bsm s (nI p) 5 ≤ 4 := bsm_lt (s := s) (i := nI p) 4
    obtain ⟨x5, hx5, ex5⟩ := rpo_n I.1 (m := bsm s (nI p) 5) hp (by omega) bad1
    have nm : ¬ rpo s (nI p) (bsm s (nI p) 5) = -1 := by rw [ex5, nI_m1 (by omega)]; exact id
    have rf : ∀ x, Lay v c x → RelM x s → cm_iin i2 2 = true → ∃ y, fn_281 96 (nI p) i2 x = some (if ¬ i2 = 0 then rpo s (nI p) (bsm s (nI p) 5) else nI (bsm s (nI p) 5), y) ∧ FM v c x y s := by
      intro x L1 M1 h2
      have nT0 : ¬ nT s = 0 := by omega
      have e0 : fn_281 96 (nI p) i2 x = fn_281_31 cm_N 96 (nI p) i2 0 1 x := by
        simp (disch := omega) only [fn_281, fn_281_26, LM L1, RM M1, hT.1, mWho L1 M1 I.1, e1, h2, nT0, eq_self, Nat.le_refl, Nat.lt_irrefl, some_if, Option.bind_some, Option.bind_none, Option.some.injEq, ↓reduceIte, reduceCtorEq, Bool.false_eq_true, Bool.true_eq_false, not_true_eq_false, not_false_eq_true, cmb0, cmb1, Nat.reduceAdd, Nat.reduceMul, Nat.reduceSub, Nat.add_zero, Bool.not_eq_true, Bool.not_eq_false, Nat.reduceEqDiff, Nat.reduceLeDiff, Nat.reduceLT, Int32.reduceLT, Int32.reduceLE, iin_nI, iin_lit, iin_m1, tn_nI, tn_lit, nI_lm, nI_ml, nI_al, nI_la, nI_add, pk_mul, nI_le_l, nI_l_le, nI_lt_l, nI_l_lt, nI_eq_l, nI_l_eq, nI_eqP, nI_leP, nI_ltP, nI_m1, m1_nI, nI_ll, m1_l, l_m1]
      rw [e0]
      refine up_0 (fun n k (a : Int32 × cm_W) => fn_281_31 n 96 (nI p) i2 a.1 (nI (k + 1)) a.2) 4 (fun k a => FM v c x a.2 s ∧ a.1 = nI (bsm s (nI p) (k + 1))) (fun o => ∃ y, o = some (if ¬ i2 = 0 then rpo s (nI p) (bsm s (nI p) 5) else nI (bsm s (nI p) 5), y) ∧ FM v c x y s) (0, x) (by omega) ⟨FM.rf L1 M1, ?_⟩ (fun n k a hk ha => Or.inr ?_) (fun n a ha => ?_)
      · have b1 : bsm s (nI p) (0 + 1) = 0 := by
          show (if _ then 0 else 0) = 0
          split <;> rfl
        rw [b1]; rfl
      · obtain ⟨a1, a⟩ := a
        obtain ⟨F, h1⟩ := ha
        dsimp only at F h1 ⊢
        subst h1
        have hk' : ¬ 5 ≤ k + 1 := by omega
        have bl := bsm_lt (s := s) (i := nI p) k
        obtain ⟨y1, b1, G1⟩ := m280 F.1 F.2.1 I.1 (m := k + 1) (by omega) (nI p)
        obtain ⟨y2, b2, G2⟩ := m280 G1.1 G1.2.1 I.1 (m := bsm s (nI p) (k + 1)) (by omega) (nI p)
        have bs : bsm s (nI p) (k + 1 + 1) = if rpo s (nI p) (k + 1) ≤ rpo s (nI p) (bsm s (nI p) (k + 1)) then bsm s (nI p) (k + 1) else k + 1 := rfl
        refine ⟨(nI (bsm s (nI p) (k + 1 + 1)), y2), ⟨(F.tr G1).tr G2, rfl⟩, ?_⟩
        rw [bs]
        by_cases q : rpo s (nI p) (k + 1) ≤ rpo s (nI p) (bsm s (nI p) (k + 1)) <;> simp (disch := omega) only [fn_281_31, fn_281_56, hk', LM F.1, b1, LM G1.1, b2, q, eq_self, Nat.le_refl, Nat.lt_irrefl, some_if, Option.bind_some, Option.bind_none, Option.some.injEq, ↓reduceIte, reduceCtorEq, Bool.false_eq_true, Bool.true_eq_false, not_true_eq_false, not_false_eq_true, cmb0, cmb1, Nat.reduceAdd, Nat.reduceMul, Nat.reduceSub, Nat.add_zero, Bool.not_eq_true, Bool.not_eq_false, Nat.reduceEqDiff, Nat.reduceLeDiff, Nat.reduceLT, Int32.reduceLT, Int32.reduceLE, iin_nI, iin_lit, iin_m1, tn_nI, tn_lit, nI_lm, nI_ml, nI_al, nI_la, nI_add, pk_mul, nI_le_l, nI_l_le, nI_lt_l, nI_l_lt, nI_eq_l, nI_l_eq, nI_eqP, nI_leP, nI_ltP, nI_m1, m1_nI, nI_ll, m1_l, l_m1]
      · obtain ⟨a1, a⟩ := a
        obtain ⟨F, h1⟩ := ha
        dsimp only at F h1 ⊢
        subst h1
        obtain ⟨y1, b1, G1⟩ := m280 F.1 F.2.1 I.1 (m := bsm s (nI p) 5) (by omega) (nI p)
        refine ⟨y1, ?_, F.tr G1⟩
        by_cases q : i2 = 0 <;> simp (disch := omega) only [fn_281_31, fn_281_62, fn_281_80, LM F.1, b1, nm, q, eq_self, Nat.le_refl, Nat.lt_irrefl, some_if, Option.bind_some, Option.bind_none, Option.some.injEq, ↓reduceIte, reduceCtorEq, Bool.false_eq_true, Bool.true_eq_false, not_true_eq_false, not_false_eq_true, cmb0, cmb1, Nat.reduceAdd, Nat.reduceMul, Nat.reduceSub, Nat.add_zero, Bool.not_eq_true, Bool.not_eq_false, Nat.reduceEqDiff, Nat.reduceLeDiff, Nat.reduceLT, Int32.reduceLT, Int32.reduceLE, iin_nI, iin_lit, iin_m1, tn_nI, tn_lit, nI_lm, nI_ml, nI_al, nI_la, nI_add, pk_mul, nI_le_l, nI_l_le, nI_lt_l, nI_l_lt, nI_eq_l, nI_l_eq, nI_eqP, nI_leP, nI_ltP, nI_m1, m1_nI, nI_ll, m1_l, l_m1]
    by_cases i0 : i2 = 0
    · subst i0
      refine ok_ro (r := nI (bsm s (nI p) 5)) g ⟨y, ?_, F⟩ (fun x L1 M1 _ => ?_)
      · rw [y1]; simp (disch := omega) only [fn_176_50, eq_self, Nat.le_refl, Nat.lt_irrefl, some_if, Option.bind_some, Option.bind_none, Option.some.injEq, ↓reduceIte, reduceCtorEq, Bool.false_eq_true, Bool.true_eq_false, not_true_eq_false, not_false_eq_true, cmb0, cmb1, Nat.reduceAdd, Nat.reduceMul, Nat.reduceSub, Nat.add_zero, Bool.not_eq_true, Bool.not_eq_false, Nat.reduceEqDiff, Nat.reduceLeDiff, Nat.reduceLT, Int32.reduceLT, Int32.reduceLE, iin_nI, iin_lit, iin_m1, tn_nI, tn_lit, nI_lm, nI_ml, nI_al, nI_la, nI_add, pk_mul, nI_le_l, nI_l_le, nI_lt_l, nI_l_lt, nI_eq_l, nI_l_eq, nI_eqP, nI_leP, nI_ltP, nI_m1, m1_nI, nI_ll, m1_l, l_m1]
      · exact rf x L1 M1 (by decide +kernel)
    by_cases i1 : i2 = 1
    · subst i1
      refine ok_ro (r := rpo s (nI p) (bsm s (nI p) 5)) g ⟨y, ?_, F⟩ (fun x L1 M1 _ => ?_)
      · rw [y1]; simp (disch := omega) only [fn_176_50, fn_176_58, eq_self, Nat.le_refl, Nat.lt_irrefl, some_if, Option.bind_some, Option.bind_none, Option.some.injEq, ↓reduceIte, reduceCtorEq, Bool.false_eq_true, Bool.true_eq_false, not_true_eq_false, not_false_eq_true, cmb0, cmb1, Nat.reduceAdd, Nat.reduceMul, Nat.reduceSub, Nat.add_zero, Bool.not_eq_true, Bool.not_eq_false, Nat.reduceEqDiff, Nat.reduceLeDiff, Nat.reduceLT, Int32.reduceLT, Int32.reduceLE, iin_nI, iin_lit, iin_m1, tn_nI, tn_lit, nI_lm, nI_ml, nI_al, nI_la, nI_add, pk_mul, nI_le_l, nI_l_le, nI_lt_l, nI_l_lt, nI_eq_l, nI_l_eq, nI_eqP, nI_leP, nI_ltP, nI_m1, m1_nI, nI_ll, m1_l, l_m1]
      · exact rf x L1 M1 (by decide +kernel)
    have h2 : cm_iin i2 2 = false := by
      rcases iin_cs i2 (n := 2) (by omega) with h | ⟨a, ha, e⟩
      · exact h
      · rcases (show a = 0 ∨ a = 1 by omega) with rfl | rfl
        · exact absurd e i0
        · exact absurd e i1
    refine ok_ro (r := -1) g ⟨y, ?_, F⟩ (fun x L1 M1 _ => ⟨x, ?_, FM.rf L1 M1⟩)
    · rw [y1]; simp (disch := omega) only [fn_176_50, fn_176_58, i0, i1, eq_self, Nat.le_refl, Nat.lt_irrefl, some_if, Option.bind_some, Option.bind_none, Option.some.injEq, ↓reduceIte, reduceCtorEq, Bool.false_eq_true, Bool.true_eq_false, not_true_eq_false, not_false_eq_true, cmb0, cmb1, Nat.reduceAdd, Nat.reduceMul, Nat.reduceSub, Nat.add_zero, Bool.not_eq_true, Bool.not_eq_false, Nat.reduceEqDiff, Nat.reduceLeDiff, Nat.reduceLT, Int32.reduceLT, Int32.reduceLE, iin_nI, iin_lit, iin_m1, tn_nI, tn_lit, nI_lm, nI_ml, nI_al, nI_la, nI_add, pk_mul, nI_le_l, nI_l_le, nI_lt_l, nI_l_lt, nI_eq_l, nI_l_eq, nI_eqP, nI_leP, nI_ltP, nI_m1, m1_nI, nI_ll, m1_l, l_m1]
    · simp (disch := omega) only [fn_281, LM L1, mWho L1 M1 I.1, e1, h2, eq_self, Nat.le_refl, Nat.lt_irrefl, some_if, Option.bind_some, Option.bind_none, Option.some.injEq, ↓reduceIte, reduceCtorEq, Bool.false_eq_true, Bool.true_eq_false, not_true_eq_false, not_false_eq_true, cmb0, cmb1, Nat.reduceAdd, Nat.reduceMul, Nat.reduceSub, Nat.add_zero, Bool.not_eq_true, Bool.not_eq_false, Nat.reduceEqDiff, Nat.reduceLeDiff, Nat.reduceLT, Int32.reduceLT, Int32.reduceLE, iin_nI, iin_lit, iin_m1, tn_nI, tn_lit, nI_lm, nI_ml, nI_al, nI_la, nI_add, pk_mul, nI_le_l, nI_l_le, nI_lt_l, nI_l_lt, nI_eq_l, nI_l_eq, nI_eqP, nI_leP, nI_ltP, nI_m1, m1_nI, nI_ll, m1_l, l_m1]
end BEST
