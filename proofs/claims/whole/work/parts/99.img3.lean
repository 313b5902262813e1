/-! images: the calls -/
section IMG3
variable {v c u n m p q d r b b' B e a K N pl : Nat} {w w' w'' x y : cm_W} {s s' : St}
theorem st4_i {i : Nat} (hi : i < 3) : St4 (63 + 11 * i) := by
  unfold St4; omega
theorem ga41 (L : Lay v c w) {i : Nat} (hi : i < 3) : cm_ga w (.object "NailedBoxes$State") 41 (nI i) = true ∧ cm_R w 41 i = some (63 + 11 * i) := by
  refine ⟨?_, ?_⟩
  · rw [ga_of (n := 3) ((L.sh (a := 41) (by decide) (by decide)).trans rfl)]
    exact iin_nI hi (by decide)
  · rcases (show i = 0 ∨ i = 1 ∨ i = 2 by omega) with rfl | rfl | rfl <;> exact L.R rfl
theorem nP_ims (s : St) (i : Nat) : nP (ims s i) = nP s := by unfold nP; rw [ims_n (a := 96) (k := 2) rfl]
theorem nT_ims (s : St) (i : Nat) : nT (ims s i) = nT s := by unfold nT; rw [ims_n (a := 96) (k := 1) rfl]
theorem mt_140 {j : Nat} (h : j < 9600) : mt 140 j = true := decide_eq_true h
theorem w_image (g : GG v c w s) : OKW (fn_190 2) (fn_297 96) w := by
  obtain ⟨L, M, C, Z, I⟩ := id g
  have hv := L.1
  have hG := I.2.2.2.1
  have e7 : cm_I w 2 7 = nI (nG s) := C.1.2.2.1.trans hG.1
  by_cases h3 : nG s = 3
  · refine ok_ref (r := -1) g 1 (by omega) ?_ (fun x L1 M1 _ => ?_)
    · have : ¬ nG s < 3 := by omega
      simp (disch := omega) only [fn_190, LC L, e7, this, c140 L, eq_self, Nat.le_refl, Nat.lt_irrefl, some_if, Option.bind_some, Option.bind_none, Option.some.injEq, ↓reduceIte, reduceCtorEq, Bool.false_eq_true, Bool.true_eq_false, not_true_eq_false, not_false_eq_true, cmb0, cmb1, Nat.reduceAdd, Nat.reduceMul, Nat.reduceSub, Nat.add_zero, Bool.not_eq_true, Bool.not_eq_false, Nat.reduceEqDiff, Nat.reduceLeDiff, Nat.reduceLT, Int32.reduceLT, Int32.reduceLE, iin_nI, iin_lit, iin_m1, tn_nI, tn_lit, nI_lm, nI_ml, nI_al, nI_la, nI_add, pk_mul, nI_le_l, nI_l_le, nI_lt_l, nI_l_lt, nI_eq_l, nI_l_eq, nI_eqP, nI_leP, nI_ltP, nI_m1, m1_nI, nI_ll, m1_l, l_m1]
    · simp (disch := omega) only [fn_297, LM L1, RM M1, hG.1, h3, m199 L1, eq_self, Nat.le_refl, Nat.lt_irrefl, some_if, Option.bind_some, Option.bind_none, Option.some.injEq, ↓reduceIte, reduceCtorEq, Bool.false_eq_true, Bool.true_eq_false, not_true_eq_false, not_false_eq_true, cmb0, cmb1, Nat.reduceAdd, Nat.reduceMul, Nat.reduceSub, Nat.add_zero, Bool.not_eq_true, Bool.not_eq_false, Nat.reduceEqDiff, Nat.reduceLeDiff, Nat.reduceLT, Int32.reduceLT, Int32.reduceLE, iin_nI, iin_lit, iin_m1, tn_nI, tn_lit, nI_lm, nI_ml, nI_al, nI_la, nI_add, pk_mul, nI_le_l, nI_l_le, nI_lt_l, nI_l_lt, nI_eq_l, nI_l_eq, nI_eqP, nI_leP, nI_ltP, nI_m1, m1_nI, nI_ll, m1_l, l_m1]
  have hg : nG s < 3 := by omega
  generalize eg : nG s = i at *
  obtain ⟨g1, g2⟩ := ga41 L hg
  have hP := I.1.2.1.2
  obtain ⟨w1, a1, L1, E, W, zl, fr⟩ := c97 L (st4_i hg) (show St4 30 from Or.inl rfl) (by omega)
  have e71 : cm_I w1 2 7 = nI i := by rw [(fr 2 (by omega)).1]; exact e7
  have cc : fn_190 2 w = some (nI i, cm_sI w1 2 7 (nI (i + 1))) := by
    have w22 : cm_w2 2 96 2 = true := rfl
    have tg : (nI i).toNatClampNeg = i := tn_nI (by omega)
    rw [fn_190, if_pos (LC L).1, e7, if_pos (show nI i < (3 : Int32) from nI_lt (a := i) (b := 3) hg (by decide)), fn_190_14, if_pos (LC L).1, bd (show cm_R w 2 6 = some 41 from L.R rfl), e7, if_pos g1, if_pos (by omega), tg, bd g2, bd (show cm_R w 2 5 = some 30 from L.R rfl), if_pos (LSu L (st4_i hg)).1.1, bd a1, if_pos (LC L1).1, if_pos w22, I_eq, e71, nI_1, nI_pred]
  generalize hx : cm_sI w1 2 7 (nI (i + 1)) = x at cc
  have Lx : Lay v c x := by rw [← hx]; exact L1
  have ix : ∀ a j, (a ≠ 2 ∨ j ≠ 7) → cm_I x a j = cm_I w1 a j := fun a j h => by rw [← hx, I_if, if_neg (by omega)]
  have zx : cm_L x = cm_L w1 := by rw [← hx]; rfl
  have xm : ∀ a, 96 ≤ a → ∀ j, cm_I x a j = cm_I w a j := fun a ha j => by rw [ix a j (by omega), (fr a (by omega)).1]
  have e96 : cm_I x 96 73 = nI i := by rw [xm 96 (by omega)]; exact (M 96 73 rfl).trans hG.1
  obtain ⟨y, b1, Ly, k1, k2, k3, k4, k5⟩ := m297 Lx hg e96
  have mm : fn_297 96 x = some (nI i, y) := by
    have n3 : ¬ nI i = 3 := fun z => by
      have := (nI_eq (a := i) (b := 3) (by omega) (by decide)).mp z
      omega
    rw [fn_297, if_pos (LM Lx).1, e96, if_pos n3, b1]
  -- the cells of both behind it
  have yc : ∀ a, a < 96 → ∀ j, (a ≠ 2 ∨ j ≠ 7) → (a < 63 + 11 * i ∨ 63 + 11 * i + 11 ≤ a) → cm_I y a j = cm_I w a j := fun a h1 j h2 h3 => by
    rw [k4 a j (by omega) (by omega) (by omega), ix a j h2, (fr a h3).1]
  have ym : ∀ a j, 96 ≤ a → a ≠ 140 → a ≠ 141 → (a ≠ 96 ∨ j ≠ 74 ∧ j ≠ 73) → cm_I y a j = cm_I w a j := fun a j h0 h1 h2 h3 => by
    rw [k4 a j h1 h2 h3, xm a h0]
  refine ⟨nI i, x, y, v, c, fun a k => if a = 140 ∨ a = 96 ∧ k = 73 then cm_I y a k else s a k, cc, mm, ?_⟩
  generalize hs : (fun a k => if a = 140 ∨ a = 96 ∧ k = 73 then cm_I y a k else s a k : St) = s'
  have sn : ∀ a k, ¬ (a = 140 ∨ a = 96 ∧ k = 73) → s' a k = s a k := fun a k h => by rw [← hs]; exact if_neg h
  have sy : ∀ a k, (a = 140 ∨ a = 96 ∧ k = 73) → s' a k = cm_I y a k := fun a k h => by rw [← hs]; exact if_pos h
  have sbn : ∀ a k, sb a k = true → s' a k = s a k := fun a k h => sn a k (fun z => by
    rcases z with rfl | ⟨rfl, rfl⟩
    · cases h
    · cases h)
  have s73 : s' 96 73 = nI (i + 1) := (sy 96 73 (Or.inr ⟨rfl, rfl⟩)).trans k3
  have nG' : nG s' = i + 1 := by unfold nG; rw [s73]; exact tn_nI (by omega)
  have nP' : nP s' = nP s := by unfold nP; rw [sn 96 2 (by omega)]
  have nT' : nT s' = nT s := by unfold nT; rw [sn 96 1 (by omega)]
  have nA' : nA s' = nA s := by unfold nA; rw [sn 96 9 (by omega)]
  -- what the images say
  have im1 : ∀ j, j < i → ∀ a k, sb a k = true → ims s' j a k = ims s j a k := fun j hj a k h => by
    obtain ⟨o1, o2⟩ := ims_of h s' j
    obtain ⟨o3, -⟩ := ims_of h s j
    rw [o1, o3, sy _ _ (Or.inl rfl), k2 _ (by omega), xm 140 (by omega)]
    exact M 140 _ (mt_140 (by omega))
  have im2 : ∀ a k, sb a k = true → ims s' i a k = s a k := fun a k h => by
    obtain ⟨o1, o2⟩ := ims_of h s' i
    rw [o1, sy _ _ (Or.inl rfl), k1 a k h]
    have h96 : 96 ≤ a := by
      rcases sb_cs h with ⟨rfl, -⟩ | ⟨-, o, e1, -⟩
      · omega
      · have : ∀ q, q ∈ iml → 96 ≤ q.1 := by decide
        exact this _ (imo_l e1)
    rw [xm a h96]
    unfold sb at h
    rw [Bool.and_eq_true] at h
    exact M a k h.2
  have RM' : RelM y s' := fun a k h => by
    by_cases z : a = 140 ∨ a = 96 ∧ k = 73
    · rw [sy a k z]
    · have h96 : 96 ≤ a := by
        unfold mt at h
        split at h <;> first | omega | cases h
      have h141 : a ≠ 141 := fun e => by rw [e] at h; cases h
      have h74 : a ≠ 96 ∨ k ≠ 74 := by
        by_cases e : a = 96
        · refine Or.inr fun e2 => ?_
          rw [e, e2] at h; cases h
        · exact Or.inl e
      rw [sn a k z, ym a k h96 (by omega) h141 (by omega)]
      exact M a k h
  obtain ⟨C1, C2, C3, C4, C5, C6⟩ := C
  refine ⟨Ly, RM', ⟨⟨?_, ?_, ?_, fun k hk => ?_, fun k hk => ?_⟩, ?_, ?_, fun j hj => ?_, fun j hj hj3 => ?_, ?_⟩, ⟨?_, fun j hj => ?_⟩, ?_, ?_, ?_, ?_, fun j hj => ?_⟩
  · rw [yc 2 (by omega) 1 (by omega) (by omega), sn 96 9 (by omega)]; exact C1.1
  · rw [yc 2 (by omega) 4 (by omega) (by omega), sn 96 12 (by omega)]; exact C1.2.1
  · rw [k4 2 7 (by omega) (by omega) (by omega), s73, ← hx, I_eq]
  · rw [yc 42 (by omega) k (by omega) (by omega), sn 97 k (by omega)]; exact C1.2.2.2.1 k hk
  · rw [yc 3 (by omega) k (by omega) (by omega), sn 112 k (by omega)]
    rw [nA'] at hk
    exact C1.2.2.2.2 k hk
  · exact C2.cg2 hv (fun a h1 h2 j => yc a (by omega) j (by omega) (by omega)) (fun k hk => sn 96 k (by omega)) (fun a h1 h2 h3 k => sn a k (by omega))
  · exact C3.tr I.2.1 hP (RwE.rf fun a h1 h2 k => yc a (by omega) k (by omega) (by omega)) (by
      rw [yc _ (by omega) _ (by omega) (by omega), yc _ (by omega) _ (by omega) (by omega), yc _ (by omega) _ (by omega) (by omega), yc _ (by omega) _ (by omega) (by omega)]
      exact C3.2.1) sbn nP'
  · by_cases z : j = i
    · subst z
      have h1 := C4 j hj
      have W0 := W.1
      have W3 := W.2.1
      have W5 := W.2.2.1
      have W7 := W.2.2.2
      have t : ∀ t, t < 11 → cm_I y (63 + 11 * j + t) 0 = cm_I w1 (63 + 11 * j + t) 0 := fun t ht => by
        rw [k4 _ _ (by omega) (by omega) (by omega), ix _ _ (by omega)]
      rw [show 64 + 11 * j = 63 + 11 * j + 1 by omega, show 66 + 11 * j = 63 + 11 * j + 3 by omega, show 68 + 11 * j = 63 + 11 * j + 5 by omega, show 70 + 11 * j = 63 + 11 * j + 7 by omega] at h1 ⊢
      rw [t 1 (by omega), t 3 (by omega), t 5 (by omega), t 7 (by omega), W0, W3, W5, W7]
      exact h1
    · rw [yc _ (by omega) _ (by omega) (by omega), yc _ (by omega) _ (by omega) (by omega), yc _ (by omega) _ (by omega) (by omega), yc _ (by omega) _ (by omega) (by omega)]
      exact C4 j hj
  · rw [nG'] at hj
    by_cases z : j = i
    · subst z
      refine C3.tr I.2.1 hP ?_ ?_ im2 ((nP_ims _ _).trans nP')
      · have t : ∀ t k, t < 11 → cm_I y (63 + 11 * j + t) k = cm_I w1 (63 + 11 * j + t) k := fun t k ht => by
          rw [k4 _ _ (by omega) (by omega) (by omega), ix _ _ (by omega)]
        have t0 : cm_I y (63 + 11 * j) 6 = cm_I w1 (63 + 11 * j) 6 := t 0 6 (by omega)
        obtain ⟨⟨E1, E2, E3, E4, E5⟩, E6, E7, E8, E9, E10, E11⟩ := E
        refine ⟨⟨?_, ?_, ?_, ?_, ?_⟩, fun k hk => ?_, fun k hk => ?_, fun k hk => ?_, fun k hk => ?_, fun k hk => ?_, fun k hk => ?_⟩
        · rw [t _ _ (by omega)]; exact E1
        · rw [t _ _ (by omega)]; exact E2
        · rw [t _ _ (by omega)]; exact E3
        · rw [t _ _ (by omega)]; exact E4
        · rw [t0]; exact E5
        · rw [t _ _ (by omega)]; exact E6 k hk
        · rw [t _ _ (by omega)]; exact E7 k hk
        · rw [t _ _ (by omega)]; exact E8 k hk
        · rw [t _ _ (by omega)]; exact E9 k hk
        · rw [t _ _ (by omega)]; exact E10 k hk
        · rw [t _ _ (by omega)]; exact E11 k hk
      · have h1 := C4 j hj3
        have t : ∀ t, t < 11 → cm_I y (63 + 11 * j + t) 0 = cm_I w1 (63 + 11 * j + t) 0 := fun t ht => by
          rw [k4 _ _ (by omega) (by omega) (by omega), ix _ _ (by omega)]
        rw [show 64 + 11 * j = 63 + 11 * j + 1 by omega, show 66 + 11 * j = 63 + 11 * j + 3 by omega, show 68 + 11 * j = 63 + 11 * j + 5 by omega, show 70 + 11 * j = 63 + 11 * j + 7 by omega] at h1
        rw [t 1 (by omega), t 3 (by omega), t 5 (by omega), t 7 (by omega), W.1, W.2.1, W.2.2.1, W.2.2.2]
        exact h1
    · have h1 := C5 j (by omega) hj3
      refine h1.tr (I.2.2.2.2 j (by omega)) (by rw [nP_ims]; exact hP) (RwE.rf fun a h1 h2 k => yc a (by omega) k (by omega) (by omega)) ?_ (im1 j (by omega)) (by rw [nP_ims, nP_ims]; exact nP')
      have h2 := C4 j hj3
      rw [yc _ (by omega) _ (by omega) (by omega), yc _ (by omega) _ (by omega) (by omega), yc _ (by omega) _ (by omega) (by omega), yc _ (by omega) _ (by omega) (by omega)]
      rw [show 63 + 11 * j + 1 = 64 + 11 * j by omega, show 63 + 11 * j + 3 = 66 + 11 * j by omega, show 63 + 11 * j + 5 = 68 + 11 * j by omega, show 63 + 11 * j + 7 = 70 + 11 * j by omega]
      exact h2
  · rw [yc _ (by omega) _ (by omega) (by omega), yc _ (by omega) _ (by omega) (by omega), yc _ (by omega) _ (by omega) (by omega)]
    exact C6
  · rw [k5, if_neg (by omega), k5, if_neg (by omega), zx, (fr 30 (by omega)).2, (fr 96 (by omega)).2]
    exact Z.1
  · rw [nG'] at hj
    rw [k5, if_neg (by omega), k5, zx]
    by_cases z : j = i
    · subst z
      rw [if_pos ⟨rfl, rfl⟩, zl, (fr 96 (by omega)).2]
      exact Z.1
    · rw [if_neg (by omega), (fr _ (by omega)).2, (fr 142 (by omega)).2]
      exact Z.2 j (by omega)
  · exact I.1.cg2 (fun k hk => sn 96 k (by omega)) (fun a h1 h2 h3 k => sn a k (by omega))
  · exact I.2.1.cgb sbn nP' nT'
  · rw [nA', sn 96 9 (by omega)]; exact I.2.2.1
  · rw [nG', s73]; exact ⟨rfl, by omega⟩
  · rw [nG'] at hj
    by_cases z : j = i
    · subst z
      exact I.2.1.cgb im2 ((nP_ims _ _).trans nP') ((nT_ims _ _).trans nT')
    · exact (I.2.2.2.2 j (by omega)).cgb (im1 j (by omega)) (by rw [nP_ims, nP_ims]; exact nP') (by rw [nT_ims, nT_ims]; exact nT')
theorem w_back (g : GG v c w s) (i1 : Int32) : OKW (fn_191 2 i1) (fn_298 96 i1) w := by
  obtain ⟨L, M, C, Z, I⟩ := id g
  have hv := L.1
  have hG := I.2.2.2.1
  have e7 : cm_I w 2 7 = nI (nG s) := C.1.2.2.1.trans hG.1
  have e194 : ∀ x, fn_194 x i1 0 (nI (nG s) - 1) = some (cm_iin i1 (nG s)) := fun x => isIn_ok x i1 (by omega)
  rcases iin_cs i1 (n := nG s) (by omega) with h | ⟨i, hi, rfl⟩
  · refine ok_ref (r := false) g 0 (by omega) ?_ (fun x L1 M1 _ => ?_)
    · have e17 : fn_191_17 2 w = some (false, cm_sI w 42 0 (cm_I w 42 0 + 1)) := by
        simp (disch := omega) only [fn_191_17, LC L, c148 L, eq_self, Nat.le_refl, Nat.lt_irrefl, some_if, Option.bind_some, Option.bind_none, Option.some.injEq, ↓reduceIte, reduceCtorEq, Bool.false_eq_true, Bool.true_eq_false, not_true_eq_false, not_false_eq_true, cmb0, cmb1, Nat.reduceAdd, Nat.reduceMul, Nat.reduceSub, Nat.add_zero, Bool.not_eq_true, Bool.not_eq_false, Nat.reduceEqDiff, Nat.reduceLeDiff, Nat.reduceLT, Int32.reduceLT, Int32.reduceLE, iin_nI, iin_lit, iin_m1, tn_nI, tn_lit, nI_lm, nI_ml, nI_al, nI_la, nI_add, pk_mul, nI_le_l, nI_l_le, nI_lt_l, nI_l_lt, nI_eq_l, nI_l_eq, nI_eqP, nI_leP, nI_ltP, nI_m1, m1_nI, nI_ll, m1_l, l_m1]
      rcases iin_f h (by omega) with h' | h'
      · rw [fn_191, if_pos h', e17]
      · by_cases h2 : i1 < 0
        · rw [fn_191, if_pos h2, e17]
        · rw [fn_191, if_neg h2, if_pos (LC L).1, e7, if_pos h', e17]
    · simp (disch := omega) only [fn_298, LM L1, RM M1, hG.1, e194, h, m198 L1, eq_self, Nat.le_refl, Nat.lt_irrefl, some_if, Option.bind_some, Option.bind_none, Option.some.injEq, ↓reduceIte, reduceCtorEq, Bool.false_eq_true, Bool.true_eq_false, not_true_eq_false, not_false_eq_true, cmb0, cmb1, Nat.reduceAdd, Nat.reduceMul, Nat.reduceSub, Nat.add_zero, Bool.not_eq_true, Bool.not_eq_false, Nat.reduceEqDiff, Nat.reduceLeDiff, Nat.reduceLT, Int32.reduceLT, Int32.reduceLE, iin_nI, iin_lit, iin_m1, tn_nI, tn_lit, nI_lm, nI_ml, nI_al, nI_la, nI_add, pk_mul, nI_le_l, nI_l_le, nI_lt_l, nI_l_lt, nI_eq_l, nI_l_eq, nI_eqP, nI_leP, nI_ltP, nI_m1, m1_nI, nI_ll, m1_l, l_m1]
  have hg : i < 3 := by omega
  obtain ⟨g1, g2⟩ := ga41 L hg
  have hP := I.1.2.1.2
  have tg : (nI i).toNatClampNeg = i := tn_nI (by omega)
  obtain ⟨x, a1, Lx, E, W, zl, fr⟩ := c97 L (show St4 30 from Or.inl rfl) (st4_i hg) (by omega)
  have cc : fn_191 2 (nI i) w = some (true, x) := by
    rw [fn_191, if_neg (nI_pos (by omega)), if_pos (LC L).1, e7, if_neg (nI_ge hi (by omega)), if_pos (show nI i < (3 : Int32) from nI_lt (a := i) (b := 3) hg (by decide)), fn_191_23, if_pos (LC L).1, bd (show cm_R w 2 5 = some 30 from L.R rfl), bd (show cm_R w 2 6 = some 41 from L.R rfl), if_pos g1, if_pos (by omega), tg, bd g2, if_pos (LSu L (Or.inl rfl)).1.1, bd a1]
  have xm : ∀ a, 96 ≤ a → ∀ j, cm_I x a j = cm_I w a j := fun a ha j => by rw [(fr a (by omega)).1]
  obtain ⟨y, b1, Ly, k1, k4, k5⟩ := m298 Lx hg
  have e73 : cm_I x 96 73 = nI (nG s) := by rw [xm 96 (by omega)]; exact (M 96 73 rfl).trans hG.1
  have mm : fn_298 96 (nI i) x = some (true, y) := by
    have ii : cm_iin (nI i) (nG s) = true := iin_nI hi (by omega)
    rw [fn_298, if_pos (LM Lx).1, e73, bd (e194 x), ii, if_pos (by decide), b1]
  have h140 : ∀ j, j < 9600 → cm_I x 140 j = s 140 j := fun j hj => by rw [xm 140 (by omega)]; exact M 140 j (mt_140 hj)
  have imn : ∀ a, a < 96 → imo a = none := fun a ha => by
    unfold imo
    split <;> first | rfl | omega
  have yc : ∀ a, a < 96 → ∀ j, (a < 30 ∨ 41 ≤ a) → cm_I y a j = cm_I w a j := fun a h1 j h2 => by
    rw [k4 a j (imn a h1) (by omega) (by omega), (fr a h2).1]
  have ys : ∀ a, 30 ≤ a → a < 41 → ∀ j, cm_I y a j = cm_I x a j := fun a h1 h2 j => k4 a j (imn a (by omega)) (by omega) (by omega)
  refine ⟨true, x, y, v, c, fun a k => if sb a k = true then ims s i a k else s a k, cc, mm, ?_⟩
  generalize hs : (fun a k => if sb a k = true then ims s i a k else s a k : St) = s'
  have sn : ∀ a k, sb a k = false → s' a k = s a k := fun a k h => by
    rw [← hs]
    show (if sb a k = true then ims s i a k else s a k) = s a k
    rw [h, if_neg (by decide)]
  have sy : ∀ a k, sb a k = true → s' a k = ims s i a k := fun a k h => by rw [← hs]; exact if_pos h
  have nG' : nG s' = nG s := by unfold nG; rw [sn 96 73 rfl]
  have nP' : nP s' = nP s := by unfold nP; rw [sn 96 2 rfl]
  have nT' : nT s' = nT s := by unfold nT; rw [sn 96 1 rfl]
  have nA' : nA s' = nA s := by unfold nA; rw [sn 96 9 rfl]
  have s140 : ∀ k, s' 140 k = s 140 k := fun k => sn 140 k rfl
  have im1 : ∀ j a k, sb a k = true → ims s' j a k = ims s j a k := fun j a k h => by
    rw [(ims_of h s' j).1, (ims_of h s j).1, s140]
  have h96 : ∀ k, k ≤ 7 → s' 96 k = s 96 k := fun k hk => sn 96 k (by
    rcases (show k = 0 ∨ k = 1 ∨ k = 2 ∨ k = 3 ∨ k = 4 ∨ k = 5 ∨ k = 6 ∨ k = 7 by omega) with rfl | rfl | rfl | rfl | rfl | rfl | rfl | rfl <;> rfl)
  have f : ∀ a, 100 ≤ a → a ≤ 111 → a ≠ 105 → ∀ k, s' a k = s a k := fun a h1 h2 h3 k => sn a k (by
    rcases (show a = 100 ∨ a = 101 ∨ a = 102 ∨ a = 103 ∨ a = 104 ∨ a = 106 ∨ a = 107 ∨ a = 108 ∨ a = 109 ∨ a = 110 ∨ a = 111 by omega) with rfl | rfl | rfl | rfl | rfl | rfl | rfl | rfl | rfl | rfl | rfl <;> rfl)
  have RM' : RelM y s' := fun a k h => by
    cases z : sb a k with
    | true =>
      obtain ⟨o1, o2⟩ := ims_of z s i
      rw [sy a k z, o1, k1 a k z, h140 _ (by omega)]
    | false =>
      have h96 : 96 ≤ a := by
        unfold mt at h
        split at h <;> first | omega | cases h
      have h141 : a ≠ 141 := fun e => by rw [e] at h; cases h
      have z2 : sa a k = false := by
        unfold sb at z
        rw [h, Bool.and_true] at z
        exact z
      have h74 : imo a = none ∧ (a ≠ 96 ∨ k ≠ 74 ∧ imf k = none) := by
        unfold sa at z2
        by_cases e : a = 96
        · rw [if_pos e] at z2
          refine ⟨by rw [e]; rfl, Or.inr ⟨fun e2 => ?_, ?_⟩⟩
          · rw [e, e2] at h; cases h
          · cases e3 : imf k with
            | none => rfl
            | some o => rw [e3] at z2; cases z2
        · rw [if_neg e] at z2
          refine ⟨?_, Or.inl e⟩
          cases e3 : imo a with
          | none => rfl
          | some o => rw [e3] at z2; cases z2
      rw [sn a k z, k4 a k h74.1 h141 h74.2, xm a h96]
      exact M a k h
  obtain ⟨C1, C2, C3, C4, C5, C6⟩ := C
  have IS : InvS s' := (I.2.2.2.2 i hi).cgb sy (nP'.trans (nP_ims s i).symm) (nT'.trans (nT_ims s i).symm)
  refine ⟨Ly, RM', ⟨⟨?_, ?_, ?_, fun k hk => ?_, fun k hk => ?_⟩, ?_, ?_, fun j hj => ?_, fun j hj hj3 => ?_, ?_⟩, ⟨?_, fun j hj => ?_⟩, ?_, IS, ?_, ?_, fun j hj => ?_⟩
  · rw [yc 2 (by omega) 1 (by omega), sn 96 9 rfl]; exact C1.1
  · rw [yc 2 (by omega) 4 (by omega), sn 96 12 rfl]; exact C1.2.1
  · rw [yc 2 (by omega) 7 (by omega), sn 96 73 rfl]; exact C1.2.2.1
  · rw [yc 42 (by omega) k (by omega), sn 97 k rfl]; exact C1.2.2.2.1 k hk
  · rw [yc 3 (by omega) k (by omega), sn 112 k rfl]
    rw [nA'] at hk
    exact C1.2.2.2.2 k hk
  · exact C2.cg2 hv (fun a h1 h2 j => yc a (by omega) j (by omega)) h96 f
  · refine (C5 i hi hg).tr (I.2.2.2.2 i hi) (by rw [nP_ims]; exact hP) ?_ ?_ sy (nP'.trans (nP_ims s i).symm)
    · obtain ⟨⟨E1, E2, E3, E4, E5⟩, E6, E7, E8, E9, E10, E11⟩ := E
      refine ⟨⟨?_, ?_, ?_, ?_, ?_⟩, fun k hk => ?_, fun k hk => ?_, fun k hk => ?_, fun k hk => ?_, fun k hk => ?_, fun k hk => ?_⟩
      · rw [ys _ (by omega) (by omega)]; exact E1
      · rw [ys _ (by omega) (by omega)]; exact E2
      · rw [ys _ (by omega) (by omega)]; exact E3
      · rw [ys _ (by omega) (by omega)]; exact E4
      · rw [ys _ (by omega) (by omega)]; exact E5
      · rw [ys _ (by omega) (by omega)]; exact E6 k hk
      · rw [ys _ (by omega) (by omega)]; exact E7 k hk
      · rw [ys _ (by omega) (by omega)]; exact E8 k hk
      · rw [ys _ (by omega) (by omega)]; exact E9 k hk
      · rw [ys _ (by omega) (by omega)]; exact E10 k hk
      · rw [ys _ (by omega) (by omega)]; exact E11 k hk
    · rw [ys _ (by omega) (by omega), ys _ (by omega) (by omega), ys _ (by omega) (by omega), ys _ (by omega) (by omega), W.1, W.2.1, W.2.2.1, W.2.2.2]
      exact C3.2.1
  · rw [yc _ (by omega) _ (by omega), yc _ (by omega) _ (by omega), yc _ (by omega) _ (by omega), yc _ (by omega) _ (by omega)]
    exact C4 j hj
  · rw [nG'] at hj
    have h1 := C5 j hj hj3
    refine h1.tr (I.2.2.2.2 j hj) (by rw [nP_ims]; exact hP) (RwE.rf fun a h1 h2 k => yc a (by omega) k (by omega)) ?_ (im1 j) (by rw [nP_ims, nP_ims]; exact nP')
    have h2 := C4 j hj3
    rw [yc _ (by omega) _ (by omega), yc _ (by omega) _ (by omega), yc _ (by omega) _ (by omega), yc _ (by omega) _ (by omega)]
    rw [show 63 + 11 * j + 1 = 64 + 11 * j by omega, show 63 + 11 * j + 3 = 66 + 11 * j by omega, show 63 + 11 * j + 5 = 68 + 11 * j by omega, show 63 + 11 * j + 7 = 70 + 11 * j by omega]
    exact h2
  · rw [yc _ (by omega) _ (by omega), yc _ (by omega) _ (by omega), yc _ (by omega) _ (by omega)]
    exact C6
  · rw [k5, if_neg (by omega), k5, if_pos ⟨rfl, rfl⟩, zl, (fr 142 (by omega)).2]
    exact Z.2 i hi
  · rw [nG'] at hj
    rw [k5, if_neg (by omega), k5, if_neg (by omega), (fr _ (by omega)).2, (fr 142 (by omega)).2]
    exact Z.2 j hj
  · exact I.1.cg2 h96 f
  · rw [nA', sn 96 9 rfl]; exact I.2.2.1
  · rw [nG', sn 96 73 rfl]; exact hG
  · rw [nG'] at hj
    exact (I.2.2.2.2 j hj).cgb (im1 j) (by rw [nP_ims, nP_ims]; exact nP') (by rw [nT_ims, nT_ims]; exact nT')
end IMG3
