/-! the class splits a text: all of it -/
section SPLIT3
variable {v c n m q k : Nat} {b : Nat → Int32} {w w' w'' y : cm_W}
theorem t60 (L : Lay v c w) {j k0 : Nat} (hj : j < 901) (hk : cm_I w 6 j = nI k0) (hk0 : k0 < 5) {x : Int64} (hx : cm_L w 8 j = x) : fn_60 w 4 (nI j) = some (if k0 = 1 then wdx x else -1) := by
  have g1 : ∀ i, cm_ga w .long 1 i = cm_iin i 14 := ga_of L.2.2.2.2.1.1
  have a1 : cm_al w 1 = some 14 := al_of L.2.2.2.2.1.1
  have wl : ∀ i, cm_L w 1 i = lw_wl i := L.2.2.2.2.1.2
  have main : ∀ e i N, i + e = 14 → e < N → fn_60_2 w N 4 (nI j) (nI i) = some (if k0 = 1 then wdf x e i else -1) := by
    intro e
    induction e with
    | zero =>
      intro i N h1 h2
      obtain ⟨N, rfl⟩ : ∃ M, N = M + 1 := ⟨N - 1, by omega⟩
      obtain rfl : i = 14 := by omega
      rw [fn_60_2, bd a1, if_pos (show Int32.ofNat 14 ≤ nI 14 from Int32.le_refl _)]
      show some (-1) = some (if k0 = 1 then (-1 : Int32) else -1)
      rw [ite_self]
    | succ e ih =>
      intro i N h1 h2
      obtain ⟨N, rfl⟩ : ∃ M, N = M + 1 := ⟨N - 1, by omega⟩
      have n14 : ¬ Int32.ofNat 14 ≤ nI i := fun z => by
        have := (nI_leI (a := 14) (b := i) (by omega) (by omega)).mp z
        omega
      have s : wdf x (e + 1) i = if lw_wl i = x then nI i else wdf x e (i + 1) := rfl
      have nx := ih (i + 1) N (by omega) (by omega)
      rw [s]
      by_cases z : k0 = 1
      · subst z
        rw [if_pos rfl] at nx
        rw [if_pos rfl]
        by_cases z2 : lw_wl i = x
        · rw [if_pos z2]
          simp (disch := omega) only [fn_60_2, a1, n14, ↓LDb L, LD L, hk, g1, wl, hx, lgc_eq, z2, eq_self, Nat.le_refl, Nat.lt_irrefl, some_if, Option.bind_some, Option.bind_none, Option.some.injEq, ↓reduceIte, reduceCtorEq, Bool.false_eq_true, Bool.true_eq_false, not_true_eq_false, not_false_eq_true, cmb0, cmb1, Nat.reduceAdd, Nat.reduceMul, Nat.reduceSub, Nat.add_zero, Bool.not_eq_true, Bool.not_eq_false, Nat.reduceEqDiff, Nat.reduceLeDiff, Nat.reduceLT, Int32.reduceLT, Int32.reduceLE, iin_nI, iin_lit, iin_m1, tn_nI, tn_lit, nI_lm, nI_ml, nI_al, nI_la, nI_add, pk_mul, nI_le_l, nI_l_le, nI_lt_l, nI_l_lt, nI_eq_l, nI_l_eq, nI_eqP, nI_leP, nI_ltP, nI_m1, m1_nI, nI_ll, m1_l, l_m1]
        · rw [if_neg z2, ← nx]
          simp (disch := omega) only [fn_60_2, fn_60_37, a1, n14, ↓LDb L, LD L, hk, g1, wl, hx, lgc_eq, z2, eq_self, Nat.le_refl, Nat.lt_irrefl, some_if, Option.bind_some, Option.bind_none, Option.some.injEq, ↓reduceIte, reduceCtorEq, Bool.false_eq_true, Bool.true_eq_false, not_true_eq_false, not_false_eq_true, cmb0, cmb1, Nat.reduceAdd, Nat.reduceMul, Nat.reduceSub, Nat.add_zero, Bool.not_eq_true, Bool.not_eq_false, Nat.reduceEqDiff, Nat.reduceLeDiff, Nat.reduceLT, Int32.reduceLT, Int32.reduceLE, iin_nI, iin_lit, iin_m1, tn_nI, tn_lit, nI_lm, nI_ml, nI_al, nI_la, nI_add, pk_mul, nI_le_l, nI_l_le, nI_lt_l, nI_l_lt, nI_eq_l, nI_l_eq, nI_eqP, nI_leP, nI_ltP, nI_m1, m1_nI, nI_ll, m1_l, l_m1]
      · rw [if_neg z]
        simp (disch := omega) only [fn_60_2, a1, n14, ↓LDb L, LD L, hk, z, eq_self, Nat.le_refl, Nat.lt_irrefl, some_if, Option.bind_some, Option.bind_none, Option.some.injEq, ↓reduceIte, reduceCtorEq, Bool.false_eq_true, Bool.true_eq_false, not_true_eq_false, not_false_eq_true, cmb0, cmb1, Nat.reduceAdd, Nat.reduceMul, Nat.reduceSub, Nat.add_zero, Bool.not_eq_true, Bool.not_eq_false, Nat.reduceEqDiff, Nat.reduceLeDiff, Nat.reduceLT, Int32.reduceLT, Int32.reduceLE, iin_nI, iin_lit, iin_m1, tn_nI, tn_lit, nI_lm, nI_ml, nI_al, nI_la, nI_add, pk_mul, nI_le_l, nI_l_le, nI_lt_l, nI_l_lt, nI_eq_l, nI_l_eq, nI_eqP, nI_leP, nI_ltP, nI_m1, m1_nI, nI_ll, m1_l, l_m1]
  exact main 14 0 cm_N (by omega) (by decide +kernel)
theorem t61 (L : Lay v c w) (hb : ∀ j, j < n → cm_I w 3 j = b j) (hn : n ≤ 900) : ∃ y m, fn_61 4 3 (nI n) w = some y ∧ FTk v c w y ∧ TK b n m y := by
  have w2 : cm_w2 4 30 4 = true := rfl
  obtain ⟨y1, M, a1, F1, hM, e5, T1, pM, pl⟩ := t61_10 (v := v) (c := c) (w := w) (n := n) (b := b) hb hn n 0 0 4 (cm_sI w 4 5 0) cm_N (by omega) (Nat.lt_of_le_of_lt (show n - 0 ≤ 900 by omega) (by decide +kernel)) (Nat.zero_le _) (Nat.le_refl _) ((FTk.rf L).sI (by omega)) I_eq (fun j hj => by omega) rfl (by have := kd_le b n 0; omega) (by omega) (fun j hj => by omega)
  obtain ⟨y2, a2, F2, z5, r5, r6, r7, r8, rr⟩ := t58 F1.1 e5 (by omega) (nI n) 0
  have FF := F1.tr F2
  have T2 : TKD b n (M + 1) y2 := (T1.eq rr).suc (by
    rw [pM, kd_n, ln_0 (kd_n b n)]
    refine ⟨r5, r6, r7, ?_⟩
    rw [r8]
    unfold vl
    rw [ln_0 (kd_n b n)]; rfl)
  have e74 : fn_61_74 4 (nI n) y1 = fn_61_83 cm_N 4 (nI 0) y2 := by
    rw [fn_61_74, if_pos (LD F1.1).1, bd a2]
    rfl
  have e61 : fn_61 4 3 (nI n) w = fn_61_83 cm_N 4 (nI 0) y2 := by
    rw [fn_61, if_pos (LD L).1, if_pos w2, ← e74, ← a1]
    rfl
  rw [e61]
  refine up_0 (fun N k y => fn_61_83 N 4 (nI k) y) (M + 1) (fun k y => FTk v c w y ∧ cm_I y 4 5 = nI (M + 1) ∧ TKD b n (M + 1) y ∧ ∀ j, j < k → cm_I y 9 j = wd b n (pos b n j)) (fun o => ∃ y m, o = some y ∧ FTk v c w y ∧ TK b n m y) y2 (by omega) ⟨FF, z5, T2, fun j hj => by omega⟩ (fun N k y hk hy => Or.inr ?_) (fun N y hy => ?_)
  · obtain ⟨F, e5, T, h9⟩ := hy
    have hk' : ¬ M + 1 ≤ k := by omega
    obtain ⟨t5, t6, t7, t8⟩ := T k hk
    have kl := kd_le b n (pos b n k)
    have e60 := t60 F.1 (by omega) t6 (by omega) t8
    have e60 : fn_60 y 4 (nI k) = some (wd b n (pos b n k)) := e60
    refine ⟨cm_sI y 9 k (wd b n (pos b n k)), ⟨F.sI (by omega), ?_, ?_, fun j hj => ?_⟩, ?_⟩
    · rw [I_ne (by omega)]; exact e5
    · intro j hj
      have := T j hj
      rw [I_ne (by omega), I_ne (by omega), I_ne (by omega), L_sI]
      exact this
    · by_cases z : j = k
      · rw [z, I_eq]
      · rw [I_nk z]; exact h9 j (by omega)
    · simp (disch := omega) only [fn_61_83, ↓LDb F.1, LD F.1, e5, hk', e60, cm_w2, Nat.reduceLeDiff, Nat.reduceLT, decide_true, Bool.and_self, Bool.and_true, eq_self, Nat.le_refl, Nat.lt_irrefl, some_if, Option.bind_some, Option.bind_none, Option.some.injEq, ↓reduceIte, reduceCtorEq, Bool.false_eq_true, Bool.true_eq_false, not_true_eq_false, not_false_eq_true, cmb0, cmb1, Nat.reduceAdd, Nat.reduceMul, Nat.reduceSub, Nat.add_zero, Bool.not_eq_true, Bool.not_eq_false, Nat.reduceEqDiff, Nat.reduceLeDiff, Nat.reduceLT, Int32.reduceLT, Int32.reduceLE, iin_nI, iin_lit, iin_m1, tn_nI, tn_lit, nI_lm, nI_ml, nI_al, nI_la, nI_add, pk_mul, nI_le_l, nI_l_le, nI_lt_l, nI_l_lt, nI_eq_l, nI_l_eq, nI_eqP, nI_leP, nI_ltP, nI_m1, m1_nI, nI_ll, m1_l, l_m1]
  · obtain ⟨F, e5, T, h9⟩ := hy
    refine ⟨y, M + 1, ?_, F, e5, ⟨by omega, by omega⟩, pM, fun j hj => pl j (by omega), T, h9⟩
    simp (disch := omega) only [fn_61_83, LD F.1, e5, eq_self, Nat.le_refl, Nat.lt_irrefl, some_if, Option.bind_some, Option.bind_none, Option.some.injEq, ↓reduceIte, reduceCtorEq, Bool.false_eq_true, Bool.true_eq_false, not_true_eq_false, not_false_eq_true, cmb0, cmb1, Nat.reduceAdd, Nat.reduceMul, Nat.reduceSub, Nat.add_zero, Bool.not_eq_true, Bool.not_eq_false, Nat.reduceEqDiff, Nat.reduceLeDiff, Nat.reduceLT, Int32.reduceLT, Int32.reduceLE, iin_nI, iin_lit, iin_m1, tn_nI, tn_lit, nI_lm, nI_ml, nI_al, nI_la, nI_add, pk_mul, nI_le_l, nI_l_le, nI_lt_l, nI_l_lt, nI_eq_l, nI_l_eq, nI_eqP, nI_leP, nI_ltP, nI_m1, m1_nI, nI_ll, m1_l, l_m1]
end SPLIT3
