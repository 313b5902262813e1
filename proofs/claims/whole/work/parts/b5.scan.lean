/-! the reference reads a text: blanks, words, numbers, signs -/
def FX (v c : Nat) (x y : cm_W) : Prop := Lay v c y ∧ (∀ a, a ≠ 96 → ∀ j, cm_I y a j = cm_I x a j) ∧ (∀ j, j ≠ 11 → j ≠ 36 → j ≠ 37 → cm_I y 96 j = cm_I x 96 j) ∧ cm_L y = cm_L x
def TX (b : Nat → Int32) (n : Nat) (x : cm_W) : Prop := cm_I x 96 10 = nI n ∧ n ≤ 900 ∧ ∀ j, j < n → cm_I x 113 j = b j
/-- the word's length and value, as the reference has them -/
def wl (b : Nat → Int32) (n p : Nat) : Nat := if kd b n p = 1 then ln b n p else 0
def wv (b : Nat → Int32) (n p : Nat) : Int64 := if wl b n p ≤ 8 then vs b 1 p (wl b n p) else 0
def nl (b : Nat → Int32) (n p : Nat) : Nat := if kd b n p = 2 then ln b n p else 0
def nvs (b : Nat → Int32) (p : Nat) : Nat → Nat := fup (fun j a => 10 * a + (tn (b (p + j)) - 48)) 0
def numok (b : Nat → Int32) (n p lo hi : Nat) : Bool := decide (nl b n p ≠ 0 ∧ nl b n p ≤ 4 ∧ lo ≤ nvs b p (nl b n p) ∧ nvs b p (nl b n p) ≤ hi)
section SCAN
variable {v c n m q k p : Nat} {b : Nat → Int32} {w w' w'' x y z : cm_W}
theorem FX.rf (L : Lay v c x) : FX v c x x := ⟨L, fun _ _ _ => rfl, fun _ _ _ _ => rfl, rfl⟩
theorem FX.tr (h : FX v c x y) (h2 : FX v c y z) : FX v c x z := ⟨h2.1, fun a ha j => (h2.2.1 a ha j).trans (h.2.1 a ha j), fun j a1 a2 a3 => (h2.2.2.1 j a1 a2 a3).trans (h.2.2.1 j a1 a2 a3), h2.2.2.2.trans h.2.2.2⟩
theorem FX.sI (h : FX v c x y) {k : Nat} {i : Int32} (hk : k = 11 ∨ k = 36 ∨ k = 37) : FX v c x (cm_sI y 96 k i) := ⟨h.1, fun a ha j => by rw [I_ne ha]; exact h.2.1 a ha j, fun j a1 a2 a3 => by rw [I_nk (by omega)]; exact h.2.2.1 j a1 a2 a3, h.2.2.2⟩
theorem FX.T (h : FX v c x y) (X : TX b n x) : TX b n y := ⟨by rw [h.2.2.1 10 (by omega) (by omega) (by omega)]; exact X.1, X.2.1, fun j hj => by rw [h.2.1 113 (by omega)]; exact X.2.2 j hj⟩
theorem bk4 (i : Int32) : bk i = 4 ↔ i = 32 ∨ i = 10 := by
  unfold bk
  by_cases h1 : i = 32
  · simp [h1]
  · by_cases h2 : i = 10
    · simp [h2]
    · rw [if_neg h1, if_neg h2]
      constructor
      · intro h
        exfalso
        revert h
        split
        · split
          · decide
          · split <;> decide
        · split
          · split
            · decide
            · split <;> decide
          · decide
      · intro h
        rcases h with h | h
        · exact absurd h h1
        · exact absurd h h2
theorem bk1 (i : Int32) : bk i = 1 ↔ ¬ i < 97 ∧ ¬ 122 < i := by
  unfold bk
  by_cases h1 : i = 32
  · subst h1; decide
  · by_cases h2 : i = 10
    · subst h2; decide
    · rw [if_neg h1, if_neg h2]
      by_cases h3 : i < 97
      · rw [if_pos h3]
        constructor
        · intro h
          exfalso
          revert h
          split
          · decide
          · split <;> decide
        · intro h; exact absurd h3 h.1
      · rw [if_neg h3]
        by_cases h4 : 122 < i
        · rw [if_pos h4]
          constructor
          · intro h
            exfalso
            revert h
            split
            · decide
            · split <;> decide
          · intro h; exact absurd h4 h.2
        · rw [if_neg h4]
          exact ⟨fun _ => ⟨h3, h4⟩, fun _ => rfl⟩
theorem bk2 (i : Int32) : bk i = 2 ↔ ¬ i < 48 ∧ ¬ 57 < i := by
  unfold bk
  by_cases h1 : i = 32
  · subst h1; decide
  · by_cases h2 : i = 10
    · subst h2; decide
    · rw [if_neg h1, if_neg h2]
      by_cases h5 : i < 48
      · have h3 : i < 97 := Int32.lt_trans h5 (by decide)
        rw [if_pos h3, if_pos h5]
        exact ⟨fun h => (by cases h), fun h => absurd h5 h.1⟩
      · by_cases h6 : 57 < i
        · rw [if_neg h5, if_pos h6]
          constructor
          · intro h
            exfalso
            revert h
            split
            · decide
            · split <;> decide
          · intro h; exact absurd h6 h.2
        · have h3 : i < 97 := by
            refine Int32.lt_of_le_of_lt ?_ (show (57 : Int32) < 97 by decide)
            rw [← Int32.not_lt]; exact h6
          rw [if_neg h5, if_neg h6, if_pos h3]
          exact ⟨fun _ => ⟨h5, h6⟩, fun _ => rfl⟩
theorem kd_lt (h : kd b n p ≠ 0) : p < n := by
  by_cases h' : p < n
  · exact h'
  · exact absurd (kd_0.mpr (Nat.le_of_not_lt h')) h
theorem kd_b (h : p < n) : kd b n p = bk (b p) := if_pos h
theorem m202 (L : Lay v c x) (X : TX b n x) : ∀ d q y N, n - q ≤ d → d < N → q ≤ n → FX v c x y → cm_I y 96 11 = nI q → ∃ z, fn_202_0 N 96 y = some z ∧ FX v c x z ∧ cm_I z 96 11 = nI (sk b n q) ∧ cm_I z 96 36 = cm_I y 96 36 ∧ cm_I z 96 37 = cm_I y 96 37 := by
  intro d
  induction d with
  | zero =>
    intro q y N h1 h2 h3 F e
    obtain ⟨N, rfl⟩ : ∃ M, N = M + 1 := ⟨N - 1, by omega⟩
    obtain rfl : q = n := by omega
    have T := F.T X
    refine ⟨y, ?_, F, ?_, rfl, rfl⟩
    · rw [fn_202_0, if_pos (LM F.1).1, T.1, e, if_pos (Int32.le_refl _)]
    · rw [sk_id (by rw [kd_n]; omega)]; exact e
  | succ d ih =>
    intro q y N h1 h2 h3 F e
    obtain ⟨N, rfl⟩ : ∃ M, N = M + 1 := ⟨N - 1, by omega⟩
    have T := F.T X
    by_cases hq : q < n
    rotate_left
    · obtain rfl : q = n := by omega
      refine ⟨y, ?_, F, ?_, rfl, rfl⟩
      · rw [fn_202_0, if_pos (LM F.1).1, T.1, e, if_pos (Int32.le_refl _)]
      · rw [sk_id (by rw [kd_n]; omega)]; exact e
    have hq' : ¬ n ≤ q := by omega
    have n9 := T.2.1
    have eb := T.2.2 q hq
    have step : fn_202_39 (fn_202_0 N) 96 y = fn_202_0 N 96 (cm_sI y 96 11 (nI (q + 1))) := by
      simp (disch := omega) only [fn_202_39, LM F.1, e, cm_w2, Nat.reduceLeDiff, Nat.reduceLT, decide_true, Bool.and_self, Bool.and_true, eq_self, Nat.le_refl, Nat.lt_irrefl, some_if, Option.bind_some, Option.bind_none, Option.some.injEq, ↓reduceIte, reduceCtorEq, Bool.false_eq_true, Bool.true_eq_false, not_true_eq_false, not_false_eq_true, cmb0, cmb1, Nat.reduceAdd, Nat.reduceMul, Nat.reduceSub, Nat.add_zero, Bool.not_eq_true, Bool.not_eq_false, Nat.reduceEqDiff, Nat.reduceLeDiff, Nat.reduceLT, Int32.reduceLT, Int32.reduceLE, iin_nI, iin_lit, iin_m1, tn_nI, tn_lit, nI_lm, nI_ml, nI_al, nI_la, nI_add, pk_mul, nI_le_l, nI_l_le, nI_lt_l, nI_l_lt, nI_eq_l, nI_l_eq, nI_eqP, nI_leP, nI_ltP, nI_m1, m1_nI, nI_ll, m1_l, l_m1]
    by_cases k4 : bk (b q) = 4
    · obtain ⟨z, a1, G, e1, e2, e3⟩ := ih (q + 1) (cm_sI y 96 11 (nI (q + 1))) N (by omega) (by omega) (by omega) (F.sI (by omega)) I_eq
      refine ⟨z, ?_, G, ?_, e2.trans (I_nk (by omega)), e3.trans (I_nk (by omega))⟩
      · rw [← a1, ← step]
        rcases (bk4 _).mp k4 with h | h
        · simp (disch := omega) only [fn_202_0, ↓LMb F.1, LM F.1, T.1, e, hq', eb, h, eq_self, Nat.le_refl, Nat.lt_irrefl, some_if, Option.bind_some, Option.bind_none, Option.some.injEq, ↓reduceIte, reduceCtorEq, Bool.false_eq_true, Bool.true_eq_false, not_true_eq_false, not_false_eq_true, cmb0, cmb1, Nat.reduceAdd, Nat.reduceMul, Nat.reduceSub, Nat.add_zero, Bool.not_eq_true, Bool.not_eq_false, Nat.reduceEqDiff, Nat.reduceLeDiff, Nat.reduceLT, Int32.reduceLT, Int32.reduceLE, iin_nI, iin_lit, iin_m1, tn_nI, tn_lit, nI_lm, nI_ml, nI_al, nI_la, nI_add, pk_mul, nI_le_l, nI_l_le, nI_lt_l, nI_l_lt, nI_eq_l, nI_l_eq, nI_eqP, nI_leP, nI_ltP, nI_m1, m1_nI, nI_ll, m1_l, l_m1]
        · have h32 : ¬ (10 : Int32) = 32 := by decide
          simp (disch := omega) only [fn_202_0, ↓LMb F.1, LM F.1, T.1, e, hq', eb, h, h32, eq_self, Nat.le_refl, Nat.lt_irrefl, some_if, Option.bind_some, Option.bind_none, Option.some.injEq, ↓reduceIte, reduceCtorEq, Bool.false_eq_true, Bool.true_eq_false, not_true_eq_false, not_false_eq_true, cmb0, cmb1, Nat.reduceAdd, Nat.reduceMul, Nat.reduceSub, Nat.add_zero, Bool.not_eq_true, Bool.not_eq_false, Nat.reduceEqDiff, Nat.reduceLeDiff, Nat.reduceLT, Int32.reduceLT, Int32.reduceLE, iin_nI, iin_lit, iin_m1, tn_nI, tn_lit, nI_lm, nI_ml, nI_al, nI_la, nI_add, pk_mul, nI_le_l, nI_l_le, nI_lt_l, nI_l_lt, nI_eq_l, nI_l_eq, nI_eqP, nI_leP, nI_ltP, nI_m1, m1_nI, nI_ll, m1_l, l_m1]
      · rw [e1, sk_1 (by rw [kd_b hq]; exact k4)]
    · refine ⟨y, ?_, F, ?_, rfl, rfl⟩
      · have h1 : ¬ b q = 32 := fun h => k4 ((bk4 _).mpr (Or.inl h))
        have h2 : ¬ b q = 10 := fun h => k4 ((bk4 _).mpr (Or.inr h))
        simp (disch := omega) only [fn_202_0, ↓LMb F.1, LM F.1, T.1, e, hq', eb, h1, h2, eq_self, Nat.le_refl, Nat.lt_irrefl, some_if, Option.bind_some, Option.bind_none, Option.some.injEq, ↓reduceIte, reduceCtorEq, Bool.false_eq_true, Bool.true_eq_false, not_true_eq_false, not_false_eq_true, cmb0, cmb1, Nat.reduceAdd, Nat.reduceMul, Nat.reduceSub, Nat.add_zero, Bool.not_eq_true, Bool.not_eq_false, Nat.reduceEqDiff, Nat.reduceLeDiff, Nat.reduceLT, Int32.reduceLT, Int32.reduceLE, iin_nI, iin_lit, iin_m1, tn_nI, tn_lit, nI_lm, nI_ml, nI_al, nI_la, nI_add, pk_mul, nI_le_l, nI_l_le, nI_lt_l, nI_l_lt, nI_eq_l, nI_l_eq, nI_eqP, nI_leP, nI_ltP, nI_m1, m1_nI, nI_ll, m1_l, l_m1]
      · rw [sk_id (by rw [kd_b hq]; exact k4)]; exact e
theorem blanks_ok (L : Lay v c x) (X : TX b n x) (hq : q ≤ n) (e : cm_I x 96 11 = nI q) : ∃ z, fn_202 96 x = some z ∧ FX v c x z ∧ cm_I z 96 11 = nI (sk b n q) ∧ cm_I z 96 36 = cm_I x 96 36 ∧ cm_I z 96 37 = cm_I x 96 37 := m202 L X 900 q x cm_N (by have := X.2.1; omega) (by decide +kernel) hq (FX.rf L) e
theorem wl_run : (∀ i, i < wl b n p → kd b n (p + i) = 1) ∧ kd b n (p + wl b n p) ≠ 1 := by
  unfold wl
  by_cases h : kd b n p = 1
  · rw [if_pos h]
    have := ln_12 (b := b) (n := n) (p := p) (Or.inl h)
    rw [h] at this
    exact this
  · rw [if_neg h]
    exact ⟨fun i hi => by omega, h⟩
theorem nl_run : (∀ i, i < nl b n p → kd b n (p + i) = 2) ∧ kd b n (p + nl b n p) ≠ 2 := by
  unfold nl
  by_cases h : kd b n p = 2
  · rw [if_pos h]
    have := ln_12 (b := b) (n := n) (p := p) (Or.inr h)
    rw [h] at this
    exact this
  · rw [if_neg h]
    exact ⟨fun i hi => by omega, h⟩
theorem run_le {l c0 : Nat} (hp : p ≤ n) (hc : c0 ≠ 0) (h : ∀ i, i < l → kd b n (p + i) = c0) : p + l ≤ n := by
  by_cases z : l = 0
  · omega
  · have := h (l - 1) (by omega)
    have := kd_lt (b := b) (n := n) (p := p + (l - 1)) (by omega)
    omega
theorem let_and (i : Int32) (h1 : ¬ i < 97) (h2 : ¬ 122 < i) : i &&& 255 = i := by
  have h0 : ¬ i < 0 := fun h => h1 (Int32.lt_trans h (by decide))
  obtain ⟨k, hk, rfl⟩ := nI_of h0
  have : k ≤ 122 := by
    rw [nI_lt_l (n := 122) (by decide) hk] at h2
    have : ¬ 122 < k := h2
    omega
  have d : ∀ k : Fin 128, nI k.1 &&& 255 = nI k.1 := by decide +kernel
  exact d ⟨k, by omega⟩
theorem word_ok (L : Lay v c x) (X : TX b n x) (hq : q ≤ n) (e : cm_I x 96 11 = nI q) : ∃ z, fn_203 96 x = some (wv b n (sk b n q), z) ∧ FX v c x z ∧ cm_I z 96 11 = nI (sk b n q) ∧ cm_I z 96 36 = nI (sk b n q + wl b n (sk b n q)) ∧ cm_I z 96 37 = cm_I x 96 37 := by
  obtain ⟨y0, a0, F0, e0, -, e37⟩ := blanks_ok L X hq e
  have pn := sk_le (b := b) hq
  generalize sk b n q = p at *
  have n9 := X.2.1
  obtain ⟨rn, re⟩ := wl_run (b := b) (n := n) (p := p)
  have wn : p + wl b n p ≤ n := run_le pn (by omega) rn
  unfold wv
  generalize wl b n p = l at *
  have main : ∀ e i a z N, i + e = l → e < N → FX v c x z → cm_I z 96 11 = nI p → cm_I z 96 36 = nI (p + i) → cm_I z 96 37 = cm_I x 96 37 → (i ≤ 8 → a = vs b 1 p i) → ∃ z', fn_203_14 N 96 a z = some (if l ≤ 8 then vs b 1 p l else 0, z') ∧ FX v c x z' ∧ cm_I z' 96 11 = nI p ∧ cm_I z' 96 36 = nI (p + l) ∧ cm_I z' 96 37 = cm_I x 96 37 := by
    intro e
    induction e with
    | zero =>
      intro i a z N h1 h2 F h11 h36 h37 ha
      obtain ⟨N, rfl⟩ : ∃ M, N = M + 1 := ⟨N - 1, by omega⟩
      obtain rfl : i = l := by omega
      have T := F.T X
      have sb : nI (p + i) - nI p = nI i := by rw [pk_sub (by omega), Nat.add_sub_cancel_left]
      have fin : fn_203_100 96 a z = some (if i ≤ 8 then vs b 1 p i else 0, z) := by
        by_cases z8 : i ≤ 8
        · rw [if_pos z8, ← ha z8]
          simp (disch := omega) only [fn_203_100, LM F.1, h11, h36, sb, z8, eq_self, Nat.le_refl, Nat.lt_irrefl, some_if, Option.bind_some, Option.bind_none, Option.some.injEq, ↓reduceIte, reduceCtorEq, Bool.false_eq_true, Bool.true_eq_false, not_true_eq_false, not_false_eq_true, cmb0, cmb1, Nat.reduceAdd, Nat.reduceMul, Nat.reduceSub, Nat.add_zero, Bool.not_eq_true, Bool.not_eq_false, Nat.reduceEqDiff, Nat.reduceLeDiff, Nat.reduceLT, Int32.reduceLT, Int32.reduceLE, iin_nI, iin_lit, iin_m1, tn_nI, tn_lit, nI_lm, nI_ml, nI_al, nI_la, nI_add, pk_mul, nI_le_l, nI_l_le, nI_lt_l, nI_l_lt, nI_eq_l, nI_l_eq, nI_eqP, nI_leP, nI_ltP, nI_m1, m1_nI, nI_ll, m1_l, l_m1]
        · rw [if_neg z8]
          simp (disch := omega) only [fn_203_100, LM F.1, h11, h36, sb, z8, eq_self, Nat.le_refl, Nat.lt_irrefl, some_if, Option.bind_some, Option.bind_none, Option.some.injEq, ↓reduceIte, reduceCtorEq, Bool.false_eq_true, Bool.true_eq_false, not_true_eq_false, not_false_eq_true, cmb0, cmb1, Nat.reduceAdd, Nat.reduceMul, Nat.reduceSub, Nat.add_zero, Bool.not_eq_true, Bool.not_eq_false, Nat.reduceEqDiff, Nat.reduceLeDiff, Nat.reduceLT, Int32.reduceLT, Int32.reduceLE, iin_nI, iin_lit, iin_m1, tn_nI, tn_lit, nI_lm, nI_ml, nI_al, nI_la, nI_add, pk_mul, nI_le_l, nI_l_le, nI_lt_l, nI_l_lt, nI_eq_l, nI_l_eq, nI_eqP, nI_leP, nI_ltP, nI_m1, m1_nI, nI_ll, m1_l, l_m1]
      refine ⟨z, ?_, F, h11, h36, h37⟩
      rw [← fin]
      by_cases hi : p + i < n
      · have hi' : ¬ n ≤ p + i := by omega
        have eb := T.2.2 _ hi
        rw [kd_b hi] at re
        by_cases k1 : b (p + i) < 97
        · simp (disch := omega) only [fn_203_14, ↓LMb F.1, LM F.1, T.1, h36, hi', eb, k1, eq_self, Nat.le_refl, Nat.lt_irrefl, some_if, Option.bind_some, Option.bind_none, Option.some.injEq, ↓reduceIte, reduceCtorEq, Bool.false_eq_true, Bool.true_eq_false, not_true_eq_false, not_false_eq_true, cmb0, cmb1, Nat.reduceAdd, Nat.reduceMul, Nat.reduceSub, Nat.add_zero, Bool.not_eq_true, Bool.not_eq_false, Nat.reduceEqDiff, Nat.reduceLeDiff, Nat.reduceLT, Int32.reduceLT, Int32.reduceLE, iin_nI, iin_lit, iin_m1, tn_nI, tn_lit, nI_lm, nI_ml, nI_al, nI_la, nI_add, pk_mul, nI_le_l, nI_l_le, nI_lt_l, nI_l_lt, nI_eq_l, nI_l_eq, nI_eqP, nI_leP, nI_ltP, nI_m1, m1_nI, nI_ll, m1_l, l_m1]
        · have k2 : 122 < b (p + i) := by
            by_cases k3 : 122 < b (p + i)
            · exact k3
            · exact absurd ((bk1 _).mpr ⟨k1, k3⟩) re
          simp (disch := omega) only [fn_203_14, ↓LMb F.1, LM F.1, T.1, h36, hi', eb, k1, k2, eq_self, Nat.le_refl, Nat.lt_irrefl, some_if, Option.bind_some, Option.bind_none, Option.some.injEq, ↓reduceIte, reduceCtorEq, Bool.false_eq_true, Bool.true_eq_false, not_true_eq_false, not_false_eq_true, cmb0, cmb1, Nat.reduceAdd, Nat.reduceMul, Nat.reduceSub, Nat.add_zero, Bool.not_eq_true, Bool.not_eq_false, Nat.reduceEqDiff, Nat.reduceLeDiff, Nat.reduceLT, Int32.reduceLT, Int32.reduceLE, iin_nI, iin_lit, iin_m1, tn_nI, tn_lit, nI_lm, nI_ml, nI_al, nI_la, nI_add, pk_mul, nI_le_l, nI_l_le, nI_lt_l, nI_l_lt, nI_eq_l, nI_l_eq, nI_eqP, nI_leP, nI_ltP, nI_m1, m1_nI, nI_ll, m1_l, l_m1]
      · obtain e9 : p + i = n := by omega
        have le : n ≤ p + i := by omega
        simp (disch := omega) only [fn_203_14, LM F.1, T.1, h36, le, eq_self, Nat.le_refl, Nat.lt_irrefl, some_if, Option.bind_some, Option.bind_none, Option.some.injEq, ↓reduceIte, reduceCtorEq, Bool.false_eq_true, Bool.true_eq_false, not_true_eq_false, not_false_eq_true, cmb0, cmb1, Nat.reduceAdd, Nat.reduceMul, Nat.reduceSub, Nat.add_zero, Bool.not_eq_true, Bool.not_eq_false, Nat.reduceEqDiff, Nat.reduceLeDiff, Nat.reduceLT, Int32.reduceLT, Int32.reduceLE, iin_nI, iin_lit, iin_m1, tn_nI, tn_lit, nI_lm, nI_ml, nI_al, nI_la, nI_add, pk_mul, nI_le_l, nI_l_le, nI_lt_l, nI_l_lt, nI_eq_l, nI_l_eq, nI_eqP, nI_leP, nI_ltP, nI_m1, m1_nI, nI_ll, m1_l, l_m1]
    | succ e ih =>
      intro i a z N h1 h2 F h11 h36 h37 ha
      obtain ⟨N, rfl⟩ : ∃ M, N = M + 1 := ⟨N - 1, by omega⟩
      have T := F.T X
      have ki := rn i (by omega)
      have hi := kd_lt (b := b) (n := n) (p := p + i) (by omega)
      have hi' : ¬ n ≤ p + i := by omega
      have eb := T.2.2 _ hi
      rw [kd_b hi] at ki
      obtain ⟨k1, k2⟩ := (bk1 _).mp ki
      have sb : nI (p + i) - nI p = nI i := by rw [pk_sub (by omega), Nat.add_sub_cancel_left]
      by_cases z8 : 8 ≤ i
      · obtain ⟨z', a1, G⟩ := ih (i + 1) 0 (cm_sI z 96 36 (nI (p + i + 1))) N (by omega) (by omega) (F.sI (by omega)) ((I_nk (by omega)).trans h11) I_eq ((I_nk (by omega)).trans h37) (fun h => by omega)
        refine ⟨z', ?_, G⟩
        rw [← a1]
        simp (disch := omega) only [fn_203_14, fn_203_85, ↓LMb F.1, LM F.1, T.1, h11, h36, hi', eb, k1, k2, sb, z8, cm_w2, Nat.reduceLeDiff, Nat.reduceLT, decide_true, Bool.and_self, Bool.and_true, eq_self, Nat.le_refl, Nat.lt_irrefl, some_if, Option.bind_some, Option.bind_none, Option.some.injEq, ↓reduceIte, reduceCtorEq, Bool.false_eq_true, Bool.true_eq_false, not_true_eq_false, not_false_eq_true, cmb0, cmb1, Nat.reduceAdd, Nat.reduceMul, Nat.reduceSub, Nat.add_zero, Bool.not_eq_true, Bool.not_eq_false, Nat.reduceEqDiff, Nat.reduceLeDiff, Nat.reduceLT, Int32.reduceLT, Int32.reduceLE, iin_nI, iin_lit, iin_m1, tn_nI, tn_lit, nI_lm, nI_ml, nI_al, nI_la, nI_add, pk_mul, nI_le_l, nI_l_le, nI_lt_l, nI_l_lt, nI_eq_l, nI_l_eq, nI_eqP, nI_leP, nI_ltP, nI_m1, m1_nI, nI_ll, m1_l, l_m1]
      · have a8 := ha (by omega)
        have st : vs b 1 p (i + 1) = (vs b 1 p i <<< (Int32.toInt64 (8 : Int32) &&& 63)) ||| (b (p + i) &&& (255 : Int32)).toInt64 := rfl
        rw [let_and _ k1 k2] at st
        obtain ⟨z', a1, G⟩ := ih (i + 1) (vs b 1 p (i + 1)) (cm_sI z 96 36 (nI (p + i + 1))) N (by omega) (by omega) (F.sI (by omega)) ((I_nk (by omega)).trans h11) I_eq ((I_nk (by omega)).trans h37) (fun h => rfl)
        refine ⟨z', ?_, G⟩
        rw [← a1, st, ← a8, fn_203_14]
        generalize (Int32.toInt64 (8 : Int32) &&& 63) = X8
        simp (disch := omega) only [↓LMb F.1, LM F.1, T.1, h11, h36, hi', eb, k1, k2, sb, z8, cm_w2, Nat.reduceLeDiff, Nat.reduceLT, decide_true, Bool.and_self, Bool.and_true, eq_self, Nat.le_refl, Nat.lt_irrefl, some_if, Option.bind_some, Option.bind_none, Option.some.injEq, ↓reduceIte, reduceCtorEq, Bool.false_eq_true, Bool.true_eq_false, not_true_eq_false, not_false_eq_true, cmb0, cmb1, Nat.reduceAdd, Nat.reduceMul, Nat.reduceSub, Nat.add_zero, Bool.not_eq_true, Bool.not_eq_false, Nat.reduceEqDiff, Nat.reduceLeDiff, Nat.reduceLT, Int32.reduceLT, Int32.reduceLE, iin_nI, iin_lit, iin_m1, tn_nI, tn_lit, nI_lm, nI_ml, nI_al, nI_la, nI_add, pk_mul, nI_le_l, nI_l_le, nI_lt_l, nI_l_lt, nI_eq_l, nI_l_eq, nI_eqP, nI_leP, nI_ltP, nI_m1, m1_nI, nI_ll, m1_l, l_m1]
  obtain ⟨z', a1, G⟩ := main l 0 0 (cm_sI y0 96 36 (nI p)) cm_N (by omega) (Nat.lt_of_le_of_lt (show l ≤ 900 by omega) (by decide +kernel)) (F0.sI (by omega)) ((I_nk (by omega)).trans e0) I_eq ((I_nk (by omega)).trans e37) (fun h => rfl)
  refine ⟨z', ?_, G⟩
  rw [← a1, fn_203, if_pos (LM L).1, bd a0, if_pos (LM F0.1).1, if_pos (show cm_w2 96 143 96 = true from rfl), e0]
end SCAN
