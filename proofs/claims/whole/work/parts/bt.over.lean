/-! the reference takes a village over -/
section OVER
variable {v c u n m q k p t P Q i j : Nat} {b : Nat → Int32} {w w' w0 x x' x0 y z : cm_W} {s : St}
theorem ov_things (ht : t ≤ 8) : ∀ d k, k + d = t → ∀ (x : cm_W) N, d < N → Lay v c x → cm_I x 96 1 = nI t → ∃ y, fn_219_58 N 96 (nI k) x = fn_219_132 96 y ∧ Lay v c y ∧ (∀ a j, (a < 100 ∨ 103 < a ∨ j < k ∨ 8 ≤ j) → cm_I y a j = cm_I x a j) ∧ cm_L y = cm_L x ∧ ∀ j, k ≤ j → j < t → ∀ c, c < 4 → cm_I y (100 + c) j = cm_I x (100 + c) (8 + j) := by
  intro d
  induction d with
  | zero =>
    intro k hk x N hN L h1
    obtain ⟨N, rfl⟩ : ∃ a, N = a + 1 := ⟨N - 1, by omega⟩
    refine ⟨x, ?_, L, fun _ _ _ => rfl, rfl, fun j h1 h2 => by omega⟩
    rw [fn_219_58, if_pos (LM L).1, h1, if_pos ((nI_leI (by omega) (by omega)).mpr (by omega))]
  | succ d ih =>
    intro k hk x N hN L h1
    obtain ⟨N, rfl⟩ : ∃ a, N = a + 1 := ⟨N - 1, by omega⟩
    have hkt : ¬ t ≤ k := by omega
    obtain ⟨y, a1, a2, a3, a4, a5⟩ := ih (k + 1) (by omega) (cm_sI (cm_sI (cm_sI (cm_sI x 100 k (cm_I x 100 (8 + k))) 101 k (cm_I x 101 (8 + k))) 102 k (cm_I x 102 (8 + k))) 103 k (cm_I x 103 (8 + k))) N (by omega) L (by rw [I_ne (by omega), I_ne (by omega), I_ne (by omega), I_ne (by omega)]; exact h1)
    refine ⟨y, ?_, a2, fun a j h => ?_, a4, fun j h1 h2 c hc => ?_⟩
    · rw [← a1]
      simp (disch := omega) only [fn_219_58, ↓LMb L, LM L, R_sI, sh_sI, ga_sI, I_ne, h1, hkt, cm_w2, Nat.reduceLeDiff, Nat.reduceLT, decide_true, Bool.and_self, Bool.and_true, eq_self, Nat.le_refl, Nat.lt_irrefl, some_if, Option.bind_some, Option.bind_none, Option.some.injEq, ↓reduceIte, reduceCtorEq, Bool.false_eq_true, Bool.true_eq_false, not_true_eq_false, not_false_eq_true, cmb0, cmb1, Nat.reduceAdd, Nat.reduceMul, Nat.reduceSub, Nat.add_zero, Bool.not_eq_true, Bool.not_eq_false, Nat.reduceEqDiff, Nat.reduceLeDiff, Nat.reduceLT, Int32.reduceLT, Int32.reduceLE, iin_nI, iin_lit, iin_m1, tn_nI, tn_lit, nI_lm, nI_ml, nI_al, nI_la, nI_add, pk_mul, nI_le_l, nI_l_le, nI_lt_l, nI_l_lt, nI_eq_l, nI_l_eq, nI_eqP, nI_leP, nI_ltP, nI_m1, m1_nI, nI_ll, m1_l, l_m1]
    · rw [a3 a j (by omega), I_if, if_neg (by omega), I_if, if_neg (by omega), I_if, if_neg (by omega), I_if, if_neg (by omega)]
    · by_cases e : j = k
      · subst e
        rw [a3 _ _ (by omega)]
        have : c = 0 ∨ c = 1 ∨ c = 2 ∨ c = 3 := by omega
        rcases this with rfl | rfl | rfl | rfl
        · rw [I_ne (by omega), I_ne (by omega), I_ne (by omega)]; exact I_eq
        · rw [I_ne (by omega), I_ne (by omega)]; exact I_eq
        · rw [I_ne (by omega)]; exact I_eq
        · exact I_eq
      · rw [a5 j (by omega) h2 c hc, I_if, if_neg (by omega), I_if, if_neg (by omega), I_if, if_neg (by omega), I_if, if_neg (by omega)]
theorem ov_row (ht : t ≤ 8) (hp : p < 12) {K : Nat → Int32 → cm_W → Option cm_W} : ∀ d j, j + d = 8 → ∀ (x : cm_W) N, d < N → Lay v c x → cm_I x 96 1 = nI t → ∃ y, fn_219_186 K N 96 (nI p) (nI j) x = K 96 (nI (p + 1)) y ∧ Lay v c y ∧ (∀ a i, (a ≠ 107 ∨ i < 8 * p + j ∨ 8 * p + 8 ≤ i) → cm_I y a i = cm_I x a i) ∧ cm_L y = cm_L x ∧ ∀ i, j ≤ i → i < 8 → cm_I y 107 (8 * p + i) = if cm_I x 106 (12 + p) = 1 then cm_I x 107 (8 * (12 + p) + i) else if i < t then 1 else 0 := by
  intro d
  induction d with
  | zero =>
    intro j hj x N hN L h1
    obtain ⟨N, rfl⟩ : ∃ a, N = a + 1 := ⟨N - 1, by omega⟩
    refine ⟨x, ?_, L, fun _ _ _ => rfl, rfl, fun i h1 h2 => by omega⟩
    rw [fn_219_186, if_pos (by rw [nI_le_l (n := 8) (by decide) (by omega)]; show 8 ≤ j; omega), fn_219_255, show nI p + (1 : Int32) = nI (p + 1) from nI_1 p]
  | succ d ih =>
    intro j hj x N hN L h1
    obtain ⟨N, rfl⟩ : ∃ a, N = a + 1 := ⟨N - 1, by omega⟩
    have j8 : ¬ 8 ≤ j := by omega
    obtain ⟨i0, e0⟩ : ∃ i0 : Int32, i0 = if cm_I x 106 (12 + p) = 1 then cm_I x 107 (8 * (12 + p) + j) else if j < t then 1 else 0 := ⟨_, rfl⟩
    obtain ⟨y, a1, a2, a3, a4, a5⟩ := ih (j + 1) (by omega) (cm_sI x 107 (8 * p + j) i0) N (by omega) L (by rw [I_ne (by omega)]; exact h1)
    refine ⟨y, ?_, a2, fun a i h => ?_, a4, fun i h1 h2 => ?_⟩
    · rw [← a1, e0]
      have f0 : fn_195 x 0 = some 0 := by rw [fn_195, if_pos rfl]
      have f1 : fn_195 x 1 = some 1 := by rw [fn_195, if_neg (by decide)]
      by_cases z : cm_I x 106 (12 + p) = 1
      · rw [if_pos z]
        simp (disch := omega) only [fn_219_186, ↓LMb L, LM L, R_sI, sh_sI, ga_sI, j8, z, cm_w2, Nat.reduceLeDiff, Nat.reduceLT, decide_true, Bool.and_self, Bool.and_true, eq_self, Nat.le_refl, Nat.lt_irrefl, some_if, Option.bind_some, Option.bind_none, Option.some.injEq, ↓reduceIte, reduceCtorEq, Bool.false_eq_true, Bool.true_eq_false, not_true_eq_false, not_false_eq_true, cmb0, cmb1, Nat.reduceAdd, Nat.reduceMul, Nat.reduceSub, Nat.add_zero, Bool.not_eq_true, Bool.not_eq_false, Nat.reduceEqDiff, Nat.reduceLeDiff, Nat.reduceLT, Int32.reduceLT, Int32.reduceLE, iin_nI, iin_lit, iin_m1, tn_nI, tn_lit, nI_lm, nI_ml, nI_al, nI_la, nI_add, pk_mul, nI_le_l, nI_l_le, nI_lt_l, nI_l_lt, nI_eq_l, nI_l_eq, nI_eqP, nI_leP, nI_ltP, nI_m1, m1_nI, nI_ll, m1_l, l_m1]
      · rw [if_neg z]
        by_cases z2 : j < t
        · have z3 : ¬ t ≤ j := by omega
          rw [if_pos z2]
          simp (disch := omega) only [fn_219_186, ↓LMb L, LM L, R_sI, sh_sI, ga_sI, h1, j8, z, z3, f1, cm_w2, Nat.reduceLeDiff, Nat.reduceLT, decide_true, Bool.and_self, Bool.and_true, eq_self, Nat.le_refl, Nat.lt_irrefl, some_if, Option.bind_some, Option.bind_none, Option.some.injEq, ↓reduceIte, reduceCtorEq, Bool.false_eq_true, Bool.true_eq_false, not_true_eq_false, not_false_eq_true, cmb0, cmb1, Nat.reduceAdd, Nat.reduceMul, Nat.reduceSub, Nat.add_zero, Bool.not_eq_true, Bool.not_eq_false, Nat.reduceEqDiff, Nat.reduceLeDiff, Nat.reduceLT, Int32.reduceLT, Int32.reduceLE, iin_nI, iin_lit, iin_m1, tn_nI, tn_lit, nI_lm, nI_ml, nI_al, nI_la, nI_add, pk_mul, nI_le_l, nI_l_le, nI_lt_l, nI_l_lt, nI_eq_l, nI_l_eq, nI_eqP, nI_leP, nI_ltP, nI_m1, m1_nI, nI_ll, m1_l, l_m1]
        · have z3 : t ≤ j := by omega
          rw [if_neg z2]
          simp (disch := omega) only [fn_219_186, ↓LMb L, LM L, R_sI, sh_sI, ga_sI, h1, j8, z, z3, f0, cm_w2, Nat.reduceLeDiff, Nat.reduceLT, decide_true, Bool.and_self, Bool.and_true, eq_self, Nat.le_refl, Nat.lt_irrefl, some_if, Option.bind_some, Option.bind_none, Option.some.injEq, ↓reduceIte, reduceCtorEq, Bool.false_eq_true, Bool.true_eq_false, not_true_eq_false, not_false_eq_true, cmb0, cmb1, Nat.reduceAdd, Nat.reduceMul, Nat.reduceSub, Nat.add_zero, Bool.not_eq_true, Bool.not_eq_false, Nat.reduceEqDiff, Nat.reduceLeDiff, Nat.reduceLT, Int32.reduceLT, Int32.reduceLE, iin_nI, iin_lit, iin_m1, tn_nI, tn_lit, nI_lm, nI_ml, nI_al, nI_la, nI_add, pk_mul, nI_le_l, nI_l_le, nI_lt_l, nI_l_lt, nI_eq_l, nI_l_eq, nI_eqP, nI_leP, nI_ltP, nI_m1, m1_nI, nI_ll, m1_l, l_m1]
    · rw [a3 a i (by omega), I_if, if_neg (by omega)]
    · by_cases e : i = j
      · subst e
        rw [a3 _ _ (by omega), I_eq, e0]
      · rw [a5 i (by omega) h2, I_ne (by omega), I_nk (by omega)]
theorem ov_people (ht : t ≤ 8) (hP : P ≤ 12) : ∀ d k, k + d = P → ∀ (x : cm_W) N, d < N → Lay v c x → cm_I x 96 1 = nI t → cm_I x 96 2 = nI P → ∃ y, fn_219_134 N 96 (nI k) x = fn_219_261 96 y ∧ Lay v c y ∧ (∀ a j, ((a < 104 ∨ a = 106 ∨ a = 108 ∨ a = 109 ∨ a = 110 ∨ 111 < a) ∨ a ≠ 107 ∧ (j < k ∨ 12 ≤ j) ∨ a = 107 ∧ (j < 8 * k ∨ 96 ≤ j)) → cm_I y a j = cm_I x a j) ∧ cm_L y = cm_L x ∧ ∀ e, k ≤ e → e < P → (cm_I y 104 e = cm_I x 104 (12 + e) ∧ cm_I y 105 e = cm_I x 105 (12 + e) ∧ cm_I y 111 e = cm_I x 105 (12 + e)) ∧ ∀ i, i < 8 → cm_I y 107 (8 * e + i) = if cm_I x 106 (12 + e) = 1 then cm_I x 107 (8 * (12 + e) + i) else if i < t then 1 else 0 := by
  intro d
  induction d with
  | zero =>
    intro k hk x N hN L h1 h2
    obtain ⟨N, rfl⟩ : ∃ a, N = a + 1 := ⟨N - 1, by omega⟩
    refine ⟨x, ?_, L, fun _ _ _ => rfl, rfl, fun j h1 h2 => by omega⟩
    rw [fn_219_134, if_pos (LM L).1, h2, if_pos ((nI_leI (by omega) (by omega)).mpr (by omega))]
  | succ d ih =>
    intro k hk x N hN L h1 h2
    obtain ⟨N, rfl⟩ : ∃ a, N = a + 1 := ⟨N - 1, by omega⟩
    have hkP : ¬ P ≤ k := by omega
    have L3 : Lay v c (cm_sI (cm_sI (cm_sI x 104 k (cm_I x 104 (12 + k))) 105 k (cm_I x 105 (12 + k))) 111 k (cm_I x 105 (12 + k))) := L
    have e1 : fn_219_134 (N + 1) 96 (nI k) x = fn_219_186 (fn_219_134 N) cm_N 96 (nI k) (nI 0) (cm_sI (cm_sI (cm_sI x 104 k (cm_I x 104 (12 + k))) 105 k (cm_I x 105 (12 + k))) 111 k (cm_I x 105 (12 + k))) := by
      simp (disch := omega) only [fn_219_134, ↓LMb L, LM L, R_sI, sh_sI, ga_sI, I_ne, h2, hkP, I_eq, cm_w2, Nat.reduceLeDiff, Nat.reduceLT, decide_true, Bool.and_self, Bool.and_true, eq_self, Nat.le_refl, Nat.lt_irrefl, some_if, Option.bind_some, Option.bind_none, Option.some.injEq, ↓reduceIte, reduceCtorEq, Bool.false_eq_true, Bool.true_eq_false, not_true_eq_false, not_false_eq_true, cmb0, cmb1, Nat.reduceAdd, Nat.reduceMul, Nat.reduceSub, Nat.add_zero, Bool.not_eq_true, Bool.not_eq_false, Nat.reduceEqDiff, Nat.reduceLeDiff, Nat.reduceLT, Int32.reduceLT, Int32.reduceLE, iin_nI, iin_lit, iin_m1, tn_nI, tn_lit, nI_lm, nI_ml, nI_al, nI_la, nI_add, pk_mul, nI_le_l, nI_l_le, nI_lt_l, nI_l_lt, nI_eq_l, nI_l_eq, nI_eqP, nI_leP, nI_ltP, nI_m1, m1_nI, nI_ll, m1_l, l_m1]
      rfl
    generalize hz : cm_sI (cm_sI (cm_sI x 104 k (cm_I x 104 (12 + k))) 105 k (cm_I x 105 (12 + k))) 111 k (cm_I x 105 (12 + k)) = z at e1 L3
    have zf : ∀ a j, (a ≠ 104 ∧ a ≠ 105 ∧ a ≠ 111 ∨ j ≠ k) → cm_I z a j = cm_I x a j := fun a j h => by
      rw [← hz, I_if, if_neg (by omega), I_if, if_neg (by omega), I_if, if_neg (by omega)]
    have z4 : cm_I z 104 k = cm_I x 104 (12 + k) := by rw [← hz, I_ne (by omega), I_ne (by omega), I_eq]
    have z5 : cm_I z 105 k = cm_I x 105 (12 + k) := by rw [← hz, I_ne (by omega), I_eq]
    have z11 : cm_I z 111 k = cm_I x 105 (12 + k) := by rw [← hz, I_eq]
    obtain ⟨z2, b1, b2, b3, b4, b5⟩ := ov_row ht (show k < 12 by omega) (K := fn_219_134 N) 8 0 rfl z cm_N (by unfold cm_N; omega) L3 (by rw [zf _ _ (by omega)]; exact h1)
    obtain ⟨y, a1, a2, a3, a4, a5⟩ := ih (k + 1) (by omega) z2 N (by omega) b2 (by rw [b3 _ _ (by omega), zf _ _ (by omega)]; exact h1) (by rw [b3 _ _ (by omega), zf _ _ (by omega)]; exact h2)
    refine ⟨y, by rw [e1, b1, a1], a2, fun a j h => ?_, by rw [a4, b4, ← hz]; rfl, fun e h1 h2 => ?_⟩
    · rw [a3 a j (by omega), b3 a j (by omega), zf a j (by omega)]
    · by_cases ek : e = k
      · subst ek
        refine ⟨⟨?_, ?_, ?_⟩, fun i hi => ?_⟩
        · rw [a3 _ _ (by omega), b3 _ _ (by omega), z4]
        · rw [a3 _ _ (by omega), b3 _ _ (by omega), z5]
        · rw [a3 _ _ (by omega), b3 _ _ (by omega), z11]
        · rw [a3 _ _ (by omega), b5 i (by omega) hi, zf _ _ (by omega), zf _ _ (by omega)]
      · obtain ⟨⟨g1, g2, g3⟩, g4⟩ := a5 e (by omega) h2
        rw [b3 _ _ (by omega), zf _ _ (by omega)] at g1 g2 g3
        refine ⟨⟨g1, g2, g3⟩, fun i hi => ?_⟩
        rw [g4 i hi, b3 106 _ (by omega), zf 106 _ (by omega), b3 107 _ (by omega), zf 107 _ (by omega)]
theorem ov_pairs (hQ : Q ≤ 6) : ∀ d k, k + d = Q → ∀ (x : cm_W) N, d < N → Lay v c x → cm_I x 96 3 = nI Q → ∃ y, fn_219_263 N 96 (nI k) x = fn_219_322 96 y ∧ Lay v c y ∧ (∀ a j, (a < 108 ∨ 110 < a ∨ j < k ∨ 6 ≤ j) → cm_I y a j = cm_I x a j) ∧ cm_L y = cm_L x ∧ ∀ j, k ≤ j → j < Q → ∀ c, c < 3 → cm_I y (108 + c) j = cm_I x (108 + c) (6 + j) := by
  intro d
  induction d with
  | zero =>
    intro k hk x N hN L h1
    obtain ⟨N, rfl⟩ : ∃ a, N = a + 1 := ⟨N - 1, by omega⟩
    refine ⟨x, ?_, L, fun _ _ _ => rfl, rfl, fun j h1 h2 => by omega⟩
    rw [fn_219_263, if_pos (LM L).1, h1, if_pos ((nI_leI (by omega) (by omega)).mpr (by omega))]
  | succ d ih =>
    intro k hk x N hN L h1
    obtain ⟨N, rfl⟩ : ∃ a, N = a + 1 := ⟨N - 1, by omega⟩
    have hkt : ¬ Q ≤ k := by omega
    obtain ⟨y, a1, a2, a3, a4, a5⟩ := ih (k + 1) (by omega) (cm_sI (cm_sI (cm_sI x 108 k (cm_I x 108 (6 + k))) 109 k (cm_I x 109 (6 + k))) 110 k (cm_I x 110 (6 + k))) N (by omega) L (by rw [I_ne (by omega), I_ne (by omega), I_ne (by omega)]; exact h1)
    refine ⟨y, ?_, a2, fun a j h => ?_, a4, fun j h1 h2 c hc => ?_⟩
    · rw [← a1]
      simp (disch := omega) only [fn_219_263, ↓LMb L, LM L, R_sI, sh_sI, ga_sI, I_ne, h1, hkt, cm_w2, Nat.reduceLeDiff, Nat.reduceLT, decide_true, Bool.and_self, Bool.and_true, eq_self, Nat.le_refl, Nat.lt_irrefl, some_if, Option.bind_some, Option.bind_none, Option.some.injEq, ↓reduceIte, reduceCtorEq, Bool.false_eq_true, Bool.true_eq_false, not_true_eq_false, not_false_eq_true, cmb0, cmb1, Nat.reduceAdd, Nat.reduceMul, Nat.reduceSub, Nat.add_zero, Bool.not_eq_true, Bool.not_eq_false, Nat.reduceEqDiff, Nat.reduceLeDiff, Nat.reduceLT, Int32.reduceLT, Int32.reduceLE, iin_nI, iin_lit, iin_m1, tn_nI, tn_lit, nI_lm, nI_ml, nI_al, nI_la, nI_add, pk_mul, nI_le_l, nI_l_le, nI_lt_l, nI_l_lt, nI_eq_l, nI_l_eq, nI_eqP, nI_leP, nI_ltP, nI_m1, m1_nI, nI_ll, m1_l, l_m1]
    · rw [a3 a j (by omega), I_if, if_neg (by omega), I_if, if_neg (by omega), I_if, if_neg (by omega)]
    · by_cases e : j = k
      · subst e
        rw [a3 _ _ (by omega)]
        have : c = 0 ∨ c = 1 ∨ c = 2 := by omega
        rcases this with rfl | rfl | rfl
        · rw [I_ne (by omega), I_ne (by omega)]; exact I_eq
        · rw [I_ne (by omega)]; exact I_eq
        · exact I_eq
      · rw [a5 j (by omega) h2 c hc, I_if, if_neg (by omega), I_if, if_neg (by omega), I_if, if_neg (by omega)]
end OVER
