/-! what is thought of a box: think, mean -/
/-- what somebody last said of a box among the first n rows -/
def lsd (s : St) (b : Int32) (y : Int32) (n : Nat) : Int32 := fup (fun k a => if s 122 (7 * k) = b ∧ s 122 (7 * k + 1) = 1 ∧ s 122 (7 * k + 2) = y then s 122 (7 * k + 4) else a) (-1) n
def ten (s : St) (r t : Nat) : Int32 :=
  if s 122 (7 * r + 1) = 2 then (if s 101 t = s 122 (7 * r + 4) then s 96 6 else 10 - s 96 6)
  else if s 122 (7 * r + 1) = 3 then (if s 102 t = s 122 (7 * r + 4) then s 96 7 else 10 - s 96 7)
  else if s 122 (7 * r + 6) = 0 then 10
  else if s 122 (7 * r + 1) = 1 then
    (if s 104 (tn (s 122 (7 * r + 2))) = 0 then (if nI t = s 122 (7 * r + 4) then 9 else 1)
    else if s 104 (tn (s 122 (7 * r + 2))) = 1 then (if nI t = s 122 (7 * r + 4) then 8 else 2)
    else if s 104 (tn (s 122 (7 * r + 2))) = 5 then (if nI t = s 122 (7 * r + 4) then 10 else 0) else 10)
  else if s 104 (tn (s 122 (7 * r + 2))) = 2 then (if wo s t (s 122 (7 * r + 5)) < s 122 (7 * r + 4) then 9 else 1)
  else if s 104 (tn (s 122 (7 * r + 2))) = 3 then (if ko s t (s 122 (7 * r + 5)) ≤ s 122 (7 * r + 4) then 9 else 1)
  else if s 104 (tn (s 122 (7 * r + 2))) = 1 then (if lsd s (s 122 (7 * r)) (s 122 (7 * r + 2)) r = -1 then 10 else if lsd s (s 122 (7 * r)) (s 122 (7 * r + 2)) r = nI t then 8 else 2) else 10
def lk (s : St) (b t n : Nat) : Int64 := fup (fun r v => if s 122 (7 * r) = nI b then v * (ten s r t).toInt64 / 10 else v) (100000000000000 * (s 107 (8 * tn (s 114 b) + t)).toInt64 / (shs s (tn (s 114 b))).toInt64) n
def lka (s : St) (b : Nat) : Nat → Int64 := fup (fun t a => a + lk s b t (nR s)) 0
section THINK
variable {v c u n : Nat} {w w' : cm_W} {s s' : St}
theorem share_le (I : InvV s) {p t : Nat} (hp : p < nP s) (ht : t < nT s) : ∃ j m, s 107 (8 * p + t) = nI j ∧ shs s p = nI m ∧ j ≤ m ∧ 0 < m ∧ m < 1000 := by
  obtain ⟨-, h1, h2⟩ := I.2.2.2.2.2.1 p hp
  have hT := I.1
  have h3 : ∀ n, n ≤ nT s → ∃ k, k ≤ 99 * n ∧ fup (fun t a => a + s 107 (8 * p + t)) 0 n = nI k ∧ ∀ t, t < n → ∃ j, s 107 (8 * p + t) = nI j ∧ j ≤ k := by
    intro n
    induction n with
    | zero => intro _; exact ⟨0, by omega, rfl, fun t h => by omega⟩
    | succ n ih =>
      intro hn
      obtain ⟨k, hk, e, h4⟩ := ih (by omega)
      obtain ⟨j, hj, ej⟩ := h1 n (by omega)
      refine ⟨k + j, by omega, ?_, fun t ht => ?_⟩
      · show fup _ 0 n + s 107 (8 * p + n) = _
        rw [e, ej, nI_add]
      · by_cases q : t = n
        · subst q; exact ⟨j, ej, by omega⟩
        · obtain ⟨j', e', l'⟩ := h4 t (by omega)
          exact ⟨j', e', by omega⟩
  obtain ⟨m, hm, em, h0⟩ := shs_rg I hp
  obtain ⟨k, hk, e, h4⟩ := h3 (nT s) (Nat.le_refl _)
  obtain ⟨j, ej, lj⟩ := h4 t ht
  have : k = m := (nI_eq (by omega) (by omega)).mp (e.symm.trans em)
  subst this
  exact ⟨j, k, ej, em, lj, h0 (by omega), by omega⟩
theorem ten_le (I : Inv s) {r t : Nat} : ∃ j, j ≤ 10 ∧ ten s r t = nI j := by
  have hw := I.1.2.2.2.1
  obtain ⟨a, ha, ea⟩ := hw.2.1
  obtain ⟨b, hb, eb⟩ := hw.2.2
  have e1 : (10 : Int32) - s 96 6 = nI (10 - a) := by rw [ea]; exact pk_sub (a := 10) (by omega)
  have e2 : (10 : Int32) - s 96 7 = nI (10 - b) := by rw [eb]; exact pk_sub (a := 10) (by omega)
  unfold ten
  rw [e1, e2, ea, eb]
  split
  · split
    · exact ⟨a, by omega, rfl⟩
    · exact ⟨10 - a, by omega, rfl⟩
  · split
    · split
      · exact ⟨b, by omega, rfl⟩
      · exact ⟨10 - b, by omega, rfl⟩
    · split
      · exact ⟨10, by omega, rfl⟩
      · split
        · split
          · split
            · exact ⟨9, by omega, rfl⟩
            · exact ⟨1, by omega, rfl⟩
          · split
            · split
              · exact ⟨8, by omega, rfl⟩
              · exact ⟨2, by omega, rfl⟩
            · split
              · split
                · exact ⟨10, by omega, rfl⟩
                · exact ⟨0, by omega, rfl⟩
              · exact ⟨10, by omega, rfl⟩
        · split
          · split
            · exact ⟨9, by omega, rfl⟩
            · exact ⟨1, by omega, rfl⟩
          · split
            · split
              · exact ⟨9, by omega, rfl⟩
              · exact ⟨1, by omega, rfl⟩
            · split
              · split
                · exact ⟨10, by omega, rfl⟩
                · split
                  · exact ⟨8, by omega, rfl⟩
                  · exact ⟨2, by omega, rfl⟩
              · exact ⟨10, by omega, rfl⟩
theorem l_lit (n : Nat) : (OfNat.ofNat n : Int64) = lN n := rfl
theorem lk_le (I : Inv s) {b t : Nat} (hb : b < nB s) (ht : t < nT s) (n : Nat) : ∃ k, k ≤ 100000000000000 ∧ lk s b t n = lN k := by
  obtain ⟨p, hp, ep⟩ := (I.2.1.2.2.2.2.2.1 b hb).1
  have hP := I.1.2.1
  obtain ⟨j, m, ej, em, l1, l2, l3⟩ := share_le I.1 hp ht
  induction n with
  | zero =>
    refine ⟨100000000000000 * j / m, ?_, ?_⟩
    · rw [Nat.div_le_iff_le_mul_add_pred l2]
      have := Nat.mul_le_mul_left 100000000000000 l1
      rw [Nat.mul_comm m]; omega
    · show 100000000000000 * (s 107 (8 * tn (s 114 b) + t)).toInt64 / (shs s (tn (s 114 b))).toInt64 = _
      rw [ep, tn_nIe (by omega), ej, em, nI_l (by omega), nI_l (by omega), show (100000000000000 : Int64) = lN 100000000000000 from rfl, lN_mul, pk_lDiv (by omega) l2 (by omega)]
  | succ n ih =>
    obtain ⟨k, hk, e⟩ := ih
    obtain ⟨i, hi, ei⟩ := ten_le I (r := n) (t := t)
    by_cases q : s 122 (7 * n) = nI b
    · refine ⟨k * i / 10, ?_, ?_⟩
      · have := Nat.mul_le_mul_left k hi
        omega
      · show (if s 122 (7 * n) = nI b then lk s b t n * (ten s n t).toInt64 / 10 else lk s b t n) = _
        have h1 : k * i ≤ 100000000000000 * 10 := Nat.mul_le_mul hk hi
        rw [if_pos q, e, ei, nI_l (by omega), lN_mul, show (10 : Int64) = lN 10 from rfl, pk_lDiv (by omega) (by omega) (by omega)]
    · exact ⟨k, hk, by
        show (if s 122 (7 * n) = nI b then _ else lk s b t n) = _
        rw [if_neg q, e]⟩
theorem lka_le (I : Inv s) {b : Nat} (hb : b < nB s) : ∀ n, n ≤ nT s → ∃ k, k ≤ 100000000000000 * n ∧ lka s b n = lN k := by
  intro n
  induction n with
  | zero => intro _; exact ⟨0, by omega, rfl⟩
  | succ n ih =>
    intro hn
    obtain ⟨k, hk, e⟩ := ih (by omega)
    obtain ⟨j, hj, ej⟩ := lk_le I hb (show n < nT s by omega) (nR s)
    refine ⟨k + j, by omega, ?_⟩
    show lka s b n + lk s b n (nR s) = _
    rw [e, ej, lN_add]
-- the reference
theorem m245 (L : Lay v c w) (M : RelM w s) (I : InvS s) {r : Nat} (hr : r < nR s) (y : Int32) : fn_245 w 96 (nI r) y = some (lsd s (s 122 (7 * r)) y r) := by
  have hR := I.2.2.1
  refine up_f (fun m k a => fn_245_5 w m 96 (nI r) y a (nI k)) r (fun k a => if s 122 (7 * k) = s 122 (7 * r) ∧ s 122 (7 * k + 1) = 1 ∧ s 122 (7 * k + 2) = y then s 122 (7 * k + 4) else a) (-1) _ (by omega) (fun m k a hk => ?_) (fun m => ?_)
  · have hk' : ¬ r ≤ k := by omega
    by_cases q1 : s 122 (7 * k) = s 122 (7 * r)
    · by_cases q2 : s 122 (7 * k + 1) = 1
      · by_cases q3 : s 122 (7 * k + 2) = y
        · simp (disch := omega) only [fn_245_5, fn_245_78, ↓LMb L, LM L, RM M, hk', q1, q2, q3, and_self, eq_self, Nat.le_refl, Nat.lt_irrefl, some_if, Option.bind_some, Option.bind_none, Option.some.injEq, ↓reduceIte, reduceCtorEq, Bool.false_eq_true, Bool.true_eq_false, not_true_eq_false, not_false_eq_true, cmb0, cmb1, Nat.reduceAdd, Nat.reduceMul, Nat.reduceSub, Nat.add_zero, Bool.not_eq_true, Bool.not_eq_false, Nat.reduceEqDiff, Nat.reduceLeDiff, Nat.reduceLT, Int32.reduceLT, Int32.reduceLE, iin_nI, iin_lit, iin_m1, tn_nI, tn_lit, nI_lm, nI_ml, nI_al, nI_la, nI_add, pk_mul, nI_le_l, nI_l_le, nI_lt_l, nI_l_lt, nI_eq_l, nI_l_eq, nI_eqP, nI_leP, nI_ltP, nI_m1, m1_nI, nI_ll, m1_l, l_m1]
        · simp (disch := omega) only [fn_245_5, fn_245_78, ↓LMb L, LM L, RM M, hk', q1, q2, q3, and_false, eq_self, Nat.le_refl, Nat.lt_irrefl, some_if, Option.bind_some, Option.bind_none, Option.some.injEq, ↓reduceIte, reduceCtorEq, Bool.false_eq_true, Bool.true_eq_false, not_true_eq_false, not_false_eq_true, cmb0, cmb1, Nat.reduceAdd, Nat.reduceMul, Nat.reduceSub, Nat.add_zero, Bool.not_eq_true, Bool.not_eq_false, Nat.reduceEqDiff, Nat.reduceLeDiff, Nat.reduceLT, Int32.reduceLT, Int32.reduceLE, iin_nI, iin_lit, iin_m1, tn_nI, tn_lit, nI_lm, nI_ml, nI_al, nI_la, nI_add, pk_mul, nI_le_l, nI_l_le, nI_lt_l, nI_l_lt, nI_eq_l, nI_l_eq, nI_eqP, nI_leP, nI_ltP, nI_m1, m1_nI, nI_ll, m1_l, l_m1]
      · simp (disch := omega) only [fn_245_5, fn_245_78, ↓LMb L, LM L, RM M, hk', q1, q2, and_false, false_and, eq_self, Nat.le_refl, Nat.lt_irrefl, some_if, Option.bind_some, Option.bind_none, Option.some.injEq, ↓reduceIte, reduceCtorEq, Bool.false_eq_true, Bool.true_eq_false, not_true_eq_false, not_false_eq_true, cmb0, cmb1, Nat.reduceAdd, Nat.reduceMul, Nat.reduceSub, Nat.add_zero, Bool.not_eq_true, Bool.not_eq_false, Nat.reduceEqDiff, Nat.reduceLeDiff, Nat.reduceLT, Int32.reduceLT, Int32.reduceLE, iin_nI, iin_lit, iin_m1, tn_nI, tn_lit, nI_lm, nI_ml, nI_al, nI_la, nI_add, pk_mul, nI_le_l, nI_l_le, nI_lt_l, nI_l_lt, nI_eq_l, nI_l_eq, nI_eqP, nI_leP, nI_ltP, nI_m1, m1_nI, nI_ll, m1_l, l_m1]
    · simp (disch := omega) only [fn_245_5, fn_245_78, ↓LMb L, LM L, RM M, hk', q1, false_and, eq_self, Nat.le_refl, Nat.lt_irrefl, some_if, Option.bind_some, Option.bind_none, Option.some.injEq, ↓reduceIte, reduceCtorEq, Bool.false_eq_true, Bool.true_eq_false, not_true_eq_false, not_false_eq_true, cmb0, cmb1, Nat.reduceAdd, Nat.reduceMul, Nat.reduceSub, Nat.add_zero, Bool.not_eq_true, Bool.not_eq_false, Nat.reduceEqDiff, Nat.reduceLeDiff, Nat.reduceLT, Int32.reduceLT, Int32.reduceLE, iin_nI, iin_lit, iin_m1, tn_nI, tn_lit, nI_lm, nI_ml, nI_al, nI_la, nI_add, pk_mul, nI_le_l, nI_l_le, nI_lt_l, nI_l_lt, nI_eq_l, nI_l_eq, nI_eqP, nI_leP, nI_ltP, nI_m1, m1_nI, nI_ll, m1_l, l_m1]
  · simp (disch := omega) only [fn_245_5, eq_self, Nat.le_refl, Nat.lt_irrefl, some_if, Option.bind_some, Option.bind_none, Option.some.injEq, ↓reduceIte, reduceCtorEq, Bool.false_eq_true, Bool.true_eq_false, not_true_eq_false, not_false_eq_true, cmb0, cmb1, Nat.reduceAdd, Nat.reduceMul, Nat.reduceSub, Nat.add_zero, Bool.not_eq_true, Bool.not_eq_false, Nat.reduceEqDiff, Nat.reduceLeDiff, Nat.reduceLT, Int32.reduceLT, Int32.reduceLE, iin_nI, iin_lit, iin_m1, tn_nI, tn_lit, nI_lm, nI_ml, nI_al, nI_la, nI_add, pk_mul, nI_le_l, nI_l_le, nI_lt_l, nI_l_lt, nI_eq_l, nI_l_eq, nI_eqP, nI_leP, nI_ltP, nI_m1, m1_nI, nI_ll, m1_l, l_m1]
    rfl
theorem m246 (L : Lay v c w) (M : RelM w s) (I : Inv s) {r t : Nat} (hr : r < nR s) (ht : t < nT s) : fn_246 w 96 (nI r) (nI t) = some (ten s r t) := by
  have hR := I.2.1.2.2.1
  have hT := I.1.1
  have hP := I.1.2.1
  obtain ⟨⟨b, hb, eb⟩, ⟨kd, hkd, ekd⟩, hy, -, -, ⟨kn, hkn, ekn⟩, hk1, -⟩ := I.2.1.2.2.2.2.2.2.2.2.1 r hr
  have w1 := m222 L M (show t < 8 by omega)
  have w2 := m223 L M (show t < 8 by omega)
  unfold ten
  by_cases a2 : s 122 (7 * r + 1) = 2
  · by_cases q : s 101 t = s 122 (7 * r + 4) <;> simp (disch := omega) only [fn_246, fn_246_49, ↓LMb L, LM L, RM M, a2, q, eq_self, Nat.le_refl, Nat.lt_irrefl, some_if, Option.bind_some, Option.bind_none, Option.some.injEq, ↓reduceIte, reduceCtorEq, Bool.false_eq_true, Bool.true_eq_false, not_true_eq_false, not_false_eq_true, cmb0, cmb1, Nat.reduceAdd, Nat.reduceMul, Nat.reduceSub, Nat.add_zero, Bool.not_eq_true, Bool.not_eq_false, Nat.reduceEqDiff, Nat.reduceLeDiff, Nat.reduceLT, Int32.reduceLT, Int32.reduceLE, iin_nI, iin_lit, iin_m1, tn_nI, tn_lit, nI_lm, nI_ml, nI_al, nI_la, nI_add, pk_mul, nI_le_l, nI_l_le, nI_lt_l, nI_l_lt, nI_eq_l, nI_l_eq, nI_eqP, nI_leP, nI_ltP, nI_m1, m1_nI, nI_ll, m1_l, l_m1]
  by_cases a3 : s 122 (7 * r + 1) = 3
  · by_cases q : s 102 t = s 122 (7 * r + 4) <;> simp (disch := omega) only [fn_246, fn_246_57, fn_246_81, ↓LMb L, LM L, RM M, a3, q, eq_self, Nat.le_refl, Nat.lt_irrefl, some_if, Option.bind_some, Option.bind_none, Option.some.injEq, ↓reduceIte, reduceCtorEq, Bool.false_eq_true, Bool.true_eq_false, not_true_eq_false, not_false_eq_true, cmb0, cmb1, Nat.reduceAdd, Nat.reduceMul, Nat.reduceSub, Nat.add_zero, Bool.not_eq_true, Bool.not_eq_false, Nat.reduceEqDiff, Nat.reduceLeDiff, Nat.reduceLT, Int32.reduceLT, Int32.reduceLE, iin_nI, iin_lit, iin_m1, tn_nI, tn_lit, nI_lm, nI_ml, nI_al, nI_la, nI_add, pk_mul, nI_le_l, nI_l_le, nI_lt_l, nI_l_lt, nI_eq_l, nI_l_eq, nI_eqP, nI_leP, nI_ltP, nI_m1, m1_nI, nI_ll, m1_l, l_m1]
  by_cases k0 : s 122 (7 * r + 6) = 0
  · simp (disch := omega) only [fn_246, fn_246_57, fn_246_89, ↓LMb L, LM L, RM M, a2, a3, k0, eq_self, Nat.le_refl, Nat.lt_irrefl, some_if, Option.bind_some, Option.bind_none, Option.some.injEq, ↓reduceIte, reduceCtorEq, Bool.false_eq_true, Bool.true_eq_false, not_true_eq_false, not_false_eq_true, cmb0, cmb1, Nat.reduceAdd, Nat.reduceMul, Nat.reduceSub, Nat.add_zero, Bool.not_eq_true, Bool.not_eq_false, Nat.reduceEqDiff, Nat.reduceLeDiff, Nat.reduceLT, Int32.reduceLT, Int32.reduceLE, iin_nI, iin_lit, iin_m1, tn_nI, tn_lit, nI_lm, nI_ml, nI_al, nI_la, nI_add, pk_mul, nI_le_l, nI_l_le, nI_lt_l, nI_l_lt, nI_eq_l, nI_l_eq, nI_eqP, nI_leP, nI_ltP, nI_m1, m1_nI, nI_ll, m1_l, l_m1]
  have k1 : s 122 (7 * r + 6) = 1 := by
    rcases (show kn = 0 ∨ kn = 1 by omega) with rfl | rfl
    · exact absurd ekn k0
    · exact ekn
  obtain ⟨p, hp, ep⟩ := hk1 k1
  have tp : tn (nI p) = p := tn_nIe (by omega)
  have st : fn_246 w 96 (nI r) (nI t) = fn_246_104 w 96 (nI r) (nI t) (nI (7 * r)) (s 122 (7 * r + 1)) (s 122 (7 * r + 4)) := by
    simp (disch := omega) only [fn_246, fn_246_57, fn_246_89, ↓LMb L, LM L, RM M, a2, a3, k1, eq_self, Nat.le_refl, Nat.lt_irrefl, some_if, Option.bind_some, Option.bind_none, Option.some.injEq, ↓reduceIte, reduceCtorEq, Bool.false_eq_true, Bool.true_eq_false, not_true_eq_false, not_false_eq_true, cmb0, cmb1, Nat.reduceAdd, Nat.reduceMul, Nat.reduceSub, Nat.add_zero, Bool.not_eq_true, Bool.not_eq_false, Nat.reduceEqDiff, Nat.reduceLeDiff, Nat.reduceLT, Int32.reduceLT, Int32.reduceLE, iin_nI, iin_lit, iin_m1, tn_nI, tn_lit, nI_lm, nI_ml, nI_al, nI_la, nI_add, pk_mul, nI_le_l, nI_l_le, nI_lt_l, nI_l_lt, nI_eq_l, nI_l_eq, nI_eqP, nI_leP, nI_ltP, nI_m1, m1_nI, nI_ll, m1_l, l_m1]
  rw [st, if_neg a2, if_neg a3, if_neg k0, ep, tp]
  by_cases a1 : s 122 (7 * r + 1) = 1
  · rw [if_pos a1]
    by_cases b0 : s 104 p = 0
    · by_cases q : nI t = s 122 (7 * r + 4) <;> simp (disch := omega) only [fn_246_104, ↓LMb L, LM L, RM M, a1, ep, b0, q, eq_self, Nat.le_refl, Nat.lt_irrefl, some_if, Option.bind_some, Option.bind_none, Option.some.injEq, ↓reduceIte, reduceCtorEq, Bool.false_eq_true, Bool.true_eq_false, not_true_eq_false, not_false_eq_true, cmb0, cmb1, Nat.reduceAdd, Nat.reduceMul, Nat.reduceSub, Nat.add_zero, Bool.not_eq_true, Bool.not_eq_false, Nat.reduceEqDiff, Nat.reduceLeDiff, Nat.reduceLT, Int32.reduceLT, Int32.reduceLE, iin_nI, iin_lit, iin_m1, tn_nI, tn_lit, nI_lm, nI_ml, nI_al, nI_la, nI_add, pk_mul, nI_le_l, nI_l_le, nI_lt_l, nI_l_lt, nI_eq_l, nI_l_eq, nI_eqP, nI_leP, nI_ltP, nI_m1, m1_nI, nI_ll, m1_l, l_m1]
    by_cases b1 : s 104 p = 1
    · by_cases q : nI t = s 122 (7 * r + 4) <;> simp (disch := omega) only [fn_246_104, fn_246_145, ↓LMb L, LM L, RM M, a1, ep, b1, q, eq_self, Nat.le_refl, Nat.lt_irrefl, some_if, Option.bind_some, Option.bind_none, Option.some.injEq, ↓reduceIte, reduceCtorEq, Bool.false_eq_true, Bool.true_eq_false, not_true_eq_false, not_false_eq_true, cmb0, cmb1, Nat.reduceAdd, Nat.reduceMul, Nat.reduceSub, Nat.add_zero, Bool.not_eq_true, Bool.not_eq_false, Nat.reduceEqDiff, Nat.reduceLeDiff, Nat.reduceLT, Int32.reduceLT, Int32.reduceLE, iin_nI, iin_lit, iin_m1, tn_nI, tn_lit, nI_lm, nI_ml, nI_al, nI_la, nI_add, pk_mul, nI_le_l, nI_l_le, nI_lt_l, nI_l_lt, nI_eq_l, nI_l_eq, nI_eqP, nI_leP, nI_ltP, nI_m1, m1_nI, nI_ll, m1_l, l_m1]
    by_cases b5 : s 104 p = 5
    · by_cases q : nI t = s 122 (7 * r + 4) <;> simp (disch := omega) only [fn_246_104, fn_246_145, fn_246_166, ↓LMb L, LM L, RM M, a1, ep, b5, q, eq_self, Nat.le_refl, Nat.lt_irrefl, some_if, Option.bind_some, Option.bind_none, Option.some.injEq, ↓reduceIte, reduceCtorEq, Bool.false_eq_true, Bool.true_eq_false, not_true_eq_false, not_false_eq_true, cmb0, cmb1, Nat.reduceAdd, Nat.reduceMul, Nat.reduceSub, Nat.add_zero, Bool.not_eq_true, Bool.not_eq_false, Nat.reduceEqDiff, Nat.reduceLeDiff, Nat.reduceLT, Int32.reduceLT, Int32.reduceLE, iin_nI, iin_lit, iin_m1, tn_nI, tn_lit, nI_lm, nI_ml, nI_al, nI_la, nI_add, pk_mul, nI_le_l, nI_l_le, nI_lt_l, nI_l_lt, nI_eq_l, nI_l_eq, nI_eqP, nI_leP, nI_ltP, nI_m1, m1_nI, nI_ll, m1_l, l_m1]
    · simp (disch := omega) only [fn_246_104, fn_246_145, fn_246_166, ↓LMb L, LM L, RM M, a1, ep, b0, b1, b5, eq_self, Nat.le_refl, Nat.lt_irrefl, some_if, Option.bind_some, Option.bind_none, Option.some.injEq, ↓reduceIte, reduceCtorEq, Bool.false_eq_true, Bool.true_eq_false, not_true_eq_false, not_false_eq_true, cmb0, cmb1, Nat.reduceAdd, Nat.reduceMul, Nat.reduceSub, Nat.add_zero, Bool.not_eq_true, Bool.not_eq_false, Nat.reduceEqDiff, Nat.reduceLeDiff, Nat.reduceLT, Int32.reduceLT, Int32.reduceLE, iin_nI, iin_lit, iin_m1, tn_nI, tn_lit, nI_lm, nI_ml, nI_al, nI_la, nI_add, pk_mul, nI_le_l, nI_l_le, nI_lt_l, nI_l_lt, nI_eq_l, nI_l_eq, nI_eqP, nI_leP, nI_ltP, nI_m1, m1_nI, nI_ll, m1_l, l_m1]
  · rw [if_neg a1]
    by_cases b2 : s 104 p = 2
    · by_cases q : wo s t (s 122 (7 * r + 5)) < s 122 (7 * r + 4)
      · have q' : ¬ s 122 (7 * r + 4) ≤ wo s t (s 122 (7 * r + 5)) := by rw [Int32.not_le]; exact q
        simp (disch := omega) only [fn_246_104, fn_246_190, ↓LMb L, LM L, RM M, a1, ep, b2, w1, q, q', eq_self, Nat.le_refl, Nat.lt_irrefl, some_if, Option.bind_some, Option.bind_none, Option.some.injEq, ↓reduceIte, reduceCtorEq, Bool.false_eq_true, Bool.true_eq_false, not_true_eq_false, not_false_eq_true, cmb0, cmb1, Nat.reduceAdd, Nat.reduceMul, Nat.reduceSub, Nat.add_zero, Bool.not_eq_true, Bool.not_eq_false, Nat.reduceEqDiff, Nat.reduceLeDiff, Nat.reduceLT, Int32.reduceLT, Int32.reduceLE, iin_nI, iin_lit, iin_m1, tn_nI, tn_lit, nI_lm, nI_ml, nI_al, nI_la, nI_add, pk_mul, nI_le_l, nI_l_le, nI_lt_l, nI_l_lt, nI_eq_l, nI_l_eq, nI_eqP, nI_leP, nI_ltP, nI_m1, m1_nI, nI_ll, m1_l, l_m1]
      · have q' : s 122 (7 * r + 4) ≤ wo s t (s 122 (7 * r + 5)) := by rw [← Int32.not_lt]; exact q
        simp (disch := omega) only [fn_246_104, fn_246_190, ↓LMb L, LM L, RM M, a1, ep, b2, w1, q, q', eq_self, Nat.le_refl, Nat.lt_irrefl, some_if, Option.bind_some, Option.bind_none, Option.some.injEq, ↓reduceIte, reduceCtorEq, Bool.false_eq_true, Bool.true_eq_false, not_true_eq_false, not_false_eq_true, cmb0, cmb1, Nat.reduceAdd, Nat.reduceMul, Nat.reduceSub, Nat.add_zero, Bool.not_eq_true, Bool.not_eq_false, Nat.reduceEqDiff, Nat.reduceLeDiff, Nat.reduceLT, Int32.reduceLT, Int32.reduceLE, iin_nI, iin_lit, iin_m1, tn_nI, tn_lit, nI_lm, nI_ml, nI_al, nI_la, nI_add, pk_mul, nI_le_l, nI_l_le, nI_lt_l, nI_l_lt, nI_eq_l, nI_l_eq, nI_eqP, nI_leP, nI_ltP, nI_m1, m1_nI, nI_ll, m1_l, l_m1]
    by_cases b3 : s 104 p = 3
    · by_cases q : ko s t (s 122 (7 * r + 5)) ≤ s 122 (7 * r + 4)
      · have q' : ¬ s 122 (7 * r + 4) < ko s t (s 122 (7 * r + 5)) := by rw [Int32.not_lt]; exact q
        simp (disch := omega) only [fn_246_104, fn_246_190, fn_246_221, ↓LMb L, LM L, RM M, a1, ep, b3, w2, q, q', eq_self, Nat.le_refl, Nat.lt_irrefl, some_if, Option.bind_some, Option.bind_none, Option.some.injEq, ↓reduceIte, reduceCtorEq, Bool.false_eq_true, Bool.true_eq_false, not_true_eq_false, not_false_eq_true, cmb0, cmb1, Nat.reduceAdd, Nat.reduceMul, Nat.reduceSub, Nat.add_zero, Bool.not_eq_true, Bool.not_eq_false, Nat.reduceEqDiff, Nat.reduceLeDiff, Nat.reduceLT, Int32.reduceLT, Int32.reduceLE, iin_nI, iin_lit, iin_m1, tn_nI, tn_lit, nI_lm, nI_ml, nI_al, nI_la, nI_add, pk_mul, nI_le_l, nI_l_le, nI_lt_l, nI_l_lt, nI_eq_l, nI_l_eq, nI_eqP, nI_leP, nI_ltP, nI_m1, m1_nI, nI_ll, m1_l, l_m1]
      · have q' : s 122 (7 * r + 4) < ko s t (s 122 (7 * r + 5)) := by rw [← Int32.not_le]; exact q
        simp (disch := omega) only [fn_246_104, fn_246_190, fn_246_221, ↓LMb L, LM L, RM M, a1, ep, b3, w2, q, q', eq_self, Nat.le_refl, Nat.lt_irrefl, some_if, Option.bind_some, Option.bind_none, Option.some.injEq, ↓reduceIte, reduceCtorEq, Bool.false_eq_true, Bool.true_eq_false, not_true_eq_false, not_false_eq_true, cmb0, cmb1, Nat.reduceAdd, Nat.reduceMul, Nat.reduceSub, Nat.add_zero, Bool.not_eq_true, Bool.not_eq_false, Nat.reduceEqDiff, Nat.reduceLeDiff, Nat.reduceLT, Int32.reduceLT, Int32.reduceLE, iin_nI, iin_lit, iin_m1, tn_nI, tn_lit, nI_lm, nI_ml, nI_al, nI_la, nI_add, pk_mul, nI_le_l, nI_l_le, nI_lt_l, nI_l_lt, nI_eq_l, nI_l_eq, nI_eqP, nI_leP, nI_ltP, nI_m1, m1_nI, nI_ll, m1_l, l_m1]
    by_cases b1 : s 104 p = 1
    · have ls := m245 L M I.2.1 hr (nI p)
      rw [eb] at ls ⊢
      by_cases q1 : lsd s (nI b) (nI p) r = -1
      · simp (disch := omega) only [fn_246_104, fn_246_190, fn_246_221, fn_246_252, ↓LMb L, LM L, RM M, a1, ep, b1, ls, q1, eq_self, Nat.le_refl, Nat.lt_irrefl, some_if, Option.bind_some, Option.bind_none, Option.some.injEq, ↓reduceIte, reduceCtorEq, Bool.false_eq_true, Bool.true_eq_false, not_true_eq_false, not_false_eq_true, cmb0, cmb1, Nat.reduceAdd, Nat.reduceMul, Nat.reduceSub, Nat.add_zero, Bool.not_eq_true, Bool.not_eq_false, Nat.reduceEqDiff, Nat.reduceLeDiff, Nat.reduceLT, Int32.reduceLT, Int32.reduceLE, iin_nI, iin_lit, iin_m1, tn_nI, tn_lit, nI_lm, nI_ml, nI_al, nI_la, nI_add, pk_mul, nI_le_l, nI_l_le, nI_lt_l, nI_l_lt, nI_eq_l, nI_l_eq, nI_eqP, nI_leP, nI_ltP, nI_m1, m1_nI, nI_ll, m1_l, l_m1]
      · by_cases q2 : lsd s (nI b) (nI p) r = nI t <;> simp (disch := omega) only [fn_246_104, fn_246_190, fn_246_221, fn_246_252, fn_246_288, ↓LMb L, LM L, RM M, a1, ep, b1, ls, q1, q2, eq_self, Nat.le_refl, Nat.lt_irrefl, some_if, Option.bind_some, Option.bind_none, Option.some.injEq, ↓reduceIte, reduceCtorEq, Bool.false_eq_true, Bool.true_eq_false, not_true_eq_false, not_false_eq_true, cmb0, cmb1, Nat.reduceAdd, Nat.reduceMul, Nat.reduceSub, Nat.add_zero, Bool.not_eq_true, Bool.not_eq_false, Nat.reduceEqDiff, Nat.reduceLeDiff, Nat.reduceLT, Int32.reduceLT, Int32.reduceLE, iin_nI, iin_lit, iin_m1, tn_nI, tn_lit, nI_lm, nI_ml, nI_al, nI_la, nI_add, pk_mul, nI_le_l, nI_l_le, nI_lt_l, nI_l_lt, nI_eq_l, nI_l_eq, nI_eqP, nI_leP, nI_ltP, nI_m1, m1_nI, nI_ll, m1_l, l_m1]
    · simp (disch := omega) only [fn_246_104, fn_246_190, fn_246_221, fn_246_252, fn_246_274, ↓LMb L, LM L, RM M, a1, ep, b1, b2, b3, eq_self, Nat.le_refl, Nat.lt_irrefl, some_if, Option.bind_some, Option.bind_none, Option.some.injEq, ↓reduceIte, reduceCtorEq, Bool.false_eq_true, Bool.true_eq_false, not_true_eq_false, not_false_eq_true, cmb0, cmb1, Nat.reduceAdd, Nat.reduceMul, Nat.reduceSub, Nat.add_zero, Bool.not_eq_true, Bool.not_eq_false, Nat.reduceEqDiff, Nat.reduceLeDiff, Nat.reduceLT, Int32.reduceLT, Int32.reduceLE, iin_nI, iin_lit, iin_m1, tn_nI, tn_lit, nI_lm, nI_ml, nI_al, nI_la, nI_add, pk_mul, nI_le_l, nI_l_le, nI_lt_l, nI_l_lt, nI_eq_l, nI_l_eq, nI_eqP, nI_leP, nI_ltP, nI_m1, m1_nI, nI_ll, m1_l, l_m1]
theorem m247 {x : cm_W} (L1 : Lay v c x) (M1 : RelM x s) (I : Inv s) {b : Nat} (hb : b < nB s) : ∃ y, fn_247 96 (nI b) x = some (decide (¬ lka s b (nT s) ≤ 0), y) ∧ FM v c x y s ∧ cm_L y 96 50 = lka s b (nT s) ∧ ∀ t, t < nT s → cm_L y 123 t = lk s b t (nR s) := by
  have hT := I.1.1
  have hB := I.2.1.2.1
  have hR := I.2.1.2.2.1
  have hP := I.1.2.1
  obtain ⟨p, hp, ep⟩ := (I.2.1.2.2.2.2.2.1 b hb).1
  have st : fn_247 96 (nI b) x = fn_247_14 cm_N 96 (nI b) (nI p) 0 (cm_sL x 96 50 0) := by
    simp (disch := omega) only [fn_247, ↓LMb L1, LM L1, RM M1, ep, R_sL, I_sL, ga_sL, cm_w2, Nat.reduceLeDiff, Nat.reduceLT, decide_true, Bool.and_self, Bool.and_true, eq_self, Nat.le_refl, Nat.lt_irrefl, some_if, Option.bind_some, Option.bind_none, Option.some.injEq, ↓reduceIte, reduceCtorEq, Bool.false_eq_true, Bool.true_eq_false, not_true_eq_false, not_false_eq_true, cmb0, cmb1, Nat.reduceAdd, Nat.reduceMul, Nat.reduceSub, Nat.add_zero, Bool.not_eq_true, Bool.not_eq_false, Nat.reduceEqDiff, Nat.reduceLeDiff, Nat.reduceLT, Int32.reduceLT, Int32.reduceLE, iin_nI, iin_lit, iin_m1, tn_nI, tn_lit, nI_lm, nI_ml, nI_al, nI_la, nI_add, pk_mul, nI_le_l, nI_l_le, nI_lt_l, nI_l_lt, nI_eq_l, nI_l_eq, nI_eqP, nI_leP, nI_ltP, nI_m1, m1_nI, nI_ll, m1_l, l_m1]
  rw [st]
  refine up_0 (fun m k a => fn_247_14 m 96 (nI b) (nI p) (nI k) a) (nT s) (fun k a => FM v c x a s ∧ cm_L a 96 50 = lka s b k ∧ ∀ t, t < k → cm_L a 123 t = lk s b t (nR s)) (fun o => ∃ y, o = some (decide (¬ lka s b (nT s) ≤ 0), y) ∧ FM v c x y s ∧ cm_L y 96 50 = lka s b (nT s) ∧ ∀ t, t < nT s → cm_L y 123 t = lk s b t (nR s)) _ (by omega) ⟨(FM.rf L1 M1).sL (by omega) (by omega) (by omega), L_eq, fun t h => by omega⟩ (fun m t a ht ha => Or.inr ?_) (fun m a ha => ?_)
  · obtain ⟨F, h1, h2⟩ := ha
    have LL := F.1
    have MM := F.2.1
    have ht' : ¬ nT s ≤ t := by omega
    obtain ⟨j, q, ej, eq, l1, l2, l3⟩ := share_le I.1 hp ht
    have hq0 : ¬ lN q = 0 := by
      rw [show (0 : Int64) = lN 0 from rfl, lN_eq (by omega) (by omega)]; omega
    have inner : fn_247_45 (fn_247_14 m) cm_N 96 (nI b) (nI p) (nI t) ((100000000000000 * (s 107 (8 * p + t)).toInt64) / (shs s p).toInt64) 0 a = fn_247_91 (fn_247_14 m) 96 (nI b) (nI p) (nI t) (lk s b t (nR s)) a := by
      have e0 : lk s b t 0 = (100000000000000 * (s 107 (8 * p + t)).toInt64) / (shs s p).toInt64 := by
        show 100000000000000 * (s 107 (8 * tn (s 114 b) + t)).toInt64 / (shs s (tn (s 114 b))).toInt64 = _
        rw [ep, tn_nIe (by omega)]
      rw [← e0]
      refine up_0 (fun m' k z => fn_247_45 (fn_247_14 m) m' 96 (nI b) (nI p) (nI t) z (nI k) a) (nR s) (fun k z => z = lk s b t k) (fun o => o = _) (lk s b t 0) (by omega) rfl (fun m' r z hr hz => Or.inr ⟨_, rfl, ?_⟩) (fun m' z hz => ?_)
      · subst hz
        have hr' : ¬ nR s ≤ r := by omega
        have e1 : lk s b t (r + 1) = if s 122 (7 * r) = nI b then lk s b t r * (ten s r t).toInt64 / 10 else lk s b t r := rfl
        rw [e1]
        by_cases z : s 122 (7 * r) = nI b <;> simp (disch := omega) only [fn_247_45, fn_247_85, ↓LMb LL, LM LL, RM MM, hR.1, hr', z, m246 LL MM I hr ht, eq_self, Nat.le_refl, Nat.lt_irrefl, some_if, Option.bind_some, Option.bind_none, Option.some.injEq, ↓reduceIte, reduceCtorEq, Bool.false_eq_true, Bool.true_eq_false, not_true_eq_false, not_false_eq_true, cmb0, cmb1, Nat.reduceAdd, Nat.reduceMul, Nat.reduceSub, Nat.add_zero, Bool.not_eq_true, Bool.not_eq_false, Nat.reduceEqDiff, Nat.reduceLeDiff, Nat.reduceLT, Int32.reduceLT, Int32.reduceLE, iin_nI, iin_lit, iin_m1, tn_nI, tn_lit, nI_lm, nI_ml, nI_al, nI_la, nI_add, pk_mul, nI_le_l, nI_l_le, nI_lt_l, nI_l_lt, nI_eq_l, nI_l_eq, nI_eqP, nI_leP, nI_ltP, nI_m1, m1_nI, nI_ll, m1_l, l_m1]
      · subst hz
        simp (disch := omega) only [fn_247_45, ↓LMb LL, LM LL, RM MM, hR.1, eq_self, Nat.le_refl, Nat.lt_irrefl, some_if, Option.bind_some, Option.bind_none, Option.some.injEq, ↓reduceIte, reduceCtorEq, Bool.false_eq_true, Bool.true_eq_false, not_true_eq_false, not_false_eq_true, cmb0, cmb1, Nat.reduceAdd, Nat.reduceMul, Nat.reduceSub, Nat.add_zero, Bool.not_eq_true, Bool.not_eq_false, Nat.reduceEqDiff, Nat.reduceLeDiff, Nat.reduceLT, Int32.reduceLT, Int32.reduceLE, iin_nI, iin_lit, iin_m1, tn_nI, tn_lit, nI_lm, nI_ml, nI_al, nI_la, nI_add, pk_mul, nI_le_l, nI_l_le, nI_lt_l, nI_l_lt, nI_eq_l, nI_l_eq, nI_eqP, nI_leP, nI_ltP, nI_m1, m1_nI, nI_ll, m1_l, l_m1]
    have st2 : fn_247_14 (m + 1) 96 (nI b) (nI p) (nI t) a = fn_247_14 m 96 (nI b) (nI p) (nI (t + 1)) (cm_sL (cm_sL a 123 t (lk s b t (nR s))) 96 50 (lka s b t + lk s b t (nR s))) := by
      have g1 : ¬ (shs s p).toInt64 = 0 := by rw [eq, nI_l (by omega)]; exact hq0
      have e91 : fn_247_91 (fn_247_14 m) 96 (nI b) (nI p) (nI t) (lk s b t (nR s)) a = fn_247_14 m 96 (nI b) (nI p) (nI (t + 1)) (cm_sL (cm_sL a 123 t (lk s b t (nR s))) 96 50 (lka s b t + lk s b t (nR s))) := by
        simp (disch := omega) only [fn_247_91, ↓LMb LL, LM LL, L_ne, h1, cm_w2, Nat.reduceLeDiff, Nat.reduceLT, decide_true, Bool.and_self, Bool.and_true, eq_self, Nat.le_refl, Nat.lt_irrefl, some_if, Option.bind_some, Option.bind_none, Option.some.injEq, ↓reduceIte, reduceCtorEq, Bool.false_eq_true, Bool.true_eq_false, not_true_eq_false, not_false_eq_true, cmb0, cmb1, Nat.reduceAdd, Nat.reduceMul, Nat.reduceSub, Nat.add_zero, Bool.not_eq_true, Bool.not_eq_false, Nat.reduceEqDiff, Nat.reduceLeDiff, Nat.reduceLT, Int32.reduceLT, Int32.reduceLE, iin_nI, iin_lit, iin_m1, tn_nI, tn_lit, nI_lm, nI_ml, nI_al, nI_la, nI_add, pk_mul, nI_le_l, nI_l_le, nI_lt_l, nI_l_lt, nI_eq_l, nI_l_eq, nI_eqP, nI_leP, nI_ltP, nI_m1, m1_nI, nI_ll, m1_l, l_m1]
      rw [← e91, ← inner]
      simp (disch := omega) only [fn_247_14, ↓LMb LL, LM LL, RM MM, hT.1, ht', m228 LL MM (show p < 12 by omega) (show t < 8 by omega), m229 LL MM I.1 (show p < 12 by omega), g1, eq_self, Nat.le_refl, Nat.lt_irrefl, some_if, Option.bind_some, Option.bind_none, Option.some.injEq, ↓reduceIte, reduceCtorEq, Bool.false_eq_true, Bool.true_eq_false, not_true_eq_false, not_false_eq_true, cmb0, cmb1, Nat.reduceAdd, Nat.reduceMul, Nat.reduceSub, Nat.add_zero, Bool.not_eq_true, Bool.not_eq_false, Nat.reduceEqDiff, Nat.reduceLeDiff, Nat.reduceLT, Int32.reduceLT, Int32.reduceLE, iin_nI, iin_lit, iin_m1, tn_nI, tn_lit, nI_lm, nI_ml, nI_al, nI_la, nI_add, pk_mul, nI_le_l, nI_l_le, nI_lt_l, nI_l_lt, nI_eq_l, nI_l_eq, nI_eqP, nI_leP, nI_ltP, nI_m1, m1_nI, nI_ll, m1_l, l_m1]

    refine ⟨_, ⟨(F.sL (by omega) (by omega) (by omega)).sL (by omega) (by omega) (by omega), L_eq, fun t' h' => ?_⟩, st2⟩
    rw [L_ne (by omega)]
    by_cases z : t' = t
    · subst z; rw [L_eq]
    · rw [L_nk z]; exact h2 t' (by omega)
  · obtain ⟨F, h1, h2⟩ := ha
    refine ⟨a, ?_, F, h1, h2⟩
    by_cases z : lka s b (nT s) ≤ 0 <;> simp (disch := omega) only [fn_247_14, fn_247_116, ↓LMb F.1, LM F.1, RM F.2.1, hT.1, h1, lgc_le, z, decide_true, decide_false, eq_self, Nat.le_refl, Nat.lt_irrefl, some_if, Option.bind_some, Option.bind_none, Option.some.injEq, ↓reduceIte, reduceCtorEq, Bool.false_eq_true, Bool.true_eq_false, not_true_eq_false, not_false_eq_true, cmb0, cmb1, Nat.reduceAdd, Nat.reduceMul, Nat.reduceSub, Nat.add_zero, Bool.not_eq_true, Bool.not_eq_false, Nat.reduceEqDiff, Nat.reduceLeDiff, Nat.reduceLT, Int32.reduceLT, Int32.reduceLE, iin_nI, iin_lit, iin_m1, tn_nI, tn_lit, nI_lm, nI_ml, nI_al, nI_la, nI_add, pk_mul, nI_le_l, nI_l_le, nI_lt_l, nI_l_lt, nI_eq_l, nI_l_eq, nI_eqP, nI_leP, nI_ltP, nI_m1, m1_nI, nI_ll, m1_l, l_m1]
end THINK
