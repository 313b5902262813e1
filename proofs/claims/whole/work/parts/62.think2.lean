/-! think, mean: the class; digits -/
def tenC (s : St) (r t : Nat) : Int32 :=
  if s 122 (7 * r + 1) = 2 then (if (if t < nT s then s 101 t else -1) = s 122 (7 * r + 4) then s 96 6 else 10 - s 96 6)
  else if s 122 (7 * r + 1) = 3 then (if (if t < nT s then s 102 t else -1) = s 122 (7 * r + 4) then s 96 7 else 10 - s 96 7)
  else if s 122 (7 * r + 6) = 0 then 10
  else if s 122 (7 * r + 1) = 1 then
    (if s 104 (tn (s 122 (7 * r + 2))) = 0 then (if nI t = s 122 (7 * r + 4) then 9 else 1)
    else if s 104 (tn (s 122 (7 * r + 2))) = 1 then (if nI t = s 122 (7 * r + 4) then 8 else 2)
    else if s 104 (tn (s 122 (7 * r + 2))) = 5 then (if nI t = s 122 (7 * r + 4) then 10 else 0) else 10)
  else if s 104 (tn (s 122 (7 * r + 2))) = 2 then (if cwo s t (s 122 (7 * r + 5)) < s 122 (7 * r + 4) then 9 else 1)
  else if s 104 (tn (s 122 (7 * r + 2))) = 3 then (if cko s t (s 122 (7 * r + 5)) ≤ s 122 (7 * r + 4) then 9 else 1)
  else if s 104 (tn (s 122 (7 * r + 2))) = 1 then (if lsd s (s 122 (7 * r)) (s 122 (7 * r + 2)) r = -1 then 10 else if lsd s (s 122 (7 * r)) (s 122 (7 * r + 2)) r = nI t then 8 else 2) else 10
section THINK2
variable {v c u n : Nat} {w w' : cm_W} {s s' : St}
theorem tenC_eq {r t : Nat} (ht : t < nT s) : tenC s r t = ten s r t := by
  unfold tenC ten cko cwo ko
  simp only [ht, ↓reduceIte]
theorem gTC (L : Lay v c w) (hu : u = 10 ∨ u = 20) (V : VilC w u s) (I : InvV s) {t k : Nat} (ht : t < 2147483648) (hk : (OfNat.ofNat k : Nat) < 4) : fn_1 w (u + 2) (nI t) (no_index (OfNat.ofNat k)) = some (if t < nT s then s (100 + (OfNat.ofNat k : Nat)) t else -1) := by
  have hT := I.1
  by_cases q : t < nT s
  · rw [if_pos q]; exact getT L hu V I q hk
  · rw [if_neg q]; exact getTo L hu V I (iin_no (by omega) (by omega))
theorem c131 (L : Lay v c w) (hv : v = 10 ∨ v = 20) (V : VilC w v s) (S : StC w 30 s) (I : Inv s) {r t : Nat} (hr : r < nR s) (ht : t < 8) (hl : ∀ q, q < nP s → cm_I w 45 q = lsd s (s 122 (7 * r)) (nI q) r) : fn_131 w 43 v 33 (nI r) (nI t) = some (tenC s r t) := by
  have hR := I.2.1.2.2.1
  have hT := I.1.1
  have hP := I.1.2.1
  obtain ⟨⟨b, hb, eb⟩, ⟨kd, hkd, ekd⟩, hy, -, -, ⟨kn, hkn, ekn⟩, hk1, -⟩ := I.2.1.2.2.2.2.2.2.2.2.1 r hr
  have k0 : fn_1 w 33 (nI r) 0 = some (s 122 (7 * r + 1)) := getR (k := 0) L S I.2.1 hr (by decide)
  have k1 : fn_1 w 33 (nI r) 1 = some (s 122 (7 * r + 2)) := getR (k := 1) L S I.2.1 hr (by decide)
  have k3 : fn_1 w 33 (nI r) 3 = some (s 122 (7 * r + 4)) := getR (k := 3) L S I.2.1 hr (by decide)
  have k4 : fn_1 w 33 (nI r) 4 = some (s 122 (7 * r + 5)) := getR (k := 4) L S I.2.1 hr (by decide)
  have k6 : fn_1 w 33 (nI r) 6 = some (s 122 (7 * r + 6)) := getR (k := 6) L S I.2.1 hr (by decide)
  have t1 : fn_1 w (v + 2) (nI t) 1 = some (if t < nT s then s 101 t else -1) := gTC (k := 1) L hv V I.1 (by omega) (by decide)
  have t2 : fn_1 w (v + 2) (nI t) 2 = some (if t < nT s then s 102 t else -1) := gTC (k := 2) L hv V I.1 (by omega) (by decide)
  have v7 : cm_I w v 7 = s 96 6 := V.1.2.2.2.2.2.1
  have v8 : cm_I w v 8 = s 96 7 := V.1.2.2.2.2.2.2
  unfold tenC
  by_cases a2 : s 122 (7 * r + 1) = 2
  · rw [if_pos a2]
    by_cases q : (if t < nT s then s 101 t else -1) = s 122 (7 * r + 4)
    · rw [if_pos q]
      simp (disch := omega) only [fn_131, S33 L, ↓LVb L hv, LV L hv, k0, k3, a2, t1, q, v7, eq_self, Nat.le_refl, Nat.lt_irrefl, some_if, Option.bind_some, Option.bind_none, Option.some.injEq, ↓reduceIte, reduceCtorEq, Bool.false_eq_true, Bool.true_eq_false, not_true_eq_false, not_false_eq_true, cmb0, cmb1, Nat.reduceAdd, Nat.reduceMul, Nat.reduceSub, Nat.add_zero, Bool.not_eq_true, Bool.not_eq_false, Nat.reduceEqDiff, Nat.reduceLeDiff, Nat.reduceLT, Int32.reduceLT, Int32.reduceLE, iin_nI, iin_lit, iin_m1, tn_nI, tn_lit, nI_lm, nI_ml, nI_al, nI_la, nI_add, pk_mul, nI_le_l, nI_l_le, nI_lt_l, nI_l_lt, nI_eq_l, nI_l_eq, nI_eqP, nI_leP, nI_ltP, nI_m1, m1_nI, nI_ll, m1_l, l_m1]
    · rw [if_neg q]
      simp (disch := omega) only [fn_131, fn_131_62, S33 L, ↓LVb L hv, LV L hv, k0, k3, a2, t1, q, v7, eq_self, Nat.le_refl, Nat.lt_irrefl, some_if, Option.bind_some, Option.bind_none, Option.some.injEq, ↓reduceIte, reduceCtorEq, Bool.false_eq_true, Bool.true_eq_false, not_true_eq_false, not_false_eq_true, cmb0, cmb1, Nat.reduceAdd, Nat.reduceMul, Nat.reduceSub, Nat.add_zero, Bool.not_eq_true, Bool.not_eq_false, Nat.reduceEqDiff, Nat.reduceLeDiff, Nat.reduceLT, Int32.reduceLT, Int32.reduceLE, iin_nI, iin_lit, iin_m1, tn_nI, tn_lit, nI_lm, nI_ml, nI_al, nI_la, nI_add, pk_mul, nI_le_l, nI_l_le, nI_lt_l, nI_l_lt, nI_eq_l, nI_l_eq, nI_eqP, nI_leP, nI_ltP, nI_m1, m1_nI, nI_ll, m1_l, l_m1]
  by_cases a3 : s 122 (7 * r + 1) = 3
  · rw [if_neg a2, if_pos a3]
    by_cases q : (if t < nT s then s 102 t else -1) = s 122 (7 * r + 4)
    · rw [if_pos q]
      simp (disch := omega) only [fn_131, fn_131_70, S33 L, ↓LVb L hv, LV L hv, k0, k3, a3, t2, q, v8, eq_self, Nat.le_refl, Nat.lt_irrefl, some_if, Option.bind_some, Option.bind_none, Option.some.injEq, ↓reduceIte, reduceCtorEq, Bool.false_eq_true, Bool.true_eq_false, not_true_eq_false, not_false_eq_true, cmb0, cmb1, Nat.reduceAdd, Nat.reduceMul, Nat.reduceSub, Nat.add_zero, Bool.not_eq_true, Bool.not_eq_false, Nat.reduceEqDiff, Nat.reduceLeDiff, Nat.reduceLT, Int32.reduceLT, Int32.reduceLE, iin_nI, iin_lit, iin_m1, tn_nI, tn_lit, nI_lm, nI_ml, nI_al, nI_la, nI_add, pk_mul, nI_le_l, nI_l_le, nI_lt_l, nI_l_lt, nI_eq_l, nI_l_eq, nI_eqP, nI_leP, nI_ltP, nI_m1, m1_nI, nI_ll, m1_l, l_m1]
    · rw [if_neg q]
      simp (disch := omega) only [fn_131, fn_131_70, fn_131_92, S33 L, ↓LVb L hv, LV L hv, k0, k3, a3, t2, q, v8, eq_self, Nat.le_refl, Nat.lt_irrefl, some_if, Option.bind_some, Option.bind_none, Option.some.injEq, ↓reduceIte, reduceCtorEq, Bool.false_eq_true, Bool.true_eq_false, not_true_eq_false, not_false_eq_true, cmb0, cmb1, Nat.reduceAdd, Nat.reduceMul, Nat.reduceSub, Nat.add_zero, Bool.not_eq_true, Bool.not_eq_false, Nat.reduceEqDiff, Nat.reduceLeDiff, Nat.reduceLT, Int32.reduceLT, Int32.reduceLE, iin_nI, iin_lit, iin_m1, tn_nI, tn_lit, nI_lm, nI_ml, nI_al, nI_la, nI_add, pk_mul, nI_le_l, nI_l_le, nI_lt_l, nI_l_lt, nI_eq_l, nI_l_eq, nI_eqP, nI_leP, nI_ltP, nI_m1, m1_nI, nI_ll, m1_l, l_m1]
  rw [if_neg a2, if_neg a3]
  by_cases n0 : s 122 (7 * r + 6) = 0
  · rw [if_pos n0]
    by_cases a1 : s 122 (7 * r + 1) = 1 <;> simp (disch := omega) only [fn_131, fn_131_100, fn_131_138, S33 L, k0, k3, k6, a1, a2, a3, n0, eq_self, Nat.le_refl, Nat.lt_irrefl, some_if, Option.bind_some, Option.bind_none, Option.some.injEq, ↓reduceIte, reduceCtorEq, Bool.false_eq_true, Bool.true_eq_false, not_true_eq_false, not_false_eq_true, cmb0, cmb1, Nat.reduceAdd, Nat.reduceMul, Nat.reduceSub, Nat.add_zero, Bool.not_eq_true, Bool.not_eq_false, Nat.reduceEqDiff, Nat.reduceLeDiff, Nat.reduceLT, Int32.reduceLT, Int32.reduceLE, iin_nI, iin_lit, iin_m1, tn_nI, tn_lit, nI_lm, nI_ml, nI_al, nI_la, nI_add, pk_mul, nI_le_l, nI_l_le, nI_lt_l, nI_l_lt, nI_eq_l, nI_l_eq, nI_eqP, nI_leP, nI_ltP, nI_m1, m1_nI, nI_ll, m1_l, l_m1]
  have n1 : s 122 (7 * r + 6) = 1 := by
    rcases (show kn = 0 ∨ kn = 1 by omega) with rfl | rfl
    · exact absurd ekn n0
    · exact ekn
  rw [if_neg n0]
  obtain ⟨p, hp, ep⟩ := hk1 n1
  have tp : tn (nI p) = p := tn_nIe (by omega)
  have mn : fn_127 w v 33 (nI r) = some (s 104 p) := by
    simp (disch := omega) only [fn_127, S33 L, ↓LVb L hv, LV L hv, k1, ep, getP L hv V I.1 hp, eq_self, Nat.le_refl, Nat.lt_irrefl, some_if, Option.bind_some, Option.bind_none, Option.some.injEq, ↓reduceIte, reduceCtorEq, Bool.false_eq_true, Bool.true_eq_false, not_true_eq_false, not_false_eq_true, cmb0, cmb1, Nat.reduceAdd, Nat.reduceMul, Nat.reduceSub, Nat.add_zero, Bool.not_eq_true, Bool.not_eq_false, Nat.reduceEqDiff, Nat.reduceLeDiff, Nat.reduceLT, Int32.reduceLT, Int32.reduceLE, iin_nI, iin_lit, iin_m1, tn_nI, tn_lit, nI_lm, nI_ml, nI_al, nI_la, nI_add, pk_mul, nI_le_l, nI_l_le, nI_lt_l, nI_l_lt, nI_eq_l, nI_l_eq, nI_eqP, nI_leP, nI_ltP, nI_m1, m1_nI, nI_ll, m1_l, l_m1]
  rw [ep, tp]
  by_cases a1 : s 122 (7 * r + 1) = 1
  · rw [if_pos a1]
    have st : fn_131 w 43 v 33 (nI r) (nI t) = (if nI t = s 122 (7 * r + 4) then fn_128 w (s 104 p) 1 else fn_128 w (s 104 p) 0) := by
      by_cases q : nI t = s 122 (7 * r + 4)
      · have q' : s 122 (7 * r + 4) = nI t := q.symm
        simp (disch := omega) only [fn_131, fn_131_100, S33 L, k0, k3, k6, a1, n1, mn, q', eq_self, Nat.le_refl, Nat.lt_irrefl, some_if, Option.bind_some, Option.bind_none, Option.some.injEq, ↓reduceIte, reduceCtorEq, Bool.false_eq_true, Bool.true_eq_false, not_true_eq_false, not_false_eq_true, cmb0, cmb1, Nat.reduceAdd, Nat.reduceMul, Nat.reduceSub, Nat.add_zero, Bool.not_eq_true, Bool.not_eq_false, Nat.reduceEqDiff, Nat.reduceLeDiff, Nat.reduceLT, Int32.reduceLT, Int32.reduceLE, iin_nI, iin_lit, iin_m1, tn_nI, tn_lit, nI_lm, nI_ml, nI_al, nI_la, nI_add, pk_mul, nI_le_l, nI_l_le, nI_lt_l, nI_l_lt, nI_eq_l, nI_l_eq, nI_eqP, nI_leP, nI_ltP, nI_m1, m1_nI, nI_ll, m1_l, l_m1]
        cases fn_128 w (s 104 p) 1 <;> rfl
      · have q' : ¬ s 122 (7 * r + 4) = nI t := fun z => q z.symm
        simp (disch := omega) only [fn_131, fn_131_100, S33 L, k0, k3, k6, a1, n1, mn, q, q', eq_self, Nat.le_refl, Nat.lt_irrefl, some_if, Option.bind_some, Option.bind_none, Option.some.injEq, ↓reduceIte, reduceCtorEq, Bool.false_eq_true, Bool.true_eq_false, not_true_eq_false, not_false_eq_true, cmb0, cmb1, Nat.reduceAdd, Nat.reduceMul, Nat.reduceSub, Nat.add_zero, Bool.not_eq_true, Bool.not_eq_false, Nat.reduceEqDiff, Nat.reduceLeDiff, Nat.reduceLT, Int32.reduceLT, Int32.reduceLE, iin_nI, iin_lit, iin_m1, tn_nI, tn_lit, nI_lm, nI_ml, nI_al, nI_la, nI_add, pk_mul, nI_le_l, nI_l_le, nI_lt_l, nI_l_lt, nI_eq_l, nI_l_eq, nI_eqP, nI_leP, nI_ltP, nI_m1, m1_nI, nI_ll, m1_l, l_m1]
        cases fn_128 w (s 104 p) 0 <;> rfl
    rw [st]
    by_cases b0 : s 104 p = 0
    · by_cases q : nI t = s 122 (7 * r + 4) <;> simp (disch := omega) only [fn_128, b0, q, eq_self, Nat.le_refl, Nat.lt_irrefl, some_if, Option.bind_some, Option.bind_none, Option.some.injEq, ↓reduceIte, reduceCtorEq, Bool.false_eq_true, Bool.true_eq_false, not_true_eq_false, not_false_eq_true, cmb0, cmb1, Nat.reduceAdd, Nat.reduceMul, Nat.reduceSub, Nat.add_zero, Bool.not_eq_true, Bool.not_eq_false, Nat.reduceEqDiff, Nat.reduceLeDiff, Nat.reduceLT, Int32.reduceLT, Int32.reduceLE, iin_nI, iin_lit, iin_m1, tn_nI, tn_lit, nI_lm, nI_ml, nI_al, nI_la, nI_add, pk_mul, nI_le_l, nI_l_le, nI_lt_l, nI_l_lt, nI_eq_l, nI_l_eq, nI_eqP, nI_leP, nI_ltP, nI_m1, m1_nI, nI_ll, m1_l, l_m1]
    by_cases b1 : s 104 p = 1
    · by_cases q : nI t = s 122 (7 * r + 4) <;> simp (disch := omega) only [fn_128, fn_128_47, b1, q, eq_self, Nat.le_refl, Nat.lt_irrefl, some_if, Option.bind_some, Option.bind_none, Option.some.injEq, ↓reduceIte, reduceCtorEq, Bool.false_eq_true, Bool.true_eq_false, not_true_eq_false, not_false_eq_true, cmb0, cmb1, Nat.reduceAdd, Nat.reduceMul, Nat.reduceSub, Nat.add_zero, Bool.not_eq_true, Bool.not_eq_false, Nat.reduceEqDiff, Nat.reduceLeDiff, Nat.reduceLT, Int32.reduceLT, Int32.reduceLE, iin_nI, iin_lit, iin_m1, tn_nI, tn_lit, nI_lm, nI_ml, nI_al, nI_la, nI_add, pk_mul, nI_le_l, nI_l_le, nI_lt_l, nI_l_lt, nI_eq_l, nI_l_eq, nI_eqP, nI_leP, nI_ltP, nI_m1, m1_nI, nI_ll, m1_l, l_m1]
    by_cases b5 : s 104 p = 5
    · by_cases q : nI t = s 122 (7 * r + 4) <;> simp (disch := omega) only [fn_128, fn_128_58, b5, q, eq_self, Nat.le_refl, Nat.lt_irrefl, some_if, Option.bind_some, Option.bind_none, Option.some.injEq, ↓reduceIte, reduceCtorEq, Bool.false_eq_true, Bool.true_eq_false, not_true_eq_false, not_false_eq_true, cmb0, cmb1, Nat.reduceAdd, Nat.reduceMul, Nat.reduceSub, Nat.add_zero, Bool.not_eq_true, Bool.not_eq_false, Nat.reduceEqDiff, Nat.reduceLeDiff, Nat.reduceLT, Int32.reduceLT, Int32.reduceLE, iin_nI, iin_lit, iin_m1, tn_nI, tn_lit, nI_lm, nI_ml, nI_al, nI_la, nI_add, pk_mul, nI_le_l, nI_l_le, nI_lt_l, nI_l_lt, nI_eq_l, nI_l_eq, nI_eqP, nI_leP, nI_ltP, nI_m1, m1_nI, nI_ll, m1_l, l_m1]
    · by_cases q : nI t = s 122 (7 * r + 4) <;> simp (disch := omega) only [fn_128, b0, b1, b5, q, eq_self, Nat.le_refl, Nat.lt_irrefl, some_if, Option.bind_some, Option.bind_none, Option.some.injEq, ↓reduceIte, reduceCtorEq, Bool.false_eq_true, Bool.true_eq_false, not_true_eq_false, not_false_eq_true, cmb0, cmb1, Nat.reduceAdd, Nat.reduceMul, Nat.reduceSub, Nat.add_zero, Bool.not_eq_true, Bool.not_eq_false, Nat.reduceEqDiff, Nat.reduceLeDiff, Nat.reduceLT, Int32.reduceLT, Int32.reduceLE, iin_nI, iin_lit, iin_m1, tn_nI, tn_lit, nI_lm, nI_ml, nI_al, nI_la, nI_add, pk_mul, nI_le_l, nI_l_le, nI_lt_l, nI_l_lt, nI_eq_l, nI_l_eq, nI_eqP, nI_leP, nI_ltP, nI_m1, m1_nI, nI_ll, m1_l, l_m1]
  rw [if_neg a1]
  have s43 : cm_sh w 43 = some (.inl 8) := by simp only [LC L]
  have st : fn_131 w 43 v 33 (nI r) (nI t) = fn_130 w 43 v 33 (nI r) (nI t) := by
    simp (disch := omega) only [fn_131, fn_131_138, S33 L, s43, k0, k3, k6, a1, a2, a3, n1, eq_self, Nat.le_refl, Nat.lt_irrefl, some_if, Option.bind_some, Option.bind_none, Option.some.injEq, ↓reduceIte, reduceCtorEq, Bool.false_eq_true, Bool.true_eq_false, not_true_eq_false, not_false_eq_true, cmb0, cmb1, Nat.reduceAdd, Nat.reduceMul, Nat.reduceSub, Nat.add_zero, Bool.not_eq_true, Bool.not_eq_false, Nat.reduceEqDiff, Nat.reduceLeDiff, Nat.reduceLT, Int32.reduceLT, Int32.reduceLE, iin_nI, iin_lit, iin_m1, tn_nI, tn_lit, nI_lm, nI_ml, nI_al, nI_la, nI_add, pk_mul, nI_le_l, nI_l_le, nI_lt_l, nI_l_lt, nI_eq_l, nI_l_eq, nI_eqP, nI_leP, nI_ltP, nI_m1, m1_nI, nI_ll, m1_l, l_m1]
    cases fn_130 w 43 v 33 (nI r) (nI t) <;> rfl
  rw [st]
  by_cases b1 : s 104 p = 1
  · rw [if_neg (by rw [b1]; decide), if_neg (by rw [b1]; decide), if_pos b1]
    have hq : ¬ nI p < 0 := nI_pos (by omega)
    have hq2 : ¬ 12 ≤ p := by omega
    have e45 := hl p hp
    by_cases q1 : lsd s (s 122 (7 * r)) (nI p) r = -1
    · simp (disch := omega) only [fn_130, fn_130_88, fn_129, S33 L, ↓LCb L, LC L, k1, k3, k4, ep, mn, b1, hq, hq2, e45, q1, eq_self, Nat.le_refl, Nat.lt_irrefl, some_if, Option.bind_some, Option.bind_none, Option.some.injEq, ↓reduceIte, reduceCtorEq, Bool.false_eq_true, Bool.true_eq_false, not_true_eq_false, not_false_eq_true, cmb0, cmb1, Nat.reduceAdd, Nat.reduceMul, Nat.reduceSub, Nat.add_zero, Bool.not_eq_true, Bool.not_eq_false, Nat.reduceEqDiff, Nat.reduceLeDiff, Nat.reduceLT, Int32.reduceLT, Int32.reduceLE, iin_nI, iin_lit, iin_m1, tn_nI, tn_lit, nI_lm, nI_ml, nI_al, nI_la, nI_add, pk_mul, nI_le_l, nI_l_le, nI_lt_l, nI_l_lt, nI_eq_l, nI_l_eq, nI_eqP, nI_leP, nI_ltP, nI_m1, m1_nI, nI_ll, m1_l, l_m1]
    · by_cases q2 : lsd s (s 122 (7 * r)) (nI p) r = nI t <;> simp (disch := omega) only [fn_130, fn_130_88, fn_129, fn_129_31, S33 L, ↓LCb L, LC L, k1, k3, k4, ep, mn, b1, hq, hq2, e45, q1, q2, eq_self, Nat.le_refl, Nat.lt_irrefl, some_if, Option.bind_some, Option.bind_none, Option.some.injEq, ↓reduceIte, reduceCtorEq, Bool.false_eq_true, Bool.true_eq_false, not_true_eq_false, not_false_eq_true, cmb0, cmb1, Nat.reduceAdd, Nat.reduceMul, Nat.reduceSub, Nat.add_zero, Bool.not_eq_true, Bool.not_eq_false, Nat.reduceEqDiff, Nat.reduceLeDiff, Nat.reduceLT, Int32.reduceLT, Int32.reduceLE, iin_nI, iin_lit, iin_m1, tn_nI, tn_lit, nI_lm, nI_ml, nI_al, nI_la, nI_add, pk_mul, nI_le_l, nI_l_le, nI_lt_l, nI_l_lt, nI_eq_l, nI_l_eq, nI_eqP, nI_leP, nI_ltP, nI_m1, m1_nI, nI_ll, m1_l, l_m1]
  by_cases b2 : s 104 p = 2
  · rw [if_pos b2]
    have w1 := c6 L hv V I.1 (show t < 2147483648 by omega) (s 122 (7 * r + 5))
    by_cases q : cwo s t (s 122 (7 * r + 5)) < s 122 (7 * r + 4)
    · have q' : ¬ s 122 (7 * r + 4) ≤ cwo s t (s 122 (7 * r + 5)) := by rw [Int32.not_le]; exact q
      simp (disch := omega) only [fn_130, S33 L, LV L hv, k3, k4, mn, b2, w1, q, q', eq_self, Nat.le_refl, Nat.lt_irrefl, some_if, Option.bind_some, Option.bind_none, Option.some.injEq, ↓reduceIte, reduceCtorEq, Bool.false_eq_true, Bool.true_eq_false, not_true_eq_false, not_false_eq_true, cmb0, cmb1, Nat.reduceAdd, Nat.reduceMul, Nat.reduceSub, Nat.add_zero, Bool.not_eq_true, Bool.not_eq_false, Nat.reduceEqDiff, Nat.reduceLeDiff, Nat.reduceLT, Int32.reduceLT, Int32.reduceLE, iin_nI, iin_lit, iin_m1, tn_nI, tn_lit, nI_lm, nI_ml, nI_al, nI_la, nI_add, pk_mul, nI_le_l, nI_l_le, nI_lt_l, nI_l_lt, nI_eq_l, nI_l_eq, nI_eqP, nI_leP, nI_ltP, nI_m1, m1_nI, nI_ll, m1_l, l_m1]
    · have q' : s 122 (7 * r + 4) ≤ cwo s t (s 122 (7 * r + 5)) := by rw [← Int32.not_lt]; exact q
      simp (disch := omega) only [fn_130, S33 L, LV L hv, k3, k4, mn, b2, w1, q, q', eq_self, Nat.le_refl, Nat.lt_irrefl, some_if, Option.bind_some, Option.bind_none, Option.some.injEq, ↓reduceIte, reduceCtorEq, Bool.false_eq_true, Bool.true_eq_false, not_true_eq_false, not_false_eq_true, cmb0, cmb1, Nat.reduceAdd, Nat.reduceMul, Nat.reduceSub, Nat.add_zero, Bool.not_eq_true, Bool.not_eq_false, Nat.reduceEqDiff, Nat.reduceLeDiff, Nat.reduceLT, Int32.reduceLT, Int32.reduceLE, iin_nI, iin_lit, iin_m1, tn_nI, tn_lit, nI_lm, nI_ml, nI_al, nI_la, nI_add, pk_mul, nI_le_l, nI_l_le, nI_lt_l, nI_l_lt, nI_eq_l, nI_l_eq, nI_eqP, nI_leP, nI_ltP, nI_m1, m1_nI, nI_ll, m1_l, l_m1]
  rw [if_neg b2]
  by_cases b3 : s 104 p = 3
  · rw [if_pos b3]
    have w1 := c31 L hv V I.1 (show t < 2147483648 by omega) (s 122 (7 * r + 5))
    by_cases q : cko s t (s 122 (7 * r + 5)) ≤ s 122 (7 * r + 4)
    · have q' : ¬ s 122 (7 * r + 4) < cko s t (s 122 (7 * r + 5)) := by rw [Int32.not_lt]; exact q
      simp (disch := omega) only [fn_130, fn_130_68, S33 L, LV L hv, k3, k4, mn, b3, w1, q, q', eq_self, Nat.le_refl, Nat.lt_irrefl, some_if, Option.bind_some, Option.bind_none, Option.some.injEq, ↓reduceIte, reduceCtorEq, Bool.false_eq_true, Bool.true_eq_false, not_true_eq_false, not_false_eq_true, cmb0, cmb1, Nat.reduceAdd, Nat.reduceMul, Nat.reduceSub, Nat.add_zero, Bool.not_eq_true, Bool.not_eq_false, Nat.reduceEqDiff, Nat.reduceLeDiff, Nat.reduceLT, Int32.reduceLT, Int32.reduceLE, iin_nI, iin_lit, iin_m1, tn_nI, tn_lit, nI_lm, nI_ml, nI_al, nI_la, nI_add, pk_mul, nI_le_l, nI_l_le, nI_lt_l, nI_l_lt, nI_eq_l, nI_l_eq, nI_eqP, nI_leP, nI_ltP, nI_m1, m1_nI, nI_ll, m1_l, l_m1]
    · have q' : s 122 (7 * r + 4) < cko s t (s 122 (7 * r + 5)) := by rw [← Int32.not_le]; exact q
      simp (disch := omega) only [fn_130, fn_130_68, S33 L, LV L hv, k3, k4, mn, b3, w1, q, q', eq_self, Nat.le_refl, Nat.lt_irrefl, some_if, Option.bind_some, Option.bind_none, Option.some.injEq, ↓reduceIte, reduceCtorEq, Bool.false_eq_true, Bool.true_eq_false, not_true_eq_false, not_false_eq_true, cmb0, cmb1, Nat.reduceAdd, Nat.reduceMul, Nat.reduceSub, Nat.add_zero, Bool.not_eq_true, Bool.not_eq_false, Nat.reduceEqDiff, Nat.reduceLeDiff, Nat.reduceLT, Int32.reduceLT, Int32.reduceLE, iin_nI, iin_lit, iin_m1, tn_nI, tn_lit, nI_lm, nI_ml, nI_al, nI_la, nI_add, pk_mul, nI_le_l, nI_l_le, nI_lt_l, nI_l_lt, nI_eq_l, nI_l_eq, nI_eqP, nI_leP, nI_ltP, nI_m1, m1_nI, nI_ll, m1_l, l_m1]
  rw [if_neg b3, if_neg b1]
  simp (disch := omega) only [fn_130, S33 L, k3, k4, mn, b1, b2, b3, eq_self, Nat.le_refl, Nat.lt_irrefl, some_if, Option.bind_some, Option.bind_none, Option.some.injEq, ↓reduceIte, reduceCtorEq, Bool.false_eq_true, Bool.true_eq_false, not_true_eq_false, not_false_eq_true, cmb0, cmb1, Nat.reduceAdd, Nat.reduceMul, Nat.reduceSub, Nat.add_zero, Bool.not_eq_true, Bool.not_eq_false, Nat.reduceEqDiff, Nat.reduceLeDiff, Nat.reduceLT, Int32.reduceLT, Int32.reduceLE, iin_nI, iin_lit, iin_m1, tn_nI, tn_lit, nI_lm, nI_ml, nI_al, nI_la, nI_add, pk_mul, nI_le_l, nI_l_le, nI_lt_l, nI_l_lt, nI_eq_l, nI_l_eq, nI_eqP, nI_leP, nI_ltP, nI_m1, m1_nI, nI_ll, m1_l, l_m1]
/-- what the class has noted when r rows are read -/
def lkC (s : St) (b t n : Nat) : Int64 := if t < nT s then lk s b t n else 0
theorem c133 (L : Lay v c w) (hv : v = 10 ∨ v = 20) (V : VilC w v s) (S : StC w 30 s) (I : Inv s) {b : Nat} (hb : b < nB s) : ∃ y, fn_133 43 v 30 (nI b) w = some y ∧ FC v c w y ∧ cm_L y 43 2 = lka s b (nT s) ∧ ∀ t, t < nT s → cm_L y 44 t = lk s b t (nR s) := by
  have hT := I.1.1
  have hB := I.2.1.2.1
  have hR := I.2.1.2.2.1
  have hP := I.1.2.1
  obtain ⟨p, hp, ep⟩ := (I.2.1.2.2.2.2.2.1 b hb).1
  obtain ⟨t0, ht0, -⟩ := (I.2.1.2.2.2.2.2.1 b hb).2.1
  obtain ⟨j0, m0, -, em0, -, hm0, hm1⟩ := share_le I.1 hp ht0
  have hg0 : ¬ (shs s p).toInt64 = 0 := by
    rw [em0, nI_l (by omega), show (0 : Int64) = lN 0 from rfl, lN_eq (by omega) (by omega)]; omega
  -- what was said last
  have f1 : ∃ y, fn_125 45 (-1) w = some y ∧ FC v c w y ∧ ∀ q, q < 12 → cm_I y 45 q = -1 := by
    have e0 : fn_125 45 (-1) w = fn_125_5 cm_N 45 (-1) 0 (nI 12) w := by
      simp (disch := omega) only [fn_125, LC L, eq_self, Nat.le_refl, Nat.lt_irrefl, some_if, Option.bind_some, Option.bind_none, Option.some.injEq, ↓reduceIte, reduceCtorEq, Bool.false_eq_true, Bool.true_eq_false, not_true_eq_false, not_false_eq_true, cmb0, cmb1, Nat.reduceAdd, Nat.reduceMul, Nat.reduceSub, Nat.add_zero, Bool.not_eq_true, Bool.not_eq_false, Nat.reduceEqDiff, Nat.reduceLeDiff, Nat.reduceLT, Int32.reduceLT, Int32.reduceLE, iin_nI, iin_lit, iin_m1, tn_nI, tn_lit, nI_lm, nI_ml, nI_al, nI_la, nI_add, pk_mul, nI_le_l, nI_l_le, nI_lt_l, nI_l_lt, nI_eq_l, nI_l_eq, nI_eqP, nI_leP, nI_ltP, nI_m1, m1_nI, nI_ll, m1_l, l_m1]
      rfl
    rw [e0]
    refine up_0 (fun m k a => fn_125_5 m 45 (-1) (nI k) (nI 12) a) 12 (fun k a => FC v c w a ∧ ∀ q, q < k → cm_I a 45 q = -1) (fun o => ∃ y, o = some y ∧ FC v c w y ∧ ∀ q, q < 12 → cm_I y 45 q = -1) w (by omega) ⟨FC.rf L, fun q h => by omega⟩ (fun m k a hk ha => Or.inr ?_) (fun m a ha => ?_)
    · obtain ⟨F, h⟩ := ha
      have hk' : ¬ 12 ≤ k := by omega
      refine ⟨cm_sI a 45 k (-1), ⟨F.sI (by omega), fun q h' => ?_⟩, ?_⟩
      · by_cases z : q = k
        · subst z; rw [I_eq]
        · rw [I_nk z]; exact h q (by omega)
      · simp (disch := omega) only [fn_125_5, hk', LC F.1, cm_w2, Nat.reduceLeDiff, Nat.reduceLT, decide_true, Bool.and_self, Bool.and_true, eq_self, Nat.le_refl, Nat.lt_irrefl, some_if, Option.bind_some, Option.bind_none, Option.some.injEq, ↓reduceIte, reduceCtorEq, Bool.false_eq_true, Bool.true_eq_false, not_true_eq_false, not_false_eq_true, cmb0, cmb1, Nat.reduceAdd, Nat.reduceMul, Nat.reduceSub, Nat.add_zero, Bool.not_eq_true, Bool.not_eq_false, Nat.reduceEqDiff, Nat.reduceLeDiff, Nat.reduceLT, Int32.reduceLT, Int32.reduceLE, iin_nI, iin_lit, iin_m1, tn_nI, tn_lit, nI_lm, nI_ml, nI_al, nI_la, nI_add, pk_mul, nI_le_l, nI_l_le, nI_lt_l, nI_l_lt, nI_eq_l, nI_l_eq, nI_eqP, nI_leP, nI_ltP, nI_m1, m1_nI, nI_ll, m1_l, l_m1]
    · obtain ⟨F, h⟩ := ha
      refine ⟨a, ?_, F, h⟩
      simp (disch := omega) only [fn_125_5, eq_self, Nat.le_refl, Nat.lt_irrefl, some_if, Option.bind_some, Option.bind_none, Option.some.injEq, ↓reduceIte, reduceCtorEq, Bool.false_eq_true, Bool.true_eq_false, not_true_eq_false, not_false_eq_true, cmb0, cmb1, Nat.reduceAdd, Nat.reduceMul, Nat.reduceSub, Nat.add_zero, Bool.not_eq_true, Bool.not_eq_false, Nat.reduceEqDiff, Nat.reduceLeDiff, Nat.reduceLT, Int32.reduceLT, Int32.reduceLE, iin_nI, iin_lit, iin_m1, tn_nI, tn_lit, nI_lm, nI_ml, nI_al, nI_la, nI_add, pk_mul, nI_le_l, nI_l_le, nI_lt_l, nI_l_lt, nI_eq_l, nI_l_eq, nI_eqP, nI_leP, nI_ltP, nI_m1, m1_nI, nI_ll, m1_l, l_m1]
  obtain ⟨y1, e1, F1, l1⟩ := f1
  -- how likely, to begin with
  have f2 : ∃ y, fn_126_21 cm_N 43 v (nI p) (shs s p) 0 y1 = some y ∧ FC v c w y ∧ (∀ q, q < 12 → cm_I y 45 q = -1) ∧ ∀ t, t < 8 → cm_L y 44 t = lkC s b t 0 := by
    refine up_0 (fun m k a => fn_126_21 m 43 v (nI p) (shs s p) (nI k) a) 8 (fun k a => FC v c w a ∧ (∀ q, q < 12 → cm_I a 45 q = -1) ∧ ∀ t, t < k → cm_L a 44 t = lkC s b t 0) (fun o => ∃ y, o = some y ∧ FC v c w y ∧ (∀ q, q < 12 → cm_I y 45 q = -1) ∧ ∀ t, t < 8 → cm_L y 44 t = lkC s b t 0) y1 (by omega) ⟨F1, l1, fun q h => by omega⟩ (fun m k a hk ha => Or.inr ?_) (fun m a ha => ?_)
    · obtain ⟨F, h1, h2⟩ := ha
      have hk' : ¬ 8 ≤ k := by omega
      have e8 : fn_8 a v (nI p) (nI k) = some (if k < nT s then s 107 (8 * p + k) else 0) := by
        by_cases z : k < nT s
        · rw [if_pos z]; exact c8 F.1 hv (F.V V hv) I.1 hp z
        · rw [if_neg z]; exact c8t F.1 hv (F.V V hv) I.1 (iin_no (by omega) (by omega))
      have ez : (100000000000000 * (if k < nT s then s 107 (8 * p + k) else 0).toInt64) / (shs s p).toInt64 = lkC s b k 0 := by
        unfold lkC
        by_cases z : k < nT s
        · rw [if_pos z, if_pos z]
          show _ = 100000000000000 * (s 107 (8 * tn (s 114 b) + k)).toInt64 / (shs s (tn (s 114 b))).toInt64
          rw [ep, tn_nIe (by omega)]
        · rw [if_neg z, if_neg z, em0, nI_l (by omega)]
          show lN 0 / lN m0 = 0
          rw [pk_lDiv (by omega) hm0 (by omega), Nat.zero_div]; rfl
      refine ⟨cm_sL a 44 k (lkC s b k 0), ⟨F.sL (by omega), h1, fun t h' => ?_⟩, ?_⟩
      · by_cases z : t = k
        · subst z; rw [L_eq]
        · rw [L_nk z]; exact h2 t (by omega)
      · simp (disch := omega) only [fn_126_21, hk', ↓LCb F.1, LC F.1, LV F.1 hv, e8, hg0, ez, cm_w2, Nat.reduceLeDiff, Nat.reduceLT, decide_true, Bool.and_self, Bool.and_true, eq_self, Nat.le_refl, Nat.lt_irrefl, some_if, Option.bind_some, Option.bind_none, Option.some.injEq, ↓reduceIte, reduceCtorEq, Bool.false_eq_true, Bool.true_eq_false, not_true_eq_false, not_false_eq_true, cmb0, cmb1, Nat.reduceAdd, Nat.reduceMul, Nat.reduceSub, Nat.add_zero, Bool.not_eq_true, Bool.not_eq_false, Nat.reduceEqDiff, Nat.reduceLeDiff, Nat.reduceLT, Int32.reduceLT, Int32.reduceLE, iin_nI, iin_lit, iin_m1, tn_nI, tn_lit, nI_lm, nI_ml, nI_al, nI_la, nI_add, pk_mul, nI_le_l, nI_l_le, nI_lt_l, nI_l_lt, nI_eq_l, nI_l_eq, nI_eqP, nI_leP, nI_ltP, nI_m1, m1_nI, nI_ll, m1_l, l_m1]
    · obtain ⟨F, h1, h2⟩ := ha
      refine ⟨a, ?_, F, h1, h2⟩
      simp (disch := omega) only [fn_126_21, eq_self, Nat.le_refl, Nat.lt_irrefl, some_if, Option.bind_some, Option.bind_none, Option.some.injEq, ↓reduceIte, reduceCtorEq, Bool.false_eq_true, Bool.true_eq_false, not_true_eq_false, not_false_eq_true, cmb0, cmb1, Nat.reduceAdd, Nat.reduceMul, Nat.reduceSub, Nat.add_zero, Bool.not_eq_true, Bool.not_eq_false, Nat.reduceEqDiff, Nat.reduceLeDiff, Nat.reduceLT, Int32.reduceLT, Int32.reduceLE, iin_nI, iin_lit, iin_m1, tn_nI, tn_lit, nI_lm, nI_ml, nI_al, nI_la, nI_add, pk_mul, nI_le_l, nI_l_le, nI_lt_l, nI_l_lt, nI_eq_l, nI_l_eq, nI_eqP, nI_leP, nI_ltP, nI_m1, m1_nI, nI_ll, m1_l, l_m1]
  obtain ⟨y2, e2, F2, l2, l3⟩ := f2
  have e126 : fn_126 43 v (nI p) w = some y2 := by
    have hmax : (if (1 : Int32) < shs s p then shs s p else 1) = shs s p := by
      rw [em0]
      by_cases z : m0 = 1
      · rw [z]; rfl
      · rw [if_pos (show (1 : Int32) < nI m0 from nI_lt (a := 1) (b := m0) (by omega) (by omega))]
    have e10 := c10 F1.1 hv (F1.V V hv) I.1 hp
    simp (disch := omega) only [fn_126, ↓LCb L, LC L, e1, LV F1.1 hv, e10, hmax, e2, eq_self, Nat.le_refl, Nat.lt_irrefl, some_if, Option.bind_some, Option.bind_none, Option.some.injEq, ↓reduceIte, reduceCtorEq, Bool.false_eq_true, Bool.true_eq_false, not_true_eq_false, not_false_eq_true, cmb0, cmb1, Nat.reduceAdd, Nat.reduceMul, Nat.reduceSub, Nat.add_zero, Bool.not_eq_true, Bool.not_eq_false, Nat.reduceEqDiff, Nat.reduceLeDiff, Nat.reduceLT, Int32.reduceLT, Int32.reduceLE, iin_nI, iin_lit, iin_m1, tn_nI, tn_lit, nI_lm, nI_ml, nI_al, nI_la, nI_add, pk_mul, nI_le_l, nI_l_le, nI_lt_l, nI_l_lt, nI_eq_l, nI_l_eq, nI_eqP, nI_leP, nI_ltP, nI_m1, m1_nI, nI_ll, m1_l, l_m1]
  have e133 : fn_133 43 v 30 (nI b) w = fn_133_17 cm_N 43 v 30 (nI b) 0 y2 := by
    have g0 : fn_1 w 31 (nI b) 0 = some (nI p) := (getB (k := 0) L S I.2.1 hb (by decide)).trans (congrArg some ep)
    simp (disch := omega) only [fn_133, ↓LStb L, LSt L, g0, LC L, e126, eq_self, Nat.le_refl, Nat.lt_irrefl, some_if, Option.bind_some, Option.bind_none, Option.some.injEq, ↓reduceIte, reduceCtorEq, Bool.false_eq_true, Bool.true_eq_false, not_true_eq_false, not_false_eq_true, cmb0, cmb1, Nat.reduceAdd, Nat.reduceMul, Nat.reduceSub, Nat.add_zero, Bool.not_eq_true, Bool.not_eq_false, Nat.reduceEqDiff, Nat.reduceLeDiff, Nat.reduceLT, Int32.reduceLT, Int32.reduceLE, iin_nI, iin_lit, iin_m1, tn_nI, tn_lit, nI_lm, nI_ml, nI_al, nI_la, nI_add, pk_mul, nI_le_l, nI_l_le, nI_lt_l, nI_l_lt, nI_eq_l, nI_l_eq, nI_eqP, nI_leP, nI_ltP, nI_m1, m1_nI, nI_ll, m1_l, l_m1]
  rw [e133]
  -- the rows
  refine up_0 (fun m k a => fn_133_17 m 43 v 30 (nI b) (nI k) a) (nR s) (fun k a => FC v c w a ∧ (∀ q, q < nP s → cm_I a 45 q = lsd s (nI b) (nI q) k) ∧ ∀ t, t < 8 → cm_L a 44 t = lkC s b t k) (fun o => ∃ y, o = some y ∧ FC v c w y ∧ cm_L y 43 2 = lka s b (nT s) ∧ ∀ t, t < nT s → cm_L y 44 t = lk s b t (nR s)) y2 (by omega) ⟨F2, fun q h => l2 q (by omega), l3⟩ (fun m r a hr ha => Or.inr ?_) (fun m a ha => ?_)
  · obtain ⟨F, h1, h2⟩ := ha
    have hr' : ¬ nR s ≤ r := by omega
    have SS := F.S S
    have k5 : fn_1 a 33 (nI r) 5 = some (s 122 (7 * r)) := getR (k := 5) F.1 SS I.2.1 hr (by decide)
    by_cases q : s 122 (7 * r) = nI b
    rotate_left
    · refine ⟨a, ⟨F, fun q' hq => ?_, fun t ht => ?_⟩, ?_⟩
      · rw [h1 q' hq]
        show _ = if s 122 (7 * r) = nI b ∧ _ then _ else lsd s (nI b) (nI q') r
        rw [if_neg (fun z => q z.1)]
      · rw [h2 t ht]
        unfold lkC
        by_cases z : t < nT s
        · rw [if_pos z, if_pos z]
          show _ = if s 122 (7 * r) = nI b then _ else lk s b t r
          rw [if_neg q]
        · rw [if_neg z, if_neg z]
      · simp (disch := omega) only [fn_133_17, fn_133_102, ↓LStb F.1, LSt F.1, SS.1, hR.1, hr', k5, q, eq_self, Nat.le_refl, Nat.lt_irrefl, some_if, Option.bind_some, Option.bind_none, Option.some.injEq, ↓reduceIte, reduceCtorEq, Bool.false_eq_true, Bool.true_eq_false, not_true_eq_false, not_false_eq_true, cmb0, cmb1, Nat.reduceAdd, Nat.reduceMul, Nat.reduceSub, Nat.add_zero, Bool.not_eq_true, Bool.not_eq_false, Nat.reduceEqDiff, Nat.reduceLeDiff, Nat.reduceLT, Int32.reduceLT, Int32.reduceLE, iin_nI, iin_lit, iin_m1, tn_nI, tn_lit, nI_lm, nI_ml, nI_al, nI_la, nI_add, pk_mul, nI_le_l, nI_l_le, nI_lt_l, nI_l_lt, nI_eq_l, nI_l_eq, nI_eqP, nI_leP, nI_ltP, nI_m1, m1_nI, nI_ll, m1_l, l_m1]
    -- a row of this box
    have e17 : fn_133_17 (m + 1) 43 v 30 (nI b) (nI r) a = fn_133_46 (fn_133_17 m) cm_N 43 v 30 (nI b) (nI r) 0 a := by
      simp (disch := omega) only [fn_133_17, ↓LStb F.1, LSt F.1, SS.1, hR.1, hr', k5, q, eq_self, Nat.le_refl, Nat.lt_irrefl, some_if, Option.bind_some, Option.bind_none, Option.some.injEq, ↓reduceIte, reduceCtorEq, Bool.false_eq_true, Bool.true_eq_false, not_true_eq_false, not_false_eq_true, cmb0, cmb1, Nat.reduceAdd, Nat.reduceMul, Nat.reduceSub, Nat.add_zero, Bool.not_eq_true, Bool.not_eq_false, Nat.reduceEqDiff, Nat.reduceLeDiff, Nat.reduceLT, Int32.reduceLT, Int32.reduceLE, iin_nI, iin_lit, iin_m1, tn_nI, tn_lit, nI_lm, nI_ml, nI_al, nI_la, nI_add, pk_mul, nI_le_l, nI_l_le, nI_lt_l, nI_l_lt, nI_eq_l, nI_l_eq, nI_eqP, nI_leP, nI_ltP, nI_m1, m1_nI, nI_ll, m1_l, l_m1]
    show ∃ a', _ ∧ fn_133_17 (m + 1) 43 v 30 (nI b) (nI r) a = fn_133_17 m 43 v 30 (nI b) (nI (r + 1)) a'
    rw [e17]
    refine up_0 (fun m' t z => fn_133_46 (fn_133_17 m) m' 43 v 30 (nI b) (nI r) (nI t) z) 8 (fun t z => FC v c w z ∧ (∀ q, q < nP s → cm_I z 45 q = lsd s (nI b) (nI q) r) ∧ (∀ t', t' < t → cm_L z 44 t' = lkC s b t' (r + 1)) ∧ ∀ t', t ≤ t' → t' < 8 → cm_L z 44 t' = lkC s b t' r) (fun o => ∃ a', (FC v c w a' ∧ (∀ q, q < nP s → cm_I a' 45 q = lsd s (nI b) (nI q) (r + 1)) ∧ ∀ t, t < 8 → cm_L a' 44 t = lkC s b t (r + 1)) ∧ o = fn_133_17 m 43 v 30 (nI b) (nI (r + 1)) a') a (by omega) ⟨F, h1, fun t' h => by omega, fun t' _ h => h2 t' h⟩ (fun m' t z ht hz => Or.inr ?_) (fun m' z hz => ?_)
    · obtain ⟨F', g1, g2, g3⟩ := hz
      have ht' : ¬ 8 ≤ t := by omega
      have et := c131 F'.1 hv (F'.V V hv) (F'.S S) I hr ht (fun q' hq => by rw [q]; exact g1 q' hq)
      have e44 := g3 t (Nat.le_refl _) ht
      have ez : lkC s b t r * (tenC s r t).toInt64 / 10 = lkC s b t (r + 1) := by
        unfold lkC
        by_cases z : t < nT s
        · rw [if_pos z, if_pos z, tenC_eq z]
          show _ = if s 122 (7 * r) = nI b then lk s b t r * (ten s r t).toInt64 / 10 else _
          rw [if_pos q]
        · rw [if_neg z, if_neg z, Int64.zero_mul]; rfl
      refine ⟨cm_sL z 44 t (lkC s b t (r + 1)), ⟨F'.sL (by omega), g1, fun t' h' => ?_, fun t' h' h'' => ?_⟩, ?_⟩
      · by_cases zz : t' = t
        · subst zz; rw [L_eq]
        · rw [L_nk zz]; exact g2 t' (by omega)
      · rw [L_nk (by omega)]; exact g3 t' (by omega) h''
      · simp (disch := omega) only [fn_133_46, ht', ↓LCb F'.1, ↓LStb F'.1, LC F'.1, LSt F'.1, et, e44, ez, cm_w2, Nat.reduceLeDiff, Nat.reduceLT, decide_true, Bool.and_self, Bool.and_true, eq_self, Nat.le_refl, Nat.lt_irrefl, some_if, Option.bind_some, Option.bind_none, Option.some.injEq, ↓reduceIte, reduceCtorEq, Bool.false_eq_true, Bool.true_eq_false, not_true_eq_false, not_false_eq_true, cmb0, cmb1, Nat.reduceAdd, Nat.reduceMul, Nat.reduceSub, Nat.add_zero, Bool.not_eq_true, Bool.not_eq_false, Nat.reduceEqDiff, Nat.reduceLeDiff, Nat.reduceLT, Int32.reduceLT, Int32.reduceLE, iin_nI, iin_lit, iin_m1, tn_nI, tn_lit, nI_lm, nI_ml, nI_al, nI_la, nI_add, pk_mul, nI_le_l, nI_l_le, nI_lt_l, nI_l_lt, nI_eq_l, nI_l_eq, nI_eqP, nI_leP, nI_ltP, nI_m1, m1_nI, nI_ll, m1_l, l_m1]
    · obtain ⟨F', g1, g2, g3⟩ := hz
      have SS := F'.S S
      have k0 : fn_1 z 33 (nI r) 0 = some (s 122 (7 * r + 1)) := getR (k := 0) F'.1 SS I.2.1 hr (by decide)
      have k1 : fn_1 z 33 (nI r) 1 = some (s 122 (7 * r + 2)) := getR (k := 1) F'.1 SS I.2.1 hr (by decide)
      have k3 : fn_1 z 33 (nI r) 3 = some (s 122 (7 * r + 4)) := getR (k := 3) F'.1 SS I.2.1 hr (by decide)
      have e92 : ∀ zz, fn_132 43 33 (nI r) z = some zz → fn_133_46 (fn_133_17 m) (m' + 1) 43 v 30 (nI b) (nI r) (nI 8) z = fn_133_17 m 43 v 30 (nI b) (nI (r + 1)) zz := fun zz e => by
        simp (disch := omega) only [fn_133_46, fn_133_92, fn_133_102, ↓LStb F'.1, LC F'.1, LSt F'.1, e, eq_self, Nat.le_refl, Nat.lt_irrefl, some_if, Option.bind_some, Option.bind_none, Option.some.injEq, ↓reduceIte, reduceCtorEq, Bool.false_eq_true, Bool.true_eq_false, not_true_eq_false, not_false_eq_true, cmb0, cmb1, Nat.reduceAdd, Nat.reduceMul, Nat.reduceSub, Nat.add_zero, Bool.not_eq_true, Bool.not_eq_false, Nat.reduceEqDiff, Nat.reduceLeDiff, Nat.reduceLT, Int32.reduceLT, Int32.reduceLE, iin_nI, iin_lit, iin_m1, tn_nI, tn_lit, nI_lm, nI_ml, nI_al, nI_la, nI_add, pk_mul, nI_le_l, nI_l_le, nI_lt_l, nI_l_lt, nI_eq_l, nI_l_eq, nI_eqP, nI_leP, nI_ltP, nI_m1, m1_nI, nI_ll, m1_l, l_m1]
      by_cases a1 : s 122 (7 * r + 1) = 1
      · obtain ⟨⟨py, hpy, epy⟩, -⟩ := (I.2.1.2.2.2.2.2.2.2.2.1 r hr).2.2.2.2.2.2.2 a1
        have hq : ¬ nI py < 0 := nI_pos (by omega)
        have hq2 : ¬ 12 ≤ py := by omega
        refine ⟨cm_sI z 45 py (s 122 (7 * r + 4)), ⟨F'.sI (by omega), fun q' hq' => ?_, fun t ht => g2 t ht⟩, e92 _ ?_⟩
        · show _ = if s 122 (7 * r) = nI b ∧ s 122 (7 * r + 1) = 1 ∧ s 122 (7 * r + 2) = nI q' then s 122 (7 * r + 4) else lsd s (nI b) (nI q') r
          by_cases zz : q' = py
          · subst zz; rw [I_eq, if_pos ⟨q, a1, epy⟩]
          · rw [I_nk zz, g1 q' hq', if_neg]
            intro h3
            have := (nI_eq (by omega) (by omega)).mp (epy.symm.trans h3.2.2)
            exact zz this.symm
        · simp (disch := omega) only [fn_132, S33 F'.1, ↓LCb F'.1, LC F'.1, k0, k1, k3, a1, epy, hq, hq2, cm_w2, Nat.reduceLeDiff, Nat.reduceLT, decide_true, Bool.and_self, Bool.and_true, eq_self, Nat.le_refl, Nat.lt_irrefl, some_if, Option.bind_some, Option.bind_none, Option.some.injEq, ↓reduceIte, reduceCtorEq, Bool.false_eq_true, Bool.true_eq_false, not_true_eq_false, not_false_eq_true, cmb0, cmb1, Nat.reduceAdd, Nat.reduceMul, Nat.reduceSub, Nat.add_zero, Bool.not_eq_true, Bool.not_eq_false, Nat.reduceEqDiff, Nat.reduceLeDiff, Nat.reduceLT, Int32.reduceLT, Int32.reduceLE, iin_nI, iin_lit, iin_m1, tn_nI, tn_lit, nI_lm, nI_ml, nI_al, nI_la, nI_add, pk_mul, nI_le_l, nI_l_le, nI_lt_l, nI_l_lt, nI_eq_l, nI_l_eq, nI_eqP, nI_leP, nI_ltP, nI_m1, m1_nI, nI_ll, m1_l, l_m1]
      · refine ⟨z, ⟨F', fun q' hq' => ?_, fun t ht => g2 t ht⟩, e92 _ ?_⟩
        · show _ = if s 122 (7 * r) = nI b ∧ s 122 (7 * r + 1) = 1 ∧ s 122 (7 * r + 2) = nI q' then s 122 (7 * r + 4) else lsd s (nI b) (nI q') r
          rw [g1 q' hq', if_neg (fun h3 => a1 h3.2.1)]
        · simp (disch := omega) only [fn_132, S33 F'.1, k0, k1, a1, eq_self, Nat.le_refl, Nat.lt_irrefl, some_if, Option.bind_some, Option.bind_none, Option.some.injEq, ↓reduceIte, reduceCtorEq, Bool.false_eq_true, Bool.true_eq_false, not_true_eq_false, not_false_eq_true, cmb0, cmb1, Nat.reduceAdd, Nat.reduceMul, Nat.reduceSub, Nat.add_zero, Bool.not_eq_true, Bool.not_eq_false, Nat.reduceEqDiff, Nat.reduceLeDiff, Nat.reduceLT, Int32.reduceLT, Int32.reduceLE, iin_nI, iin_lit, iin_m1, tn_nI, tn_lit, nI_lm, nI_ml, nI_al, nI_la, nI_add, pk_mul, nI_le_l, nI_l_le, nI_lt_l, nI_l_lt, nI_eq_l, nI_l_eq, nI_eqP, nI_leP, nI_ltP, nI_m1, m1_nI, nI_ll, m1_l, l_m1]
  · obtain ⟨F, h1, h2⟩ := ha
    have e108 : fn_133_17 (m + 1) 43 v 30 (nI b) (nI (nR s)) a = fn_133_116 cm_N 43 0 (cm_sL a 43 2 0) := by
      simp (disch := omega) only [fn_133_17, fn_133_108, ↓LStb F.1, LSt F.1, LC F.1, (F.S S).1, hR.1, cm_w2, Nat.reduceLeDiff, Nat.reduceLT, decide_true, Bool.and_self, Bool.and_true, eq_self, Nat.le_refl, Nat.lt_irrefl, some_if, Option.bind_some, Option.bind_none, Option.some.injEq, ↓reduceIte, reduceCtorEq, Bool.false_eq_true, Bool.true_eq_false, not_true_eq_false, not_false_eq_true, cmb0, cmb1, Nat.reduceAdd, Nat.reduceMul, Nat.reduceSub, Nat.add_zero, Bool.not_eq_true, Bool.not_eq_false, Nat.reduceEqDiff, Nat.reduceLeDiff, Nat.reduceLT, Int32.reduceLT, Int32.reduceLE, iin_nI, iin_lit, iin_m1, tn_nI, tn_lit, nI_lm, nI_ml, nI_al, nI_la, nI_add, pk_mul, nI_le_l, nI_l_le, nI_lt_l, nI_l_lt, nI_eq_l, nI_l_eq, nI_eqP, nI_leP, nI_ltP, nI_m1, m1_nI, nI_ll, m1_l, l_m1]
    show ∃ y, fn_133_17 (m + 1) 43 v 30 (nI b) (nI (nR s)) a = some y ∧ _
    rw [e108]
    refine up_0 (fun m k z => fn_133_116 m 43 (nI k) z) 8 (fun k z => FC v c w z ∧ (∀ t, t < 8 → cm_L z 44 t = lkC s b t (nR s)) ∧ cm_L z 43 2 = lka s b (min k (nT s))) (fun o => ∃ y, o = some y ∧ FC v c w y ∧ cm_L y 43 2 = lka s b (nT s) ∧ ∀ t, t < nT s → cm_L y 44 t = lk s b t (nR s)) _ (by omega) ⟨F.sL (by omega), fun t ht => by rw [L_ne (by omega)]; exact h2 t ht, by rw [L_eq, Nat.zero_min]; rfl⟩ (fun m k z hk hz => Or.inr ?_) (fun m z hz => ?_)
    · obtain ⟨F', g1, g2⟩ := hz
      have hk' : ¬ 8 ≤ k := by omega
      have e44 := g1 k hk
      refine ⟨cm_sL z 43 2 (lka s b (min (k + 1) (nT s))), ⟨F'.sL (by omega), fun t ht => by rw [L_ne (by omega)]; exact g1 t ht, L_eq⟩, ?_⟩
      have ez : lka s b (min k (nT s)) + lkC s b k (nR s) = lka s b (min (k + 1) (nT s)) := by
        unfold lkC
        by_cases z : k < nT s
        · rw [if_pos z, Nat.min_eq_left (by omega), Nat.min_eq_left (by omega)]; rfl
        · rw [if_neg z, Nat.min_eq_right (by omega), Nat.min_eq_right (by omega), Int64.add_zero]
      simp (disch := omega) only [fn_133_116, hk', ↓LCb F'.1, LC F'.1, e44, g2, ez, cm_w2, Nat.reduceLeDiff, Nat.reduceLT, decide_true, Bool.and_self, Bool.and_true, eq_self, Nat.le_refl, Nat.lt_irrefl, some_if, Option.bind_some, Option.bind_none, Option.some.injEq, ↓reduceIte, reduceCtorEq, Bool.false_eq_true, Bool.true_eq_false, not_true_eq_false, not_false_eq_true, cmb0, cmb1, Nat.reduceAdd, Nat.reduceMul, Nat.reduceSub, Nat.add_zero, Bool.not_eq_true, Bool.not_eq_false, Nat.reduceEqDiff, Nat.reduceLeDiff, Nat.reduceLT, Int32.reduceLT, Int32.reduceLE, iin_nI, iin_lit, iin_m1, tn_nI, tn_lit, nI_lm, nI_ml, nI_al, nI_la, nI_add, pk_mul, nI_le_l, nI_l_le, nI_lt_l, nI_l_lt, nI_eq_l, nI_l_eq, nI_eqP, nI_leP, nI_ltP, nI_m1, m1_nI, nI_ll, m1_l, l_m1]
    · obtain ⟨F', g1, g2⟩ := hz
      refine ⟨z, ?_, F', ?_, fun t ht => ?_⟩
      · simp (disch := omega) only [fn_133_116, eq_self, Nat.le_refl, Nat.lt_irrefl, some_if, Option.bind_some, Option.bind_none, Option.some.injEq, ↓reduceIte, reduceCtorEq, Bool.false_eq_true, Bool.true_eq_false, not_true_eq_false, not_false_eq_true, cmb0, cmb1, Nat.reduceAdd, Nat.reduceMul, Nat.reduceSub, Nat.add_zero, Bool.not_eq_true, Bool.not_eq_false, Nat.reduceEqDiff, Nat.reduceLeDiff, Nat.reduceLT, Int32.reduceLT, Int32.reduceLE, iin_nI, iin_lit, iin_m1, tn_nI, tn_lit, nI_lm, nI_ml, nI_al, nI_la, nI_add, pk_mul, nI_le_l, nI_l_le, nI_lt_l, nI_l_lt, nI_eq_l, nI_l_eq, nI_eqP, nI_leP, nI_ltP, nI_m1, m1_nI, nI_ll, m1_l, l_m1]
      · rw [g2, Nat.min_eq_right (by omega)]
      · rw [g1 t (by omega)]; unfold lkC; rw [if_pos ht]
end THINK2
