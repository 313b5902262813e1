/-! fill: what one's own things bring under a law -/
def flv (s : St) (l p m t : Nat) : Nat := if (mkt s l (nI p) (nI t) m).rest ≠ 0 ∧ (mkt s l (nI p) (nI t) m).sold ((mkt s l (nI p) (nI t) m).rest - 1) t = true then (mkt s l (nI p) (nI t) m).rest - 1 - kn s m t else 0
def flt (s : St) (l p m : Nat) : Nat → Nat
  | 0 => 0
  | t + 1 => if tn (s 107 (8 * p + t)) = 0 then flt s l p m t else if flt s l p m t = 0 then t + 1 else if flv s l p m t ≤ flv s l p m (flt s l p m t - 1) then flt s l p m t else t + 1
section FILL
variable {v c u n m l p q d : Nat} {w w' : cm_W} {s s' : St} {M : Mk}
theorem flt_le : ∀ k, flt s l p m k ≤ k := by
  intro k
  induction k with
  | zero => exact Nat.le_refl _
  | succ k ih =>
    show (if _ then flt s l p m k else if _ then k + 1 else if _ then flt s l p m k else k + 1) ≤ k + 1
    split
    · exact Nat.le_succ_of_le ih
    · split
      · exact Nat.le_refl _
      · split
        · exact Nat.le_succ_of_le ih
        · exact Nat.le_refl _
theorem flv_lt (t : Nat) : flv s l p m t < 1000 := by
  have rl : (mkt s l (nI p) (nI t) m).rest ≤ 1000 := (mkt s l (nI p) (nI t) m).scan_le 1000
  unfold flv
  split <;> omega
theorem c53 (L : Lay v c w) (hv : v = 10 ∨ v = 20) (V : VilC w v s) (I : InvV s) (hl : l < 4) (hm : m < 6) {t : Nat} (ht : t < nT s) : ∃ y, fn_53 51 v (nI l) (nI p) (nI t) (nI m) w = some (nI (flv s l p m t), y) ∧ FC v c w y := by
  have hT := I.1
  have hl' : l < 2 ∨ l < 4 ∧ ∃ t0, t0 < nT s ∧ nI t = nI t0 := Or.inr ⟨hl, t, ht, rfl⟩
  have O := mkt_ok I (l := l) (m := m) (i := nI p) (j := nI t) hm
  obtain ⟨y1, y, a1, F1, a2, F, K⟩ := c_mkt L hv V I (l := l) (i := nI p) (j := nI t) hl' hm
  have a3 := c40 F.1 K O
  refine ⟨y, ?_, F⟩
  have h1 := hasT L hv V I (nI t)
  have t8 : t < 8 := by omega
  have e0 : fn_53 51 v (nI l) (nI p) (nI t) (nI m) w = fn_53_21 51 v (nI l) (nI p) (nI t) (nI m) w := by
    simp (disch := omega) only [fn_53, ↓LVb L hv, LV L hv, h1, t8, eq_self, Nat.le_refl, Nat.lt_irrefl, some_if, Option.bind_some, Option.bind_none, Option.some.injEq, ↓reduceIte, reduceCtorEq, Bool.false_eq_true, Bool.true_eq_false, not_true_eq_false, not_false_eq_true, cmb0, cmb1, Nat.reduceAdd, Nat.reduceMul, Nat.reduceSub, Nat.add_zero, Bool.not_eq_true, Bool.not_eq_false, Nat.reduceEqDiff, Nat.reduceLeDiff, Nat.reduceLT, Int32.reduceLT, Int32.reduceLE, iin_nI, iin_lit, iin_m1, tn_nI, tn_lit, nI_lm, nI_ml, nI_al, nI_la, nI_add, pk_mul, nI_le_l, nI_l_le, nI_lt_l, nI_l_lt, nI_eq_l, nI_l_eq, nI_eqP, nI_leP, nI_ltP, nI_m1, m1_nI, nI_ll, m1_l, l_m1]
  rw [e0]
  unfold flv
  have kk : (mkt s l (nI p) (nI t) m).K t = kn s m t := rfl
  have k2 := (K.2 t ht).2
  rw [kk] at k2
  generalize mkt s l (nI p) (nI t) m = M at *
  have rl : M.rest ≤ 1000 := M.scan_le 1000
  by_cases z : M.rest = 0
  · have e38 := c38m F.1 K O (t := t) t8
    have r1 : rp M = -1 := if_pos z
    rw [if_neg (fun h => h.1 z)]
    rw [r1] at a3
    simp (disch := omega) only [fn_53_21, LC L, a1, LC F1.1, a2, LC F.1, a3, e38, eq_self, Nat.le_refl, Nat.lt_irrefl, some_if, Option.bind_some, Option.bind_none, Option.some.injEq, ↓reduceIte, reduceCtorEq, Bool.false_eq_true, Bool.true_eq_false, not_true_eq_false, not_false_eq_true, cmb0, cmb1, Nat.reduceAdd, Nat.reduceMul, Nat.reduceSub, Nat.add_zero, Bool.not_eq_true, Bool.not_eq_false, Nat.reduceEqDiff, Nat.reduceLeDiff, Nat.reduceLT, Int32.reduceLT, Int32.reduceLE, iin_nI, iin_lit, iin_m1, tn_nI, tn_lit, nI_lm, nI_ml, nI_al, nI_la, nI_add, pk_mul, nI_le_l, nI_l_le, nI_lt_l, nI_l_lt, nI_eq_l, nI_l_eq, nI_eqP, nI_leP, nI_ltP, nI_m1, m1_nI, nI_ll, m1_l, l_m1]
    rfl
  · have e38 := c38 F.1 K O (t := t) (q := M.rest - 1) t8 (by omega)
    have r1 : rp M = nI (M.rest - 1) := if_neg z
    rw [r1] at a3
    cases z2 : M.sold (M.rest - 1) t
    · rw [z2] at e38
      rw [if_neg (fun h => by cases h.2)]
      simp (disch := omega) only [fn_53_21, LC L, a1, LC F1.1, a2, LC F.1, a3, e38, eq_self, Nat.le_refl, Nat.lt_irrefl, some_if, Option.bind_some, Option.bind_none, Option.some.injEq, ↓reduceIte, reduceCtorEq, Bool.false_eq_true, Bool.true_eq_false, not_true_eq_false, not_false_eq_true, cmb0, cmb1, Nat.reduceAdd, Nat.reduceMul, Nat.reduceSub, Nat.add_zero, Bool.not_eq_true, Bool.not_eq_false, Nat.reduceEqDiff, Nat.reduceLeDiff, Nat.reduceLT, Int32.reduceLT, Int32.reduceLE, iin_nI, iin_lit, iin_m1, tn_nI, tn_lit, nI_lm, nI_ml, nI_al, nI_la, nI_add, pk_mul, nI_le_l, nI_l_le, nI_lt_l, nI_l_lt, nI_eq_l, nI_l_eq, nI_eqP, nI_leP, nI_ltP, nI_m1, m1_nI, nI_ll, m1_l, l_m1]
      rfl
    · rw [z2] at e38
      have le : kn s m t ≤ M.rest - 1 := by
        have := (of_decide_eq_true z2).2
        rw [kk] at this
        exact this
      rw [if_pos ⟨z, rfl⟩, ← pk_sub le]
      simp (disch := omega) only [fn_53_21, LC L, a1, LC F1.1, a2, ↓LCb F.1, LC F.1, a3, e38, k2, eq_self, Nat.le_refl, Nat.lt_irrefl, some_if, Option.bind_some, Option.bind_none, Option.some.injEq, ↓reduceIte, reduceCtorEq, Bool.false_eq_true, Bool.true_eq_false, not_true_eq_false, not_false_eq_true, cmb0, cmb1, Nat.reduceAdd, Nat.reduceMul, Nat.reduceSub, Nat.add_zero, Bool.not_eq_true, Bool.not_eq_false, Nat.reduceEqDiff, Nat.reduceLeDiff, Nat.reduceLT, Int32.reduceLT, Int32.reduceLE, iin_nI, iin_lit, iin_m1, tn_nI, tn_lit, nI_lm, nI_ml, nI_al, nI_la, nI_add, pk_mul, nI_le_l, nI_l_le, nI_lt_l, nI_l_lt, nI_eq_l, nI_l_eq, nI_eqP, nI_leP, nI_ltP, nI_m1, m1_nI, nI_ll, m1_l, l_m1]
end FILL
