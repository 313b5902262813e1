/-! the class splits a text into tokens -/
/-- m tokens are told, as far as their values go -/
def TKD (b : Nat → Int32) (n m : Nat) (w : cm_W) : Prop := ∀ j, j < m → cm_I w 5 j = nI (pos b n j) ∧ cm_I w 6 j = nI (kd b n (pos b n j)) ∧ cm_I w 7 j = nI (ln b n (pos b n j)) ∧ cm_L w 8 j = vl b n (pos b n j)
/-- all tokens -/
def TK (b : Nat → Int32) (n m : Nat) (w : cm_W) : Prop := cm_I w 4 5 = nI m ∧ (1 ≤ m ∧ m ≤ 901) ∧ pos b n (m - 1) = n ∧ (∀ j, j + 1 < m → pos b n j < n) ∧ TKD b n m w ∧ ∀ j, j < m → cm_I w 9 j = wd b n (pos b n j)
/-- only the tokens' rows are written -/
def FTk (v c : Nat) (w y : cm_W) : Prop := Lay v c y ∧ (∀ a, a < 4 ∨ 9 < a → cm_I y a = cm_I w a ∧ cm_L y a = cm_L w a) ∧ ∀ j, j ≠ 5 → cm_I y 4 j = cm_I w 4 j
section SPLIT
variable {v c n m q k : Nat} {b : Nat → Int32} {w w' w'' y : cm_W}
theorem FTk.rf (L : Lay v c w) : FTk v c w w := ⟨L, fun _ _ => ⟨rfl, rfl⟩, fun _ _ => rfl⟩
theorem FTk.tr (h : FTk v c w w') (h2 : FTk v c w' w'') : FTk v c w w'' := ⟨h2.1, fun a ha => ⟨(h2.2.1 a ha).1.trans (h.2.1 a ha).1, (h2.2.1 a ha).2.trans (h.2.1 a ha).2⟩, fun j hj => (h2.2.2 j hj).trans (h.2.2 j hj)⟩
theorem FTk.sI (h : FTk v c w y) {a k : Nat} {x : Int32} (ha : 5 ≤ a ∧ a ≤ 9 ∨ a = 4 ∧ k = 5) : FTk v c w (cm_sI y a k x) := ⟨h.1, fun b hb => ⟨by
  funext j; rw [I_ne (by omega)]; rw [(h.2.1 b hb).1], (h.2.1 b hb).2⟩, fun j hj => by rw [I_if, if_neg (by omega)]; exact h.2.2 j hj⟩
theorem FTk.sL (h : FTk v c w y) {a k : Nat} {x : Int64} (ha : 5 ≤ a ∧ a ≤ 9) : FTk v c w (cm_sL y a k x) := ⟨h.1.sL (by omega), fun b hb => ⟨(h.2.1 b hb).1, by
  funext j; rw [L_ne (by omega)]; rw [(h.2.1 b hb).2]⟩, h.2.2⟩
/-- a token begins -/
theorem t58 (L : Lay v c w) (e : cm_I w 4 5 = nI m) (hm : m < 901) (i1 i2 : Int32) : ∃ y, fn_58 4 i1 i2 w = some y ∧ FTk v c w y ∧ cm_I y 4 5 = nI (m + 1) ∧ cm_I y 5 m = i1 ∧ cm_I y 6 m = i2 ∧ cm_I y 7 m = 0 ∧ cm_L y 8 m = 0 ∧ ∀ j, j ≠ m → cm_I y 5 j = cm_I w 5 j ∧ cm_I y 6 j = cm_I w 6 j ∧ cm_I y 7 j = cm_I w 7 j ∧ cm_L y 8 j = cm_L w 8 j := by
  have nn : ¬ Int32.ofNat 901 ≤ nI m := fun z => by
    have := (nI_leI (a := 901) (b := m) (by omega) (by omega)).mp z
    omega
  refine ⟨cm_sI (cm_sL (cm_sI (cm_sI (cm_sI w 5 m i1) 6 m i2) 7 m 0) 8 m 0) 4 5 (nI (m + 1)), ?_, (((((FTk.rf L).sI (by omega)).sI (by omega)).sI (by omega)).sL (by omega)).sI (by omega), I_eq, ?_, ?_, ?_, ?_, fun j hj => ⟨?_, ?_, ?_, ?_⟩⟩
  · simp (disch := omega) only [fn_58, ↓LDb L, LD L, e, nn, R_sI, R_sL, ga_sI, ga_sL, I_ne, I_sL, cm_w2, Nat.reduceLeDiff, Nat.reduceLT, decide_true, Bool.and_self, Bool.and_true, eq_self, Nat.le_refl, Nat.lt_irrefl, some_if, Option.bind_some, Option.bind_none, Option.some.injEq, ↓reduceIte, reduceCtorEq, Bool.false_eq_true, Bool.true_eq_false, not_true_eq_false, not_false_eq_true, cmb0, cmb1, Nat.reduceAdd, Nat.reduceMul, Nat.reduceSub, Nat.add_zero, Bool.not_eq_true, Bool.not_eq_false, Nat.reduceEqDiff, Nat.reduceLeDiff, Nat.reduceLT, Int32.reduceLT, Int32.reduceLE, iin_nI, iin_lit, iin_m1, tn_nI, tn_lit, nI_lm, nI_ml, nI_al, nI_la, nI_add, pk_mul, nI_le_l, nI_l_le, nI_lt_l, nI_l_lt, nI_eq_l, nI_l_eq, nI_eqP, nI_leP, nI_ltP, nI_m1, m1_nI, nI_ll, m1_l, l_m1]
  · rw [I_ne (by omega), I_sL, I_ne (by omega), I_ne (by omega), I_eq]
  · rw [I_ne (by omega), I_sL, I_ne (by omega), I_eq]
  · rw [I_ne (by omega), I_sL, I_eq]
  · rw [L_sI, L_eq]
  · rw [I_ne (by omega), I_sL, I_ne (by omega), I_ne (by omega), I_nk hj]
  · rw [I_ne (by omega), I_sL, I_ne (by omega), I_nk hj, I_ne (by omega)]
  · rw [I_ne (by omega), I_sL, I_nk hj, I_ne (by omega), I_ne (by omega)]
  · rw [L_sI, L_nk hj]; rfl
/-- a token grows -/
theorem t59 (L : Lay v c w) (e : cm_I w 4 5 = nI (m + 1)) (hm : m < 901) {c0 p l : Nat} (hc : cm_I w 6 m = nI c0) (hc0 : c0 < 5) (hl : cm_I w 7 m = nI l) (hll : l < 10000) (hv : cm_L w 8 m = vs b c0 p l) : ∃ y, fn_59 4 (b (p + l)) w = some y ∧ FTk v c w y ∧ cm_I y 4 5 = nI (m + 1) ∧ cm_I y 5 m = cm_I w 5 m ∧ cm_I y 6 m = cm_I w 6 m ∧ cm_I y 7 m = nI (l + 1) ∧ cm_L y 8 m = vs b c0 p (l + 1) ∧ ∀ j, j ≠ m → cm_I y 5 j = cm_I w 5 j ∧ cm_I y 6 j = cm_I w 6 j ∧ cm_I y 7 j = cm_I w 7 j ∧ cm_L y 8 j = cm_L w 8 j := by
  have sb : nI (m + 1) - 1 = nI m := nI_pred m
  have n0 : ¬ nI m < 0 := nI_pos (by omega)
  have st : vs b c0 p (l + 1) = if c0 = 2 then vs b c0 p l * 10 + (b (p + l) - 48).toInt64 else (vs b c0 p l <<< (Int32.toInt64 (8 : Int32) &&& 63)) ||| (b (p + l) &&& (255 : Int32)).toInt64 := rfl
  refine ⟨cm_sL (cm_sI w 7 m (nI (l + 1))) 8 m (vs b c0 p (l + 1)), ?_, ((FTk.rf L).sI (by omega)).sL (by omega), ?_, ?_, ?_, ?_, L_eq, fun j hj => ⟨?_, ?_, ?_, ?_⟩⟩
  · rw [st]
    by_cases z : c0 = 2
    · subst z
      rw [if_pos rfl]
      simp (disch := omega) only [fn_59, ↓LDb L, LD L, e, sb, n0, hl, hc, R_sI, ga_sI, I_ne, L_sI, hv, cm_w2, Nat.reduceLeDiff, Nat.reduceLT, decide_true, Bool.and_self, Bool.and_true, eq_self, Nat.le_refl, Nat.lt_irrefl, some_if, Option.bind_some, Option.bind_none, Option.some.injEq, ↓reduceIte, reduceCtorEq, Bool.false_eq_true, Bool.true_eq_false, not_true_eq_false, not_false_eq_true, cmb0, cmb1, Nat.reduceAdd, Nat.reduceMul, Nat.reduceSub, Nat.add_zero, Bool.not_eq_true, Bool.not_eq_false, Nat.reduceEqDiff, Nat.reduceLeDiff, Nat.reduceLT, Int32.reduceLT, Int32.reduceLE, iin_nI, iin_lit, iin_m1, tn_nI, tn_lit, nI_lm, nI_ml, nI_al, nI_la, nI_add, pk_mul, nI_le_l, nI_l_le, nI_lt_l, nI_l_lt, nI_eq_l, nI_l_eq, nI_eqP, nI_leP, nI_ltP, nI_m1, m1_nI, nI_ll, m1_l, l_m1]
    · rw [if_neg z]
      rw [fn_59, if_pos (LD L).1, e, sb, if_neg n0]
      generalize hX : (Int32.toInt64 (8 : Int32) &&& 63) = X
      simp (disch := omega) only [↓LDb L, LD L, hl, hc, z, R_sI, ga_sI, I_ne, L_sI, hv, cm_w2, Nat.reduceLeDiff, Nat.reduceLT, decide_true, Bool.and_self, Bool.and_true, eq_self, Nat.le_refl, Nat.lt_irrefl, some_if, Option.bind_some, Option.bind_none, Option.some.injEq, ↓reduceIte, reduceCtorEq, Bool.false_eq_true, Bool.true_eq_false, not_true_eq_false, not_false_eq_true, cmb0, cmb1, Nat.reduceAdd, Nat.reduceMul, Nat.reduceSub, Nat.add_zero, Bool.not_eq_true, Bool.not_eq_false, Nat.reduceEqDiff, Nat.reduceLeDiff, Nat.reduceLT, Int32.reduceLT, Int32.reduceLE, iin_nI, iin_lit, iin_m1, tn_nI, tn_lit, nI_lm, nI_ml, nI_al, nI_la, nI_add, pk_mul, nI_le_l, nI_l_le, nI_lt_l, nI_l_lt, nI_eq_l, nI_l_eq, nI_eqP, nI_leP, nI_ltP, nI_m1, m1_nI, nI_ll, m1_l, l_m1]
  · rw [I_sL, I_ne (by omega)]; exact e
  · rw [I_sL, I_ne (by omega)]
  · rw [I_sL, I_ne (by omega)]
  · rw [I_sL, I_eq]
  · rw [I_sL, I_ne (by omega)]
  · rw [I_sL, I_ne (by omega)]
  · rw [I_sL, I_nk hj]
  · rw [L_nk hj]; rfl
end SPLIT
