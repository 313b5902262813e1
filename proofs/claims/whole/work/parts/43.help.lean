/-! the small helpers of both, by the logical state -/
def wo (s : St) (t : Nat) (m : Int32) : Int32 := if (0 : Int32) < s 100 t - s 103 t * m then s 100 t - s 103 t * m else 0
def ko (s : St) (t : Nat) (m : Int32) : Int32 := wo s t m * s 96 5 / 10
/-- the class's: behind the things too -/
def cwo (s : St) (t : Nat) (m : Int32) : Int32 := if t < nT s then wo s t m else if (0 : Int32) < -1 - -1 * m then -1 - -1 * m else 0
def cko (s : St) (t : Nat) (m : Int32) : Int32 := cwo s t m * s 96 5 / 10
section HELP
variable {v c u : Nat} {w : cm_W} {s : St}
theorem fup0 {α : Type} {f : Nat → α → α} {a : α} : fup f a 0 = a := rfl
theorem bmon {w : cm_W} (i : Int32) : fn_143 w i = some (cm_iin i 6) := isIn_lit w i 5 (by decide)
theorem mmon {w : cm_W} {a : Nat} (i : Int32) (L : Lay v c w) : fn_226 w i = some (cm_iin i 6) := by
  unfold fn_226
  rw [isIn_lit w i 5 (by decide)]; rfl
theorem mlaw {w : cm_W} (i : Int32) : fn_267 w i = some (cm_iin i 4) := by
  unfold fn_267
  rw [isIn_lit w i 3 (by decide)]; rfl
theorem claw (w : cm_W) (i : Int32) : fn_172 w i = some (cm_iin i 4) := by
  unfold fn_172
  rcases iin_cs i (n := 4) (by omega) with h | ⟨k, hk, rfl⟩
  · rcases iin_f h (by omega) with h' | h'
    · rw [if_pos h', h]
    · by_cases h2 : i < 0
      · rw [if_pos h2, h]
      · rw [if_neg h2, if_pos (show (4 : Int32) ≤ i from h'), h]
  · rw [if_neg (nI_pos (by omega)), if_neg (show ¬ (4 : Int32) ≤ nI k from nI_ge hk (by decide)), iin_nI hk (by omega)]
theorem cpri (w : cm_W) (i : Int32) : fn_178 w i = some (cm_iin i 1000) := isIn_lit w i 999 (by decide)
-- the reference
theorem m222 (L : Lay v c w) (M : RelM w s) {t : Nat} (ht : t < 8) (m : Int32) : fn_222 w 96 (nI t) m = some (wo s t m) := by
  unfold fn_222
  simp (disch := omega) only [LM L, RM M, some_if, Option.bind_some, Option.bind_none, Option.some.injEq, ↓reduceIte, reduceCtorEq, Bool.false_eq_true, Bool.true_eq_false, not_true_eq_false, not_false_eq_true, cmb0, cmb1, Nat.reduceAdd, Nat.reduceMul, Nat.reduceSub, Nat.add_zero, Bool.not_eq_true, Bool.not_eq_false, Nat.reduceEqDiff, Nat.reduceLeDiff, Nat.reduceLT, Int32.reduceLT, Int32.reduceLE, iin_nI, iin_lit, iin_m1, tn_nI, tn_lit, nI_lm, nI_ml, nI_al, nI_la, nI_add, pk_mul, nI_le_l, nI_l_le, nI_lt_l, nI_l_lt, nI_eq_l, nI_l_eq, nI_eqP, nI_leP, nI_ltP, nI_m1, m1_nI, nI_ll, m1_l, l_m1]
  rfl
theorem m223 (L : Lay v c w) (M : RelM w s) {t : Nat} (ht : t < 8) (m : Int32) : fn_223 w 96 (nI t) m = some (ko s t m) := by
  unfold fn_223
  simp (disch := omega) only [LM L, RM M, m222 L M ht, some_if, Option.bind_some, Option.bind_none, Option.some.injEq, ↓reduceIte, reduceCtorEq, Bool.false_eq_true, Bool.true_eq_false, not_true_eq_false, not_false_eq_true, cmb0, cmb1, Nat.reduceAdd, Nat.reduceMul, Nat.reduceSub, Nat.add_zero, Bool.not_eq_true, Bool.not_eq_false, Nat.reduceEqDiff, Nat.reduceLeDiff, Nat.reduceLT, Int32.reduceLT, Int32.reduceLE, iin_nI, iin_lit, iin_m1, tn_nI, tn_lit, nI_lm, nI_ml, nI_al, nI_la, nI_add, pk_mul, nI_le_l, nI_l_le, nI_lt_l, nI_l_lt, nI_eq_l, nI_l_eq, nI_eqP, nI_leP, nI_ltP, nI_m1, m1_nI, nI_ll, m1_l, l_m1]
  rfl
theorem m228 (L : Lay v c w) (M : RelM w s) {p t : Nat} (hp : p < 12) (ht : t < 8) : fn_228 w 96 (nI p) (nI t) = some (s 107 (8 * p + t)) := by
  unfold fn_228
  simp (disch := omega) only [LM L, RM M, some_if, Option.bind_some, Option.bind_none, Option.some.injEq, ↓reduceIte, reduceCtorEq, Bool.false_eq_true, Bool.true_eq_false, not_true_eq_false, not_false_eq_true, cmb0, cmb1, Nat.reduceAdd, Nat.reduceMul, Nat.reduceSub, Nat.add_zero, Bool.not_eq_true, Bool.not_eq_false, Nat.reduceEqDiff, Nat.reduceLeDiff, Nat.reduceLT, Int32.reduceLT, Int32.reduceLE, iin_nI, iin_lit, iin_m1, tn_nI, tn_lit, nI_lm, nI_ml, nI_al, nI_la, nI_add, pk_mul, nI_le_l, nI_l_le, nI_lt_l, nI_l_lt, nI_eq_l, nI_l_eq, nI_eqP, nI_leP, nI_ltP, nI_m1, m1_nI, nI_ll, m1_l, l_m1]
theorem m229 (L : Lay v c w) (M : RelM w s) (I : InvV s) {p : Nat} (hp : p < 12) : fn_229 w 96 (nI p) = some (shs s p) := by
  have hT := I.1
  refine up_f (fun m k a => fn_229_4 w m 96 (nI p) a (nI k)) (nT s) (fun t a => a + s 107 (8 * p + t)) 0 _ (by omega) (fun m k a hk => ?_) (fun m => ?_)
  · simp (disch := omega) only [fn_229_4, LM L, RM M, hT.1, m228 L M hp, some_if, Option.bind_some, Option.bind_none, Option.some.injEq, ↓reduceIte, reduceCtorEq, Bool.false_eq_true, Bool.true_eq_false, not_true_eq_false, not_false_eq_true, cmb0, cmb1, Nat.reduceAdd, Nat.reduceMul, Nat.reduceSub, Nat.add_zero, Bool.not_eq_true, Bool.not_eq_false, Nat.reduceEqDiff, Nat.reduceLeDiff, Nat.reduceLT, Int32.reduceLT, Int32.reduceLE, iin_nI, iin_lit, iin_m1, tn_nI, tn_lit, nI_lm, nI_ml, nI_al, nI_la, nI_add, pk_mul, nI_le_l, nI_l_le, nI_lt_l, nI_l_lt, nI_eq_l, nI_l_eq, nI_eqP, nI_leP, nI_ltP, nI_m1, m1_nI, nI_ll, m1_l, l_m1]
    rw [if_neg (by omega)]
  · simp (disch := omega) only [fn_229_4, LM L, RM M, hT.1, some_if, Option.bind_some, Option.bind_none, Option.some.injEq, ↓reduceIte, reduceCtorEq, Bool.false_eq_true, Bool.true_eq_false, not_true_eq_false, not_false_eq_true, cmb0, cmb1, Nat.reduceAdd, Nat.reduceMul, Nat.reduceSub, Nat.add_zero, Bool.not_eq_true, Bool.not_eq_false, Nat.reduceEqDiff, Nat.reduceLeDiff, Nat.reduceLT, Int32.reduceLT, Int32.reduceLE, iin_nI, iin_lit, iin_m1, tn_nI, tn_lit, nI_lm, nI_ml, nI_al, nI_la, nI_add, pk_mul, nI_le_l, nI_l_le, nI_lt_l, nI_l_lt, nI_eq_l, nI_l_eq, nI_eqP, nI_leP, nI_ltP, nI_m1, m1_nI, nI_ll, m1_l, l_m1]
    simp; rfl
theorem mThing (L : Lay v c w) (M : RelM w s) (I : InvV s) (i : Int32) : fn_224 w 96 i = some (cm_iin i (nT s)) := by
  have hT := I.1
  unfold fn_224
  simp only [LM L, RM M, hT.1, isIn_ok w i (n := nT s) (by omega), some_if, Option.bind_some, Option.bind_none, Option.some.injEq, ↓reduceIte, reduceCtorEq, Bool.false_eq_true, Bool.true_eq_false, not_true_eq_false, not_false_eq_true, cmb0, cmb1, Nat.reduceAdd, Nat.reduceMul, Nat.reduceSub, Nat.add_zero, Bool.not_eq_true, Bool.not_eq_false, Nat.reduceEqDiff, Nat.reduceLeDiff, Nat.reduceLT, Int32.reduceLT, Int32.reduceLE]
theorem mWho (L : Lay v c w) (M : RelM w s) (I : InvV s) (i : Int32) : fn_225 w 96 i = some (cm_iin i (nP s)) := by
  have hT := I.2.1
  unfold fn_225
  simp only [LM L, RM M, hT.1, isIn_ok w i (n := nP s) (by omega), some_if, Option.bind_some, Option.bind_none, Option.some.injEq, ↓reduceIte, reduceCtorEq, Bool.false_eq_true, Bool.true_eq_false, not_true_eq_false, not_false_eq_true, cmb0, cmb1, Nat.reduceAdd, Nat.reduceMul, Nat.reduceSub, Nat.add_zero, Bool.not_eq_true, Bool.not_eq_false, Nat.reduceEqDiff, Nat.reduceLeDiff, Nat.reduceLT, Int32.reduceLT, Int32.reduceLE]
theorem mBox (L : Lay v c w) (M : RelM w s) (I : InvS s) (i : Int32) : fn_233 w 96 i = some (cm_iin i (nB s)) := by
  have hT := I.2.1
  unfold fn_233
  simp only [LM L, RM M, hT.1, isIn_ok w i (n := nB s) (by omega), some_if, Option.bind_some, Option.bind_none, Option.some.injEq, ↓reduceIte, reduceCtorEq, Bool.false_eq_true, Bool.true_eq_false, not_true_eq_false, not_false_eq_true, cmb0, cmb1, Nat.reduceAdd, Nat.reduceMul, Nat.reduceSub, Nat.add_zero, Bool.not_eq_true, Bool.not_eq_false, Nat.reduceEqDiff, Nat.reduceLeDiff, Nat.reduceLT, Int32.reduceLT, Int32.reduceLE]
theorem mAhead (L : Lay v c w) (M : RelM w s) (I : InvS s) : fn_234 w 96 = some (decide (nM s < 5)) := by
  have hT := I.1
  unfold fn_234
  simp (disch := omega) only [LM L, RM M, hT.1, some_if, Option.bind_some, Option.bind_none, Option.some.injEq, ↓reduceIte, reduceCtorEq, Bool.false_eq_true, Bool.true_eq_false, not_true_eq_false, not_false_eq_true, cmb0, cmb1, Nat.reduceAdd, Nat.reduceMul, Nat.reduceSub, Nat.add_zero, Bool.not_eq_true, Bool.not_eq_false, Nat.reduceEqDiff, Nat.reduceLeDiff, Nat.reduceLT, Int32.reduceLT, Int32.reduceLE, iin_nI, iin_lit, iin_m1, tn_nI, tn_lit, nI_lm, nI_ml, nI_al, nI_la, nI_add, pk_mul, nI_le_l, nI_l_le, nI_lt_l, nI_l_lt, nI_eq_l, nI_l_eq, nI_eqP, nI_leP, nI_ltP, nI_m1, m1_nI, nI_ll, m1_l, l_m1]
  by_cases h : 5 ≤ nM s
  · rw [if_pos h]; simp; omega
  · rw [if_neg h]; simp; omega
-- the class
theorem hasT (L : Lay v c w) (hu : u = 10 ∨ u = 20) (V : VilC w u s) (I : InvV s) (i : Int32) : fn_7 w (u + 2) i = some (cm_iin i (nT s)) := has_ok (by simp only [LV L hu]) (V.1.1.trans I.1.1) (by have := I.1.2; omega) i
theorem hasP (L : Lay v c w) (hu : u = 10 ∨ u = 20) (V : VilC w u s) (I : InvV s) (i : Int32) : fn_7 w (u + 5) i = some (cm_iin i (nP s)) := has_ok (by simp only [LV L hu]) (V.1.2.1.trans I.2.1.1) (by have := I.2.1.2; omega) i
theorem hasB (L : Lay v c w) (V : StC w 30 s) (I : InvS s) (i : Int32) : fn_7 w 31 i = some (cm_iin i (nB s)) := has_ok (by simp only [LSt L]) (V.1.1.trans I.2.1.1) (by have := I.2.1.2; omega) i
theorem getT (L : Lay v c w) (hu : u = 10 ∨ u = 20) (V : VilC w u s) (I : InvV s) {t k : Nat} (ht : t < nT s) (hk : (OfNat.ofNat k : Nat) < 4) : fn_1 w (u + 2) (nI t) (no_index (OfNat.ofNat k)) = some (s (100 + (OfNat.ofNat k : Nat)) t) := by
  have hT := I.1
  refine (get_in (W := 4) (n := nT s) (N := 32) (ce := u + 3) (by simp only [LV L hu]) (by simp only [LV L hu]) (by intro i; simp only [LV L hu]) V.2.1.1 (V.1.1.trans I.1.1) (by omega) (by omega) (by omega) ht (by omega) hk).trans (congrArg some (V.2.2.1 t ht k hk))
theorem getTo (L : Lay v c w) (hu : u = 10 ∨ u = 20) (V : VilC w u s) (I : InvV s) {i j : Int32} (hi : cm_iin i (nT s) = false) : fn_1 w (u + 2) i j = some (-1) := get_out (by simp only [LV L hu]) (V.1.1.trans I.1.1) hi (by have := I.1.2; omega)
theorem getPo (L : Lay v c w) (hu : u = 10 ∨ u = 20) (V : VilC w u s) (I : InvV s) {i j : Int32} (hi : cm_iin i (nP s) = false) : fn_1 w (u + 5) i j = some (-1) := get_out (by simp only [LV L hu]) (V.1.2.1.trans I.2.1.1) hi (by have := I.2.1.2; omega)
theorem getP (L : Lay v c w) (hu : u = 10 ∨ u = 20) (V : VilC w u s) (I : InvV s) {p : Nat} (hp : p < nP s) : fn_1 w (u + 5) (nI p) 0 = some (s 104 p) ∧ fn_1 w (u + 5) (nI p) 1 = some (s 111 p) ∧ fn_1 w (u + 5) (nI p) 2 = some (shs s p) := by
  have hP := I.2.1
  have h : ∀ k, k < 3 → fn_1 w (u + 5) (nI p) (nI k) = some (cm_I w (u + 6) (3 * p + k)) := fun k hk => get_in (W := 3) (n := nP s) (N := 36) (ce := u + 6) (by simp only [LV L hu]) (by simp only [LV L hu]) (by intro i; simp only [LV L hu]) V.2.1.2.1 (V.1.2.1.trans I.2.1.1) (by omega) (by omega) (by omega) hp (by omega) hk
  obtain ⟨h0, h1, h2⟩ := V.2.2.2.1 p hp
  exact ⟨(h 0 (by omega)).trans (congrArg some h0), (h 1 (by omega)).trans (congrArg some h1), (h 2 (by omega)).trans (congrArg some h2)⟩
theorem getQ (L : Lay v c w) (hu : u = 10 ∨ u = 20) (V : VilC w u s) (I : InvV s) {q k : Nat} (hq : q < nQ s) (hk : (OfNat.ofNat k : Nat) < 3) : fn_1 w (u + 8) (nI q) (no_index (OfNat.ofNat k)) = some (s (108 + (OfNat.ofNat k : Nat)) q) := by
  have hQ := I.2.2.1
  refine (get_in (W := 3) (n := nQ s) (N := 18) (ce := u + 9) (by simp only [LV L hu]) (by simp only [LV L hu]) (by intro i; simp only [LV L hu]) V.2.1.2.2 (V.1.2.2.1.trans I.2.2.1.1) (by omega) (by omega) (by omega) hq (by omega) hk).trans (congrArg some (V.2.2.2.2.2 q hq k hk))
theorem getB (L : Lay v c w) (V : StC w 30 s) (I : InvS s) {b k : Nat} (hb : b < nB s) (hk : (OfNat.ofNat k : Nat) < 6) : fn_1 w 31 (nI b) (no_index (OfNat.ofNat k)) = some (s (114 + (OfNat.ofNat k : Nat)) b) := by
  have hB := I.2.1
  refine (get_in (W := 6) (n := nB s) (N := 240) (ce := 32) (by simp only [LSt L]) (by simp only [LSt L]) (by intro i; simp only [LSt L]) V.2.1.1 (V.1.1.trans I.2.1.1) (by omega) (by omega) (by omega) hb (by omega) hk).trans (congrArg some (V.2.2.1 b hb k hk))
theorem getBo (L : Lay v c w) (V : StC w 30 s) (I : InvS s) {i j : Int32} (hi : cm_iin i (nB s) = false) : fn_1 w 31 i j = some (-1) := get_out (by simp only [LSt L]) (V.1.1.trans I.2.1.1) hi (by have := I.2.1.2; omega)
theorem getR (L : Lay v c w) (V : StC w 30 s) (I : InvS s) {r k : Nat} (hr : r < nR s) (hk : (OfNat.ofNat k : Nat) < 7) : fn_1 w 33 (nI r) (no_index (OfNat.ofNat k)) = some (s 122 (7 * r + rcl (OfNat.ofNat k : Nat))) := by
  have hB := I.2.2.1
  refine (get_in (W := 7) (n := nR s) (N := 2100) (ce := 34) (by simp only [LSt L]) (by simp only [LSt L]) (by intro i; simp only [LSt L]) V.2.1.2.1 (V.1.2.1.trans I.2.2.1.1) (by omega) (by omega) (by omega) hr (by omega) hk).trans (congrArg some (V.2.2.2.1 r hr k hk))
theorem getRo (L : Lay v c w) (V : StC w 30 s) (I : InvS s) {i j : Int32} (hi : cm_iin i (nR s) = false) : fn_1 w 33 i j = some (-1) := get_out (by simp only [LSt L]) (V.1.2.1.trans I.2.2.1.1) hi (by have := I.2.2.1.2; omega)
theorem getL (L : Lay v c w) (V : StC w 30 s) (I : InvS s) {l k : Nat} (hl : l < nL s) (hk : (OfNat.ofNat k : Nat) < 6) : fn_1 w 35 (nI l) (no_index (OfNat.ofNat k)) = some (s (124 + (OfNat.ofNat k : Nat)) l) := by
  have hB := I.2.2.2.1
  refine (get_in (W := 6) (n := nL s) (N := 120) (ce := 36) (by simp only [LSt L]) (by simp only [LSt L]) (by intro i; simp only [LSt L]) V.2.1.2.2.1 (V.1.2.2.1.trans I.2.2.2.1.1) (by omega) (by omega) (by omega) hl (by omega) hk).trans (congrArg some (V.2.2.2.2.1 l hl k hk))
theorem getLo (L : Lay v c w) (V : StC w 30 s) (I : InvS s) {i j : Int32} (hi : cm_iin i (nL s) = false) : fn_1 w 35 i j = some (-1) := get_out (by simp only [LSt L]) (V.1.2.2.1.trans I.2.2.2.1.1) hi (by have := I.2.2.2.1.2; omega)
theorem getK (L : Lay v c w) (V : StC w 30 s) (I : InvS s) {l k : Nat} (hl : l < nK s) (hk : (OfNat.ofNat k : Nat) < 4) : fn_1 w 37 (nI l) (no_index (OfNat.ofNat k)) = some (s (130 + (OfNat.ofNat k : Nat)) l) := by
  have hB := I.2.2.2.2.1
  refine (get_in (W := 4) (n := nK s) (N := 160) (ce := 38) (by simp only [LSt L]) (by simp only [LSt L]) (by intro i; simp only [LSt L]) V.2.1.2.2.2 (V.1.2.2.2.1.trans I.2.2.2.2.1.1) (by omega) (by omega) (by omega) hl (by omega) hk).trans (congrArg some (V.2.2.2.2.2.1 l hl k hk))
theorem c6 (L : Lay v c w) (hu : u = 10 ∨ u = 20) (V : VilC w u s) (I : InvV s) {t : Nat} (ht : t < 2147483648) (m : Int32) : fn_6 w u (nI t) m = some (cwo s t m) := by
  have hT := I.1
  unfold fn_6 cwo
  by_cases h : t < nT s
  · simp (disch := omega) only [LV L hu, getT L hu V I h, if_pos h, some_if, Option.bind_some, Option.bind_none, Option.some.injEq, ↓reduceIte, reduceCtorEq, Bool.false_eq_true, Bool.true_eq_false, not_true_eq_false, not_false_eq_true, cmb0, cmb1, Nat.reduceAdd, Nat.reduceMul, Nat.reduceSub, Nat.add_zero, Bool.not_eq_true, Bool.not_eq_false, Nat.reduceEqDiff, Nat.reduceLeDiff, Nat.reduceLT, Int32.reduceLT, Int32.reduceLE, iin_nI, iin_lit, iin_m1, tn_nI, tn_lit, nI_lm, nI_ml, nI_al, nI_la, nI_add, pk_mul, nI_le_l, nI_l_le, nI_lt_l, nI_l_lt, nI_eq_l, nI_l_eq, nI_eqP, nI_leP, nI_ltP, nI_m1, m1_nI, nI_ll, m1_l, l_m1]
    rfl
  · simp (disch := omega) only [LV L hu, getTo L hu V I (i := nI t) (iin_no (by omega) (by omega)), if_neg h, some_if, Option.bind_some, Option.bind_none, Option.some.injEq, ↓reduceIte, reduceCtorEq, Bool.false_eq_true, Bool.true_eq_false, not_true_eq_false, not_false_eq_true, cmb0, cmb1, Nat.reduceAdd, Nat.reduceMul, Nat.reduceSub, Nat.add_zero, Bool.not_eq_true, Bool.not_eq_false, Nat.reduceEqDiff, Nat.reduceLeDiff, Nat.reduceLT, Int32.reduceLT, Int32.reduceLE, iin_nI, iin_lit, iin_m1, tn_nI, tn_lit, nI_lm, nI_ml, nI_al, nI_la, nI_add, pk_mul, nI_le_l, nI_l_le, nI_lt_l, nI_l_lt, nI_eq_l, nI_l_eq, nI_eqP, nI_leP, nI_ltP, nI_m1, m1_nI, nI_ll, m1_l, l_m1]
theorem c6i (L : Lay v c w) (hu : u = 10 ∨ u = 20) (V : VilC w u s) (I : InvV s) {t : Nat} (ht : t < nT s) (m : Int32) : fn_6 w u (nI t) m = some (wo s t m) := by
  have hT := I.1
  rw [c6 L hu V I (by omega)]
  unfold cwo
  rw [if_pos ht]
theorem c31 (L : Lay v c w) (hu : u = 10 ∨ u = 20) (V : VilC w u s) (I : InvV s) {t : Nat} (ht : t < 2147483648) (m : Int32) : fn_31 w u (nI t) m = some (cko s t m) := by
  unfold fn_31 cko
  simp (disch := omega) only [LV L hu, c6 L hu V I ht, V.1, some_if, Option.bind_some, Option.bind_none, Option.some.injEq, ↓reduceIte, reduceCtorEq, Bool.false_eq_true, Bool.true_eq_false, not_true_eq_false, not_false_eq_true, cmb0, cmb1, Nat.reduceAdd, Nat.reduceMul, Nat.reduceSub, Nat.add_zero, Bool.not_eq_true, Bool.not_eq_false, Nat.reduceEqDiff, Nat.reduceLeDiff, Nat.reduceLT, Int32.reduceLT, Int32.reduceLE, iin_nI, iin_lit, iin_m1, tn_nI, tn_lit, nI_lm, nI_ml, nI_al, nI_la, nI_add, pk_mul, nI_le_l, nI_l_le, nI_lt_l, nI_l_lt, nI_eq_l, nI_l_eq, nI_eqP, nI_leP, nI_ltP, nI_m1, m1_nI, nI_ll, m1_l, l_m1]
theorem c31i (L : Lay v c w) (hu : u = 10 ∨ u = 20) (V : VilC w u s) (I : InvV s) {t : Nat} (ht : t < nT s) (m : Int32) : fn_31 w u (nI t) m = some (ko s t m) := by
  have hT := I.1
  rw [c31 L hu V I (by omega)]
  unfold cko cwo
  rw [if_pos ht]; rfl
theorem c8 (L : Lay v c w) (hu : u = 10 ∨ u = 20) (V : VilC w u s) (I : InvV s) {p t : Nat} (hp : p < nP s) (ht : t < nT s) : fn_8 w u (nI p) (nI t) = some (s 107 (8 * p + t)) := by
  have hT := I.1
  have hP := I.2.1
  unfold fn_8
  simp (disch := omega) only [LV L hu, hasT L hu V I, hasP L hu V I, V.2.2.2.2.1 p hp t ht, some_if, Option.bind_some, Option.bind_none, Option.some.injEq, ↓reduceIte, reduceCtorEq, Bool.false_eq_true, Bool.true_eq_false, not_true_eq_false, not_false_eq_true, cmb0, cmb1, Nat.reduceAdd, Nat.reduceMul, Nat.reduceSub, Nat.add_zero, Bool.not_eq_true, Bool.not_eq_false, Nat.reduceEqDiff, Nat.reduceLeDiff, Nat.reduceLT, Int32.reduceLT, Int32.reduceLE, iin_nI, iin_lit, iin_m1, tn_nI, tn_lit, nI_lm, nI_ml, nI_al, nI_la, nI_add, pk_mul, nI_le_l, nI_l_le, nI_lt_l, nI_l_lt, nI_eq_l, nI_l_eq, nI_eqP, nI_leP, nI_ltP, nI_m1, m1_nI, nI_ll, m1_l, l_m1]
theorem c8p (L : Lay v c w) (hu : u = 10 ∨ u = 20) (V : VilC w u s) (I : InvV s) {i j : Int32} (hi : cm_iin i (nP s) = false) : fn_8 w u i j = some 0 := by
  unfold fn_8
  simp (disch := omega) only [LV L hu, hasP L hu V I, hi, some_if, Option.bind_some, Option.bind_none, Option.some.injEq, ↓reduceIte, reduceCtorEq, Bool.false_eq_true, Bool.true_eq_false, not_true_eq_false, not_false_eq_true, cmb0, cmb1, Nat.reduceAdd, Nat.reduceMul, Nat.reduceSub, Nat.add_zero, Bool.not_eq_true, Bool.not_eq_false, Nat.reduceEqDiff, Nat.reduceLeDiff, Nat.reduceLT, Int32.reduceLT, Int32.reduceLE, iin_nI, iin_lit, iin_m1, tn_nI, tn_lit, nI_lm, nI_ml, nI_al, nI_la, nI_add, pk_mul, nI_le_l, nI_l_le, nI_lt_l, nI_l_lt, nI_eq_l, nI_l_eq, nI_eqP, nI_leP, nI_ltP, nI_m1, m1_nI, nI_ll, m1_l, l_m1]
theorem c8t (L : Lay v c w) (hu : u = 10 ∨ u = 20) (V : VilC w u s) (I : InvV s) {i j : Int32} (hj : cm_iin j (nT s) = false) : fn_8 w u i j = some 0 := by
  unfold fn_8
  cases hi : cm_iin i (nP s) <;> simp (disch := omega) only [LV L hu, hasP L hu V I, hasT L hu V I, hi, hj, some_if, Option.bind_some, Option.bind_none, Option.some.injEq, ↓reduceIte, reduceCtorEq, Bool.false_eq_true, Bool.true_eq_false, not_true_eq_false, not_false_eq_true, cmb0, cmb1, Nat.reduceAdd, Nat.reduceMul, Nat.reduceSub, Nat.add_zero, Bool.not_eq_true, Bool.not_eq_false, Nat.reduceEqDiff, Nat.reduceLeDiff, Nat.reduceLT, Int32.reduceLT, Int32.reduceLE, iin_nI, iin_lit, iin_m1, tn_nI, tn_lit, nI_lm, nI_ml, nI_al, nI_la, nI_add, pk_mul, nI_le_l, nI_l_le, nI_lt_l, nI_l_lt, nI_eq_l, nI_l_eq, nI_eqP, nI_leP, nI_ltP, nI_m1, m1_nI, nI_ll, m1_l, l_m1]
theorem c10 (L : Lay v c w) (hu : u = 10 ∨ u = 20) (V : VilC w u s) (I : InvV s) {p : Nat} (hp : p < nP s) : fn_10 w u (nI p) = some (shs s p) := by
  have hP := I.2.1
  unfold fn_10
  simp (disch := omega) only [LV L hu, hasP L hu V I, getP L hu V I hp, some_if, Option.bind_some, Option.bind_none, Option.some.injEq, ↓reduceIte, reduceCtorEq, Bool.false_eq_true, Bool.true_eq_false, not_true_eq_false, not_false_eq_true, cmb0, cmb1, Nat.reduceAdd, Nat.reduceMul, Nat.reduceSub, Nat.add_zero, Bool.not_eq_true, Bool.not_eq_false, Nat.reduceEqDiff, Nat.reduceLeDiff, Nat.reduceLT, Int32.reduceLT, Int32.reduceLE, iin_nI, iin_lit, iin_m1, tn_nI, tn_lit, nI_lm, nI_ml, nI_al, nI_la, nI_add, pk_mul, nI_le_l, nI_l_le, nI_lt_l, nI_l_lt, nI_eq_l, nI_l_eq, nI_eqP, nI_leP, nI_ltP, nI_m1, m1_nI, nI_ll, m1_l, l_m1]
theorem c10o (L : Lay v c w) (hu : u = 10 ∨ u = 20) (V : VilC w u s) (I : InvV s) {i : Int32} (hi : cm_iin i (nP s) = false) : fn_10 w u i = some 0 := by
  unfold fn_10
  simp (disch := omega) only [LV L hu, hasP L hu V I, hi, some_if, Option.bind_some, Option.bind_none, Option.some.injEq, ↓reduceIte, reduceCtorEq, Bool.false_eq_true, Bool.true_eq_false, not_true_eq_false, not_false_eq_true, cmb0, cmb1, Nat.reduceAdd, Nat.reduceMul, Nat.reduceSub, Nat.add_zero, Bool.not_eq_true, Bool.not_eq_false, Nat.reduceEqDiff, Nat.reduceLeDiff, Nat.reduceLT, Int32.reduceLT, Int32.reduceLE, iin_nI, iin_lit, iin_m1, tn_nI, tn_lit, nI_lm, nI_ml, nI_al, nI_la, nI_add, pk_mul, nI_le_l, nI_l_le, nI_lt_l, nI_l_lt, nI_eq_l, nI_l_eq, nI_eqP, nI_leP, nI_ltP, nI_m1, m1_nI, nI_ll, m1_l, l_m1]
theorem c100 (w : cm_W) (i : Int32) : fn_100 w i = some (cm_iin i 12) := by
  unfold fn_100
  rcases iin_cs i (n := 12) (by omega) with h | ⟨k, hk, rfl⟩
  · rcases iin_f h (by omega) with h' | h'
    · rw [if_pos h', h]
    · by_cases h2 : i < 0
      · rw [if_pos h2, h]
      · rw [if_neg h2, if_pos (show (12 : Int32) ≤ i from h'), h]
  · rw [if_neg (nI_pos (by omega)), if_neg (show ¬ (12 : Int32) ≤ nI k from nI_ge hk (by decide)), iin_nI hk (by omega)]
theorem c109 (L : Lay v c w) (V : StC w 30 s) (I : InvV s) {p : Nat} (hp : p < nP s) : fn_109 w 30 (nI p) = some (s 105 p) := by
  have hP := I.2.1
  have e : cm_I w 40 p = s 105 p := V.2.2.2.2.2.2.2 p hp
  unfold fn_109
  simp (disch := omega) only [LSt L, c100, e, some_if, Option.bind_some, Option.bind_none, Option.some.injEq, ↓reduceIte, reduceCtorEq, Bool.false_eq_true, Bool.true_eq_false, not_true_eq_false, not_false_eq_true, cmb0, cmb1, Nat.reduceAdd, Nat.reduceMul, Nat.reduceSub, Nat.add_zero, Bool.not_eq_true, Bool.not_eq_false, Nat.reduceEqDiff, Nat.reduceLeDiff, Nat.reduceLT, Int32.reduceLT, Int32.reduceLE, iin_nI, iin_lit, iin_m1, tn_nI, tn_lit, nI_lm, nI_ml, nI_al, nI_la, nI_add, pk_mul, nI_le_l, nI_l_le, nI_lt_l, nI_l_lt, nI_eq_l, nI_l_eq, nI_eqP, nI_leP, nI_ltP, nI_m1, m1_nI, nI_ll, m1_l, l_m1]
theorem c146 (L : Lay v c w) (V : StC w 30 s) (I : InvS s) : fn_146 w 2 = some (decide (5 ≤ nM s)) := by
  have hM := I.1
  unfold fn_146
  simp (disch := omega) only [LC L, LSt L, V.1, hM.1, some_if, Option.bind_some, Option.bind_none, Option.some.injEq, ↓reduceIte, reduceCtorEq, Bool.false_eq_true, Bool.true_eq_false, not_true_eq_false, not_false_eq_true, cmb0, cmb1, Nat.reduceAdd, Nat.reduceMul, Nat.reduceSub, Nat.add_zero, Bool.not_eq_true, Bool.not_eq_false, Nat.reduceEqDiff, Nat.reduceLeDiff, Nat.reduceLT, Int32.reduceLT, Int32.reduceLE, iin_nI, iin_lit, iin_m1, tn_nI, tn_lit, nI_lm, nI_ml, nI_al, nI_la, nI_add, pk_mul, nI_le_l, nI_l_le, nI_lt_l, nI_l_lt, nI_eq_l, nI_l_eq, nI_eqP, nI_leP, nI_ltP, nI_m1, m1_nI, nI_ll, m1_l, l_m1]
  by_cases h : nM s < 5
  · rw [if_pos h]; simp; omega
  · rw [if_neg h]; simp; omega
/-- the shares of one, as numbers -/
theorem shs_rg (I : InvV s) {p : Nat} (hp : p < nP s) : ∃ n, n ≤ 99 * nT s ∧ shs s p = nI n ∧ (0 < nT s → 0 < n) := by
  have hT := I.1
  obtain ⟨-, h1, h2⟩ := I.2.2.2.2.2.1 p hp
  have h3 : ∀ n, n ≤ nT s → ∃ k, k ≤ 99 * n ∧ fup (fun t a => a + s 107 (8 * p + t)) 0 n = nI k ∧ ((∃ t, t < n ∧ s 107 (8 * p + t) ≠ 0) → 0 < k) := by
    intro n
    induction n with
    | zero => intro _; exact ⟨0, by omega, rfl, fun ⟨t, h, _⟩ => by omega⟩
    | succ n ih =>
      intro hn
      obtain ⟨k, hk, e, h4⟩ := ih (by omega)
      obtain ⟨j, hj, ej⟩ := h1 n (by omega)
      refine ⟨k + j, by omega, ?_, fun ⟨t, ht, h5⟩ => ?_⟩
      · show fup _ 0 n + s 107 (8 * p + n) = _
        rw [e, ej, nI_add]
      · by_cases h6 : t = n
        · subst h6
          have : j ≠ 0 := fun h7 => h5 (by rw [ej, h7]; rfl)
          omega
        · have := h4 ⟨t, by omega, h5⟩
          omega
  obtain ⟨k, hk, e, h4⟩ := h3 (nT s) (Nat.le_refl _)
  exact ⟨k, hk, e, fun h => h4 (h2 h)⟩
theorem c177 (L : Lay v c w) (hv : v = 10 ∨ v = 20) (V : VilC w v s) (I : InvV s) (i : Int32) : fn_177 w 2 i = some (cm_iin i (nP s) && decide (0 < nT s)) := by
  have hT := I.1
  have hP := I.2.1
  unfold fn_177
  rcases iin_cs i (n := nP s) (by omega) with h | ⟨p, hp, rfl⟩
  · simp (disch := omega) only [LC L, LV L hv, c10o L hv V I h, h, some_if, Option.bind_some, Option.bind_none, Option.some.injEq, ↓reduceIte, reduceCtorEq, Bool.false_eq_true, Bool.true_eq_false, not_true_eq_false, not_false_eq_true, cmb0, cmb1, Nat.reduceAdd, Nat.reduceMul, Nat.reduceSub, Nat.add_zero, Bool.not_eq_true, Bool.not_eq_false, Nat.reduceEqDiff, Nat.reduceLeDiff, Nat.reduceLT, Int32.reduceLT, Int32.reduceLE, iin_nI, iin_lit, iin_m1, tn_nI, tn_lit, nI_lm, nI_ml, nI_al, nI_la, nI_add, pk_mul, nI_le_l, nI_l_le, nI_lt_l, nI_l_lt, nI_eq_l, nI_l_eq, nI_eqP, nI_leP, nI_ltP, nI_m1, m1_nI, nI_ll, m1_l, l_m1]
    rfl
  · obtain ⟨n, hn, e, h0⟩ := shs_rg I hp
    simp (disch := omega) only [LC L, LV L hv, c10 L hv V I hp, e, some_if, Option.bind_some, Option.bind_none, Option.some.injEq, ↓reduceIte, reduceCtorEq, Bool.false_eq_true, Bool.true_eq_false, not_true_eq_false, not_false_eq_true, cmb0, cmb1, Nat.reduceAdd, Nat.reduceMul, Nat.reduceSub, Nat.add_zero, Bool.not_eq_true, Bool.not_eq_false, Nat.reduceEqDiff, Nat.reduceLeDiff, Nat.reduceLT, Int32.reduceLT, Int32.reduceLE, iin_nI, iin_lit, iin_m1, tn_nI, tn_lit, nI_lm, nI_ml, nI_al, nI_la, nI_add, pk_mul, nI_le_l, nI_l_le, nI_lt_l, nI_l_lt, nI_eq_l, nI_l_eq, nI_eqP, nI_leP, nI_ltP, nI_m1, m1_nI, nI_ll, m1_l, l_m1]
    by_cases h : 0 < nT s
    · have := h0 h
      rw [if_neg (by omega)]; simp [h]
    · rw [if_pos (by omega)]; simp [h]
end HELP
