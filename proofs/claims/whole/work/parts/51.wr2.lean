/-! into, holds, rows of the record: say, sign, sell -/
section WR2
variable {v c u n : Nat} {w w' : cm_W} {s s' : St}
-- the bind forms, taken before what is behind them
theorem mBoxb (L : Lay v c w) (M : RelM w s) (I : InvS s) (i : Int32) {β : Type} (f : Bool → Option β) : (fn_233 w 96 i).bind f = f (cm_iin i (nB s)) := bd (mBox L M I i) f
theorem mWhob (L : Lay v c w) (M : RelM w s) (I : InvV s) (i : Int32) {β : Type} (f : Bool → Option β) : (fn_225 w 96 i).bind f = f (cm_iin i (nP s)) := bd (mWho L M I i) f
theorem mThingb (L : Lay v c w) (M : RelM w s) (I : InvV s) (i : Int32) {β : Type} (f : Bool → Option β) : (fn_224 w 96 i).bind f = f (cm_iin i (nT s)) := bd (mThing L M I i) f
theorem mAheadb (L : Lay v c w) (M : RelM w s) (I : InvS s) {β : Type} (f : Bool → Option β) : (fn_234 w 96).bind f = f (decide (nM s < 5)) := bd (mAhead L M I) f
theorem m231b (L : Lay v c w) (M : RelM w s) (I : InvS s) {b : Nat} (hb : b < nB s) {β : Type} (f : Int32 → Option β) : (fn_231 w 96 (nI b)).bind f = f (ho s b) := bd (m231 L M I hb) f
theorem hasBb (L : Lay v c w) (V : StC w 30 s) (I : InvS s) (i : Int32) {β : Type} (f : Bool → Option β) : (fn_7 w 31 i).bind f = f (cm_iin i (nB s)) := bd (hasB L V I i) f
theorem hasTb (L : Lay v c w) (hu : u = 10 ∨ u = 20) (V : VilC w u s) (I : InvV s) (i : Int32) {β : Type} (f : Bool → Option β) : (fn_7 w (u + 2) i).bind f = f (cm_iin i (nT s)) := bd (hasT L hu V I i) f
theorem hasPb (L : Lay v c w) (hu : u = 10 ∨ u = 20) (V : VilC w u s) (I : InvV s) (i : Int32) {β : Type} (f : Bool → Option β) : (fn_7 w (u + 5) i).bind f = f (cm_iin i (nP s)) := bd (hasP L hu V I i) f
theorem c146b (L : Lay v c w) (V : StC w 30 s) (I : InvS s) {β : Type} (f : Bool → Option β) : (fn_146 w 2).bind f = f (decide (5 ≤ nM s)) := bd (c146 L V I) f
theorem c17b (L : Lay v c w) (V : StC w 30 s) (I : InvS s) {b : Nat} (hb : b < nB s) {β : Type} (f : Int32 → Option β) : (fn_17 w 30 (nI b)).bind f = f (ho s b) := bd (c17 L V I hb) f
theorem RelM.fr (M : RelM w s) (h : ∀ a, 96 ≤ a → ∀ j, cm_I w' a j = cm_I w a j) : RelM w' s := by
  intro a k hm
  by_cases q : 96 ≤ a
  · rw [h a q]; exact M a k hm
  · exfalso
    have : mt a k = false := by
      unfold mt
      split <;> first | omega | rfl
    rw [this] at hm; cases hm
theorem cnt_one {p p' : Nat → Prop} [DecidablePred p] [DecidablePred p'] {b : Nat} (h1 : p b) (h2 : ¬ p' b) (h3 : ∀ k, k ≠ b → (p k ↔ p' k)) : ∀ n, fup (fun b a => if p' b then a else a + 1) 0 n = fup (fun b a => if p b then a else a + 1) 0 n + if b < n then 1 else 0 := by
  intro n
  induction n with
  | zero => rfl
  | succ n ih =>
    show (if p' n then _ else _) = (if p n then _ else _) + _
    by_cases e : n = b
    · subst e
      rw [if_neg h2, if_pos h1, ih, if_neg (Nat.lt_irrefl _), if_pos (Nat.lt_succ_self _)]
    · have h4 := h3 n e
      by_cases q : p n
      · rw [if_pos q, if_pos (h4.mp q), ih]
        by_cases l : b < n
        · rw [if_pos l, if_pos (by omega)]
        · rw [if_neg l, if_neg (by omega)]
      · rw [if_neg q, if_neg (fun x => q (h4.mpr x)), ih]
        by_cases l : b < n
        · rw [if_pos l, if_pos (by omega)]
        · rw [if_neg l, if_neg (by omega)]
theorem InvS.into (h : InvS s) {b o : Nat} (hb : b < nB s) (ho : o < nB s) (hbo : b ≠ o) (h1 : s 117 b = -1) (h2 : s 117 o = -1) : InvS (cm_up s 117 b (nI o)) := by
  have e1 : nB (cm_up s 117 b (nI o)) = nB s := by unfold nB; rw [u_ne (by omega)]
  have e2 : nP (cm_up s 117 b (nI o)) = nP s := by unfold nP; rw [u_ne (by omega)]
  have e3 : nR (cm_up s 117 b (nI o)) = nR s := by unfold nR; rw [u_ne (by omega)]
  have e4 : nL (cm_up s 117 b (nI o)) = nL s := by unfold nL; rw [u_ne (by omega)]
  have e5 : nK (cm_up s 117 b (nI o)) = nK s := by unfold nK; rw [u_ne (by omega)]
  have e6 : nT (cm_up s 117 b (nI o)) = nT s := by unfold nT; rw [u_ne (by omega)]
  have e7 : nM (cm_up s 117 b (nI o)) = nM s := by unfold nM; rw [u_ne (by omega)]
  have hB := h.2.1
  have e8 : nIn (cm_up s 117 b (nI o)) = nIn s + 1 := by
    have := cnt_one (p := fun k => s 117 k = -1) (p' := fun k => cm_up s 117 b (nI o) 117 k = -1) (b := b) h1 (by
      show ¬ cm_up s 117 b (nI o) 117 b = -1
      rw [u_eq, nI_m1 (by omega)]; exact id) (fun k hk => by rw [u_nk hk]) (nB s)
    rw [if_pos hb] at this
    unfold nIn; rw [e1]; exact this
  obtain ⟨i1, i2, i3, i4, i5, i6, i7, i8, i9, i10, i11⟩ := h
  unfold InvS
  rw [e1, e2, e3, e4, e5, e6, e7, e8]
  simp (disch := omega) only [u_ne]
  refine ⟨i1, i2, i3, i4, i5, fun x hx => ?_, ?_, i8, i9, i10, i11⟩
  · obtain ⟨j1, j2, j3, j4, j5⟩ := i6 x hx
    refine ⟨j1, j2, j3, ?_, j5⟩
    by_cases q : x = b
    · subst q; rw [u_eq]; exact Or.inr ⟨o, ho, rfl⟩
    · rw [u_nk q]; exact j4
  · obtain ⟨d, hd⟩ := i7
    refine ⟨fun x => if x = o then 0 else d x + 1, fun x hx => ⟨?_, fun e he hxe => ?_⟩⟩
    · show (if x = o then 0 else d x + 1) ≤ nIn s + 1
      have := (hd x hx).1
      by_cases q : x = o
      · rw [if_pos q]; omega
      · rw [if_neg q]; omega
    · show (if e = o then 0 else d e + 1) < (if x = o then 0 else d x + 1)
      have hxo : ¬ x = o := fun q => by
        subst q
        rw [u_nk (fun z => hbo z.symm), h2, m1_nI (by omega)] at hxe; exact hxe
      rw [if_neg hxo]
      by_cases q : e = o
      · rw [if_pos q]; omega
      · rw [if_neg q]
        by_cases q2 : x = b
        · subst q2
          rw [u_eq] at hxe
          exact absurd ((nI_eq (by omega) (by omega)).mp hxe).symm q
        · rw [u_nk q2] at hxe
          have := (hd x hx).2 e he hxe
          omega
theorem w_into (g : GG v c w s) (i j : Int32) : OKW (fn_149 2 i j) (fn_236 96 i j) w := by
  obtain ⟨L, M, C, Z, I⟩ := id g
  have V := C.2.2.1
  have hB := I.2.1.2.1
  have hM := I.2.1.1
  have r1 : fn_149_57 2 i j w = some (false, cm_sI w 42 0 (cm_I w 42 0 + 1)) := by
    simp (disch := omega) only [fn_149_57, LC L, c148 L, eq_self, Nat.le_refl, Nat.lt_irrefl, some_if, Option.bind_some, Option.bind_none, Option.some.injEq, ↓reduceIte, reduceCtorEq, Bool.false_eq_true, Bool.true_eq_false, not_true_eq_false, not_false_eq_true, cmb0, cmb1, Nat.reduceAdd, Nat.reduceMul, Nat.reduceSub, Nat.add_zero, Bool.not_eq_true, Bool.not_eq_false, Nat.reduceEqDiff, Nat.reduceLeDiff, Nat.reduceLT, Int32.reduceLT, Int32.reduceLE, iin_nI, iin_lit, iin_m1, tn_nI, tn_lit, nI_lm, nI_ml, nI_al, nI_la, nI_add, pk_mul, nI_le_l, nI_l_le, nI_lt_l, nI_l_lt, nI_eq_l, nI_l_eq, nI_eqP, nI_leP, nI_ltP, nI_m1, m1_nI, nI_ll, m1_l, l_m1]
  have r2 : ∀ x, Lay v c x → fn_236_63 96 x = some (false, cm_sI x 97 0 (cm_I x 97 0 + 1)) := fun x L1 => by
    simp (disch := omega) only [fn_236_63, LM L1, m198 L1, eq_self, Nat.le_refl, Nat.lt_irrefl, some_if, Option.bind_some, Option.bind_none, Option.some.injEq, ↓reduceIte, reduceCtorEq, Bool.false_eq_true, Bool.true_eq_false, not_true_eq_false, not_false_eq_true, cmb0, cmb1, Nat.reduceAdd, Nat.reduceMul, Nat.reduceSub, Nat.add_zero, Bool.not_eq_true, Bool.not_eq_false, Nat.reduceEqDiff, Nat.reduceLeDiff, Nat.reduceLT, Int32.reduceLT, Int32.reduceLE, iin_nI, iin_lit, iin_m1, tn_nI, tn_lit, nI_lm, nI_ml, nI_al, nI_la, nI_add, pk_mul, nI_le_l, nI_l_le, nI_lt_l, nI_l_lt, nI_eq_l, nI_l_eq, nI_eqP, nI_leP, nI_ltP, nI_m1, m1_nI, nI_ll, m1_l, l_m1]
  by_cases h5 : 5 ≤ nM s
  · have h6 : ¬ nM s < 5 := by omega
    refine ok_ref (r := false) g 0 (by omega) ?_ (fun x L1 M1 _ => ?_)
    · simp (disch := omega) only [fn_149, LC L, ↓c146b L V I.2.1, h5, r1, decide_true, eq_self, Nat.le_refl, Nat.lt_irrefl, some_if, Option.bind_some, Option.bind_none, Option.some.injEq, ↓reduceIte, reduceCtorEq, Bool.false_eq_true, Bool.true_eq_false, not_true_eq_false, not_false_eq_true, cmb0, cmb1, Nat.reduceAdd, Nat.reduceMul, Nat.reduceSub, Nat.add_zero, Bool.not_eq_true, Bool.not_eq_false, Nat.reduceEqDiff, Nat.reduceLeDiff, Nat.reduceLT, Int32.reduceLT, Int32.reduceLE, iin_nI, iin_lit, iin_m1, tn_nI, tn_lit, nI_lm, nI_ml, nI_al, nI_la, nI_add, pk_mul, nI_le_l, nI_l_le, nI_lt_l, nI_l_lt, nI_eq_l, nI_l_eq, nI_eqP, nI_leP, nI_ltP, nI_m1, m1_nI, nI_ll, m1_l, l_m1]
    · by_cases q : i = j <;> cases h : cm_iin i (nB s) <;> cases h' : cm_iin j (nB s) <;> simp (disch := omega) only [fn_236, ↓LMb L1, LM L1, ↓mBoxb L1 M1 I.2.1, ↓mAheadb L1 M1 I.2.1, h, h', q, h6, r2 x L1, decide_false, eq_self, Nat.le_refl, Nat.lt_irrefl, some_if, Option.bind_some, Option.bind_none, Option.some.injEq, ↓reduceIte, reduceCtorEq, Bool.false_eq_true, Bool.true_eq_false, not_true_eq_false, not_false_eq_true, cmb0, cmb1, Nat.reduceAdd, Nat.reduceMul, Nat.reduceSub, Nat.add_zero, Bool.not_eq_true, Bool.not_eq_false, Nat.reduceEqDiff, Nat.reduceLeDiff, Nat.reduceLT, Int32.reduceLT, Int32.reduceLE, iin_nI, iin_lit, iin_m1, tn_nI, tn_lit, nI_lm, nI_ml, nI_al, nI_la, nI_add, pk_mul, nI_le_l, nI_l_le, nI_lt_l, nI_l_lt, nI_eq_l, nI_l_eq, nI_eqP, nI_leP, nI_ltP, nI_m1, m1_nI, nI_ll, m1_l, l_m1]
  have h6 : nM s < 5 := by omega
  by_cases hij : i = j
  · subst hij
    refine ok_ref (r := false) g 0 (by omega) ?_ (fun x L1 M1 _ => ?_)
    · simp (disch := omega) only [fn_149, LC L, ↓c146b L V I.2.1, h5, r1, decide_false, eq_self, Nat.le_refl, Nat.lt_irrefl, some_if, Option.bind_some, Option.bind_none, Option.some.injEq, ↓reduceIte, reduceCtorEq, Bool.false_eq_true, Bool.true_eq_false, not_true_eq_false, not_false_eq_true, cmb0, cmb1, Nat.reduceAdd, Nat.reduceMul, Nat.reduceSub, Nat.add_zero, Bool.not_eq_true, Bool.not_eq_false, Nat.reduceEqDiff, Nat.reduceLeDiff, Nat.reduceLT, Int32.reduceLT, Int32.reduceLE, iin_nI, iin_lit, iin_m1, tn_nI, tn_lit, nI_lm, nI_ml, nI_al, nI_la, nI_add, pk_mul, nI_le_l, nI_l_le, nI_lt_l, nI_l_lt, nI_eq_l, nI_l_eq, nI_eqP, nI_leP, nI_ltP, nI_m1, m1_nI, nI_ll, m1_l, l_m1]
    · cases h : cm_iin i (nB s) <;> simp (disch := omega) only [fn_236, ↓LMb L1, LM L1, ↓mBoxb L1 M1 I.2.1, h, r2 x L1, eq_self, Nat.le_refl, Nat.lt_irrefl, some_if, Option.bind_some, Option.bind_none, Option.some.injEq, ↓reduceIte, reduceCtorEq, Bool.false_eq_true, Bool.true_eq_false, not_true_eq_false, not_false_eq_true, cmb0, cmb1, Nat.reduceAdd, Nat.reduceMul, Nat.reduceSub, Nat.add_zero, Bool.not_eq_true, Bool.not_eq_false, Nat.reduceEqDiff, Nat.reduceLeDiff, Nat.reduceLT, Int32.reduceLT, Int32.reduceLE, iin_nI, iin_lit, iin_m1, tn_nI, tn_lit, nI_lm, nI_ml, nI_al, nI_la, nI_add, pk_mul, nI_le_l, nI_l_le, nI_lt_l, nI_l_lt, nI_eq_l, nI_l_eq, nI_eqP, nI_leP, nI_ltP, nI_m1, m1_nI, nI_ll, m1_l, l_m1]
  rcases iin_cs i (n := nB s) (by omega) with h | ⟨b, hb, rfl⟩
  · refine ok_ref (r := false) g 0 (by omega) ?_ (fun x L1 M1 _ => ?_)
    · simp (disch := omega) only [fn_149, ↓LCb L, ↓LStb L, LC L, LSt L, ↓c146b L V I.2.1, c108 L V I.2.1, h, h5, hij, r1, decide_false, Bool.false_and, eq_self, Nat.le_refl, Nat.lt_irrefl, some_if, Option.bind_some, Option.bind_none, Option.some.injEq, ↓reduceIte, reduceCtorEq, Bool.false_eq_true, Bool.true_eq_false, not_true_eq_false, not_false_eq_true, cmb0, cmb1, Nat.reduceAdd, Nat.reduceMul, Nat.reduceSub, Nat.add_zero, Bool.not_eq_true, Bool.not_eq_false, Nat.reduceEqDiff, Nat.reduceLeDiff, Nat.reduceLT, Int32.reduceLT, Int32.reduceLE, iin_nI, iin_lit, iin_m1, tn_nI, tn_lit, nI_lm, nI_ml, nI_al, nI_la, nI_add, pk_mul, nI_le_l, nI_l_le, nI_lt_l, nI_l_lt, nI_eq_l, nI_l_eq, nI_eqP, nI_leP, nI_ltP, nI_m1, m1_nI, nI_ll, m1_l, l_m1]
    · simp (disch := omega) only [fn_236, ↓LMb L1, LM L1, ↓mBoxb L1 M1 I.2.1, h, r2 x L1, eq_self, Nat.le_refl, Nat.lt_irrefl, some_if, Option.bind_some, Option.bind_none, Option.some.injEq, ↓reduceIte, reduceCtorEq, Bool.false_eq_true, Bool.true_eq_false, not_true_eq_false, not_false_eq_true, cmb0, cmb1, Nat.reduceAdd, Nat.reduceMul, Nat.reduceSub, Nat.add_zero, Bool.not_eq_true, Bool.not_eq_false, Nat.reduceEqDiff, Nat.reduceLeDiff, Nat.reduceLT, Int32.reduceLT, Int32.reduceLE, iin_nI, iin_lit, iin_m1, tn_nI, tn_lit, nI_lm, nI_ml, nI_al, nI_la, nI_add, pk_mul, nI_le_l, nI_l_le, nI_lt_l, nI_l_lt, nI_eq_l, nI_l_eq, nI_eqP, nI_leP, nI_ltP, nI_m1, m1_nI, nI_ll, m1_l, l_m1]
  have k1 : fn_108 w 30 (nI b) = some (decide (s 117 b = -1)) := by
    rw [c108 L V I.2.1, iin_nI hb (by omega), tn_nIe (by omega)]; rfl
  rcases iin_cs j (n := nB s) (by omega) with h | ⟨o, hoo, rfl⟩
  · refine ok_ref (r := false) g 0 (by omega) ?_ (fun x L1 M1 _ => ?_)
    · by_cases q : s 117 b = -1 <;> simp (disch := omega) only [fn_149, ↓LCb L, ↓LStb L, LC L, LSt L, ↓c146b L V I.2.1, k1, c108 L V I.2.1, h, h5, hij, q, r1, decide_true, decide_false, Bool.false_and, eq_self, Nat.le_refl, Nat.lt_irrefl, some_if, Option.bind_some, Option.bind_none, Option.some.injEq, ↓reduceIte, reduceCtorEq, Bool.false_eq_true, Bool.true_eq_false, not_true_eq_false, not_false_eq_true, cmb0, cmb1, Nat.reduceAdd, Nat.reduceMul, Nat.reduceSub, Nat.add_zero, Bool.not_eq_true, Bool.not_eq_false, Nat.reduceEqDiff, Nat.reduceLeDiff, Nat.reduceLT, Int32.reduceLT, Int32.reduceLE, iin_nI, iin_lit, iin_m1, tn_nI, tn_lit, nI_lm, nI_ml, nI_al, nI_la, nI_add, pk_mul, nI_le_l, nI_l_le, nI_lt_l, nI_l_lt, nI_eq_l, nI_l_eq, nI_eqP, nI_leP, nI_ltP, nI_m1, m1_nI, nI_ll, m1_l, l_m1]
    · simp (disch := omega) only [fn_236, ↓LMb L1, LM L1, ↓mBoxb L1 M1 I.2.1, h, r2 x L1, eq_self, Nat.le_refl, Nat.lt_irrefl, some_if, Option.bind_some, Option.bind_none, Option.some.injEq, ↓reduceIte, reduceCtorEq, Bool.false_eq_true, Bool.true_eq_false, not_true_eq_false, not_false_eq_true, cmb0, cmb1, Nat.reduceAdd, Nat.reduceMul, Nat.reduceSub, Nat.add_zero, Bool.not_eq_true, Bool.not_eq_false, Nat.reduceEqDiff, Nat.reduceLeDiff, Nat.reduceLT, Int32.reduceLT, Int32.reduceLE, iin_nI, iin_lit, iin_m1, tn_nI, tn_lit, nI_lm, nI_ml, nI_al, nI_la, nI_add, pk_mul, nI_le_l, nI_l_le, nI_lt_l, nI_l_lt, nI_eq_l, nI_l_eq, nI_eqP, nI_leP, nI_ltP, nI_m1, m1_nI, nI_ll, m1_l, l_m1]
  have k2 : fn_108 w 30 (nI o) = some (decide (s 117 o = -1)) := by
    rw [c108 L V I.2.1, iin_nI hoo (by omega), tn_nIe (by omega)]; rfl
  have hbo : ¬ b = o := fun e => hij (by rw [e])
  by_cases q1 : s 117 b = -1
  rotate_left
  · refine ok_ref (r := false) g 0 (by omega) ?_ (fun x L1 M1 _ => ?_)
    · simp (disch := omega) only [fn_149, ↓LCb L, ↓LStb L, LC L, LSt L, ↓c146b L V I.2.1, k1, h5, hbo, q1, r1, decide_false, eq_self, Nat.le_refl, Nat.lt_irrefl, some_if, Option.bind_some, Option.bind_none, Option.some.injEq, ↓reduceIte, reduceCtorEq, Bool.false_eq_true, Bool.true_eq_false, not_true_eq_false, not_false_eq_true, cmb0, cmb1, Nat.reduceAdd, Nat.reduceMul, Nat.reduceSub, Nat.add_zero, Bool.not_eq_true, Bool.not_eq_false, Nat.reduceEqDiff, Nat.reduceLeDiff, Nat.reduceLT, Int32.reduceLT, Int32.reduceLE, iin_nI, iin_lit, iin_m1, tn_nI, tn_lit, nI_lm, nI_ml, nI_al, nI_la, nI_add, pk_mul, nI_le_l, nI_l_le, nI_lt_l, nI_l_lt, nI_eq_l, nI_l_eq, nI_eqP, nI_leP, nI_ltP, nI_m1, m1_nI, nI_ll, m1_l, l_m1]
    · simp (disch := omega) only [fn_236, ↓LMb L1, LM L1, RM M1, ↓mBoxb L1 M1 I.2.1, ↓mAheadb L1 M1 I.2.1, h6, hbo, q1, r2 x L1, decide_true, eq_self, Nat.le_refl, Nat.lt_irrefl, some_if, Option.bind_some, Option.bind_none, Option.some.injEq, ↓reduceIte, reduceCtorEq, Bool.false_eq_true, Bool.true_eq_false, not_true_eq_false, not_false_eq_true, cmb0, cmb1, Nat.reduceAdd, Nat.reduceMul, Nat.reduceSub, Nat.add_zero, Bool.not_eq_true, Bool.not_eq_false, Nat.reduceEqDiff, Nat.reduceLeDiff, Nat.reduceLT, Int32.reduceLT, Int32.reduceLE, iin_nI, iin_lit, iin_m1, tn_nI, tn_lit, nI_lm, nI_ml, nI_al, nI_la, nI_add, pk_mul, nI_le_l, nI_l_le, nI_lt_l, nI_l_lt, nI_eq_l, nI_l_eq, nI_eqP, nI_leP, nI_ltP, nI_m1, m1_nI, nI_ll, m1_l, l_m1]
  by_cases q2 : s 117 o = -1
  rotate_left
  · refine ok_ref (r := false) g 0 (by omega) ?_ (fun x L1 M1 _ => ?_)
    · simp (disch := omega) only [fn_149, ↓LCb L, ↓LStb L, LC L, LSt L, ↓c146b L V I.2.1, k1, k2, h5, hbo, q1, q2, r1, decide_true, decide_false, eq_self, Nat.le_refl, Nat.lt_irrefl, some_if, Option.bind_some, Option.bind_none, Option.some.injEq, ↓reduceIte, reduceCtorEq, Bool.false_eq_true, Bool.true_eq_false, not_true_eq_false, not_false_eq_true, cmb0, cmb1, Nat.reduceAdd, Nat.reduceMul, Nat.reduceSub, Nat.add_zero, Bool.not_eq_true, Bool.not_eq_false, Nat.reduceEqDiff, Nat.reduceLeDiff, Nat.reduceLT, Int32.reduceLT, Int32.reduceLE, iin_nI, iin_lit, iin_m1, tn_nI, tn_lit, nI_lm, nI_ml, nI_al, nI_la, nI_add, pk_mul, nI_le_l, nI_l_le, nI_lt_l, nI_l_lt, nI_eq_l, nI_l_eq, nI_eqP, nI_leP, nI_ltP, nI_m1, m1_nI, nI_ll, m1_l, l_m1]
    · simp (disch := omega) only [fn_236, ↓LMb L1, LM L1, RM M1, ↓mBoxb L1 M1 I.2.1, ↓mAheadb L1 M1 I.2.1, h6, hbo, q1, q2, r2 x L1, decide_true, eq_self, Nat.le_refl, Nat.lt_irrefl, some_if, Option.bind_some, Option.bind_none, Option.some.injEq, ↓reduceIte, reduceCtorEq, Bool.false_eq_true, Bool.true_eq_false, not_true_eq_false, not_false_eq_true, cmb0, cmb1, Nat.reduceAdd, Nat.reduceMul, Nat.reduceSub, Nat.add_zero, Bool.not_eq_true, Bool.not_eq_false, Nat.reduceEqDiff, Nat.reduceLeDiff, Nat.reduceLT, Int32.reduceLT, Int32.reduceLE, iin_nI, iin_lit, iin_m1, tn_nI, tn_lit, nI_lm, nI_ml, nI_al, nI_la, nI_add, pk_mul, nI_le_l, nI_l_le, nI_lt_l, nI_l_lt, nI_eq_l, nI_l_eq, nI_eqP, nI_leP, nI_ltP, nI_m1, m1_nI, nI_ll, m1_l, l_m1]
  have o1 : ho s b = s 116 b := by unfold ho; rw [ob_self q1]
  have o2 : ho s o = s 116 o := by unfold ho; rw [ob_self q2]
  by_cases q3 : s 116 b = s 116 o
  rotate_left
  · refine ok_ref (r := false) g 0 (by omega) ?_ (fun x L1 M1 _ => ?_)
    · simp (disch := omega) only [fn_149, ↓LCb L, ↓LStb L, LC L, LSt L, ↓c146b L V I.2.1, k1, k2, c17 L V I.2.1 hb, c17 L V I.2.1 hoo, o1, o2, h5, hbo, q1, q2, q3, r1, decide_true, decide_false, eq_self, Nat.le_refl, Nat.lt_irrefl, some_if, Option.bind_some, Option.bind_none, Option.some.injEq, ↓reduceIte, reduceCtorEq, Bool.false_eq_true, Bool.true_eq_false, not_true_eq_false, not_false_eq_true, cmb0, cmb1, Nat.reduceAdd, Nat.reduceMul, Nat.reduceSub, Nat.add_zero, Bool.not_eq_true, Bool.not_eq_false, Nat.reduceEqDiff, Nat.reduceLeDiff, Nat.reduceLT, Int32.reduceLT, Int32.reduceLE, iin_nI, iin_lit, iin_m1, tn_nI, tn_lit, nI_lm, nI_ml, nI_al, nI_la, nI_add, pk_mul, nI_le_l, nI_l_le, nI_lt_l, nI_l_lt, nI_eq_l, nI_l_eq, nI_eqP, nI_leP, nI_ltP, nI_m1, m1_nI, nI_ll, m1_l, l_m1]
    · simp (disch := omega) only [fn_236, ↓LMb L1, LM L1, RM M1, ↓mBoxb L1 M1 I.2.1, ↓mAheadb L1 M1 I.2.1, h6, hbo, q1, q2, q3, r2 x L1, decide_true, eq_self, Nat.le_refl, Nat.lt_irrefl, some_if, Option.bind_some, Option.bind_none, Option.some.injEq, ↓reduceIte, reduceCtorEq, Bool.false_eq_true, Bool.true_eq_false, not_true_eq_false, not_false_eq_true, cmb0, cmb1, Nat.reduceAdd, Nat.reduceMul, Nat.reduceSub, Nat.add_zero, Bool.not_eq_true, Bool.not_eq_false, Nat.reduceEqDiff, Nat.reduceLeDiff, Nat.reduceLT, Int32.reduceLT, Int32.reduceLE, iin_nI, iin_lit, iin_m1, tn_nI, tn_lit, nI_lm, nI_ml, nI_al, nI_la, nI_add, pk_mul, nI_le_l, nI_l_le, nI_lt_l, nI_l_lt, nI_eq_l, nI_l_eq, nI_eqP, nI_leP, nI_ltP, nI_m1, m1_nI, nI_ll, m1_l, l_m1]
  refine ok_st (fun x => cm_sI x 117 b (nI o)) (r := true) (w1 := cm_sI w 32 (6 * b + 3) (nI o)) (s' := cm_up s 117 b (nI o)) g ?_ (fun x L1 M1 => ⟨?_, L1, M1.up, fun a ha j => I_ne (by omega), rfl⟩) L (M.sI rfl) (V.setB (k := 3) hb (by omega)) (fun a ha j => I_ne (by omega)) (sa_up rfl) rfl (I.2.1.into hb hoo hbo q1 q2)
  · have e3 : fn_149_69 2 (nI b) (nI o) w = some (true, cm_sI w 32 (6 * b + 3) (nI o)) := by
      simp (disch := omega) only [fn_149_69, ↓LCb L, ↓LStb L, LC L, LSt L, setB L V.2.1.1 (V.1.1.trans hB.1) hB.2 hb, eq_self, Nat.le_refl, Nat.lt_irrefl, some_if, Option.bind_some, Option.bind_none, Option.some.injEq, ↓reduceIte, reduceCtorEq, Bool.false_eq_true, Bool.true_eq_false, not_true_eq_false, not_false_eq_true, cmb0, cmb1, Nat.reduceAdd, Nat.reduceMul, Nat.reduceSub, Nat.add_zero, Bool.not_eq_true, Bool.not_eq_false, Nat.reduceEqDiff, Nat.reduceLeDiff, Nat.reduceLT, Int32.reduceLT, Int32.reduceLE, iin_nI, iin_lit, iin_m1, tn_nI, tn_lit, nI_lm, nI_ml, nI_al, nI_la, nI_add, pk_mul, nI_le_l, nI_l_le, nI_lt_l, nI_l_lt, nI_eq_l, nI_l_eq, nI_eqP, nI_leP, nI_ltP, nI_m1, m1_nI, nI_ll, m1_l, l_m1]
    simp (disch := omega) only [fn_149, ↓LCb L, ↓LStb L, LC L, LSt L, ↓c146b L V I.2.1, k1, k2, c17 L V I.2.1 hb, c17 L V I.2.1 hoo, o1, o2, h5, hbo, q1, q2, q3, e3, decide_true, decide_false, eq_self, Nat.le_refl, Nat.lt_irrefl, some_if, Option.bind_some, Option.bind_none, Option.some.injEq, ↓reduceIte, reduceCtorEq, Bool.false_eq_true, Bool.true_eq_false, not_true_eq_false, not_false_eq_true, cmb0, cmb1, Nat.reduceAdd, Nat.reduceMul, Nat.reduceSub, Nat.add_zero, Bool.not_eq_true, Bool.not_eq_false, Nat.reduceEqDiff, Nat.reduceLeDiff, Nat.reduceLT, Int32.reduceLT, Int32.reduceLE, iin_nI, iin_lit, iin_m1, tn_nI, tn_lit, nI_lm, nI_ml, nI_al, nI_la, nI_add, pk_mul, nI_le_l, nI_l_le, nI_lt_l, nI_l_lt, nI_eq_l, nI_l_eq, nI_eqP, nI_leP, nI_ltP, nI_m1, m1_nI, nI_ll, m1_l, l_m1]
  · simp (disch := omega) only [fn_236, fn_236_69, ↓LMb L1, LM L1, RM M1, ↓mBoxb L1 M1 I.2.1, ↓mAheadb L1 M1 I.2.1, h6, hbo, q1, q2, q3, decide_true, cm_w2, Nat.reduceLeDiff, Nat.reduceLT, decide_true, Bool.and_self, Bool.and_true, eq_self, Nat.le_refl, Nat.lt_irrefl, some_if, Option.bind_some, Option.bind_none, Option.some.injEq, ↓reduceIte, reduceCtorEq, Bool.false_eq_true, Bool.true_eq_false, not_true_eq_false, not_false_eq_true, cmb0, cmb1, Nat.reduceAdd, Nat.reduceMul, Nat.reduceSub, Nat.add_zero, Bool.not_eq_true, Bool.not_eq_false, Nat.reduceEqDiff, Nat.reduceLeDiff, Nat.reduceLT, Int32.reduceLT, Int32.reduceLE, iin_nI, iin_lit, iin_m1, tn_nI, tn_lit, nI_lm, nI_ml, nI_al, nI_la, nI_add, pk_mul, nI_le_l, nI_l_le, nI_lt_l, nI_l_lt, nI_eq_l, nI_l_eq, nI_eqP, nI_leP, nI_ltP, nI_m1, m1_nI, nI_ll, m1_l, l_m1]
end WR2
