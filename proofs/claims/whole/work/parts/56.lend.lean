/-! lend, bring, holds -/
section LEND
variable {v c u n : Nat} {w w' : cm_W} {s s' : St}
theorem R96_27 (L : Lay v c w) {β : Type} (f : Nat → Option β) : (cm_R w 96 27).bind f = f 105 := by simp only [LMb L]
theorem R96_42 (L : Lay v c w) {β : Type} (f : Nat → Option β) : (cm_R w 96 42).bind f = f 116 := by simp only [LMb L]
theorem R96_52 (L : Lay v c w) {β : Type} (f : Nat → Option β) : (cm_R w 96 52).bind f = f 124 := by simp only [LMb L]
theorem R96_53 (L : Lay v c w) {β : Type} (f : Nat → Option β) : (cm_R w 96 53).bind f = f 125 := by simp only [LMb L]
theorem R96_54 (L : Lay v c w) {β : Type} (f : Nat → Option β) : (cm_R w 96 54).bind f = f 126 := by simp only [LMb L]
theorem R96_55 (L : Lay v c w) {β : Type} (f : Nat → Option β) : (cm_R w 96 55).bind f = f 127 := by simp only [LMb L]
theorem R96_56 (L : Lay v c w) {β : Type} (f : Nat → Option β) : (cm_R w 96 56).bind f = f 128 := by simp only [LMb L]
theorem R96_57 (L : Lay v c w) {β : Type} (f : Nat → Option β) : (cm_R w 96 57).bind f = f 129 := by simp only [LMb L]
theorem pay_lift {p q : Nat} {k : Int32} {x : cm_W} (M : RelM x s) (hp : p < 12) (hq : q < 12) : RelM (cm_sI (cm_sI x 105 p (cm_I x 105 p - k)) 105 q (cm_I (cm_sI x 105 p (cm_I x 105 p - k)) 105 q + k)) (pay s p q k) := by
  have h1 : cm_I x 105 p = s 105 p := M 105 p (decide_eq_true hp)
  have M1 := M.up (a := 105) (k := p) (x := s 105 p - k)
  have h2 : cm_I (cm_sI x 105 p (s 105 p - k)) 105 q = cm_up s 105 p (s 105 p - k) 105 q := M1 105 q (decide_eq_true hq)
  unfold pay
  rw [h1, h2]
  exact M1.up
set_option maxHeartbeats 4000000 in
theorem m257 {x : cm_W} (L1 : Lay v c x) (M1 : RelM x s) (e51 : cm_I x 96 51 = nI (nL s)) (hL : nL s < 20) {b p f a t : Nat} (hb : b < nB s) (hp : p < nP s) (hf : f < nP s) (hP : nP s ≤ 12) (hB : nB s ≤ 40) (ef : s 116 b = nI f) (ha : a < 10000) (ht : t < 11) : ∃ y, fn_257_98 96 (nI b) (nI p) (nI a) (nI t) x = some (nI (nL s), y) ∧ Lay v c y ∧ RelM y (cm_up (cm_up (pay (cm_up (cm_up (cm_up (cm_up (cm_up (cm_up s 124 (nL s) (nI b)) 125 (nL s) (nI f)) 126 (nL s) (nI p)) 127 (nL s) (nI a)) 128 (nL s) (nI (a * t) / 10)) 129 (nL s) 0) p f (nI a)) 116 b (nI p)) 96 51 (nI (nL s + 1))) ∧ (∀ a', a' < 96 → ∀ j, cm_I y a' j = cm_I x a' j) ∧ cm_L y = cm_L x := by
  have hl : nL s < 2147483648 := by omega
  have e116 : cm_I x 116 b = nI f := (M1 116 b (decide_eq_true (show b < 40 by omega))).trans ef
  rw [fn_257_98, if_pos (S96 L1), R96_52 L1, e51, if_pos (show cm_ga x .int 124 (nI (nL s)) = true from by rw [ga_of (n := 20) ((L1.sh (by decide) (by decide)).trans rfl)]; exact iin_nI (by omega) (by decide)), if_pos (show cm_w2 96 143 124 = true from by decide), tn_nI hl]
  obtain ⟨y1, hy1⟩ : ∃ y, y = cm_sI x 124 (nL s) (nI b) := ⟨_, rfl⟩
  rw [← hy1]
  have L_1 : Lay v c y1 := by rw [hy1]; exact L1
  have e51_1 : cm_I y1 96 51 = nI (nL s) := by rw [hy1, I_ne (by decide)]; exact e51
  have e116_1 : cm_I y1 116 b = nI f := by rw [hy1, I_ne (by decide)]; exact e116
  have M_1 : RelM y1 (cm_up s 124 (nL s) (nI b)) := by rw [hy1]; exact M1.up
  rw [R96_53 L_1, R96_42 L_1, if_pos (show cm_ga x .int 116 (nI b) = true from by rw [ga_of (n := 40) ((L1.sh (by decide) (by decide)).trans rfl)]; exact iin_nI (by omega) (by decide)), e51_1, if_pos (show cm_ga x .int 125 (nI (nL s)) = true from by rw [ga_of (n := 20) ((L1.sh (by decide) (by decide)).trans rfl)]; exact iin_nI (by omega) (by decide)), if_pos (show cm_w2 96 143 125 = true from by decide), tn_nI hl, tn_nI (k := b) (by omega), e116_1]
  obtain ⟨y2, hy2⟩ : ∃ y, y = cm_sI y1 125 (nL s) (nI f) := ⟨_, rfl⟩
  rw [← hy2]
  have L_2 : Lay v c y2 := by rw [hy2]; exact L_1
  have e51_2 : cm_I y2 96 51 = nI (nL s) := by rw [hy2, I_ne (by decide)]; exact e51_1
  have e116_2 : cm_I y2 116 b = nI f := by rw [hy2, I_ne (by decide)]; exact e116_1
  have M_2 : RelM y2 (cm_up (cm_up s 124 (nL s) (nI b)) 125 (nL s) (nI f)) := by rw [hy2]; exact M_1.up
  rw [R96_54 L_2, e51_2, if_pos (show cm_ga x .int 126 (nI (nL s)) = true from by rw [ga_of (n := 20) ((L1.sh (by decide) (by decide)).trans rfl)]; exact iin_nI (by omega) (by decide)), if_pos (show cm_w2 96 143 126 = true from by decide), tn_nI hl]
  obtain ⟨y3, hy3⟩ : ∃ y, y = cm_sI y2 126 (nL s) (nI p) := ⟨_, rfl⟩
  rw [← hy3]
  have L_3 : Lay v c y3 := by rw [hy3]; exact L_2
  have e51_3 : cm_I y3 96 51 = nI (nL s) := by rw [hy3, I_ne (by decide)]; exact e51_2
  have e116_3 : cm_I y3 116 b = nI f := by rw [hy3, I_ne (by decide)]; exact e116_2
  have M_3 : RelM y3 (cm_up (cm_up (cm_up s 124 (nL s) (nI b)) 125 (nL s) (nI f)) 126 (nL s) (nI p)) := by rw [hy3]; exact M_2.up
  rw [R96_55 L_3, e51_3, if_pos (show cm_ga x .int 127 (nI (nL s)) = true from by rw [ga_of (n := 20) ((L1.sh (by decide) (by decide)).trans rfl)]; exact iin_nI (by omega) (by decide)), if_pos (show cm_w2 96 143 127 = true from by decide), tn_nI hl]
  obtain ⟨y4, hy4⟩ : ∃ y, y = cm_sI y3 127 (nL s) (nI a) := ⟨_, rfl⟩
  rw [← hy4]
  have L_4 : Lay v c y4 := by rw [hy4]; exact L_3
  have e51_4 : cm_I y4 96 51 = nI (nL s) := by rw [hy4, I_ne (by decide)]; exact e51_3
  have e116_4 : cm_I y4 116 b = nI f := by rw [hy4, I_ne (by decide)]; exact e116_3
  have M_4 : RelM y4 (cm_up (cm_up (cm_up (cm_up s 124 (nL s) (nI b)) 125 (nL s) (nI f)) 126 (nL s) (nI p)) 127 (nL s) (nI a)) := by rw [hy4]; exact M_3.up
  rw [R96_56 L_4, e51_4, if_pos (show cm_ga x .int 128 (nI (nL s)) = true from by rw [ga_of (n := 20) ((L1.sh (by decide) (by decide)).trans rfl)]; exact iin_nI (by omega) (by decide)), if_pos (show cm_w2 96 143 128 = true from by decide), tn_nI hl, pk_mul]
  obtain ⟨y5, hy5⟩ : ∃ y, y = cm_sI y4 128 (nL s) (nI (a * t) / 10) := ⟨_, rfl⟩
  rw [← hy5]
  have L_5 : Lay v c y5 := by rw [hy5]; exact L_4
  have e51_5 : cm_I y5 96 51 = nI (nL s) := by rw [hy5, I_ne (by decide)]; exact e51_4
  have e116_5 : cm_I y5 116 b = nI f := by rw [hy5, I_ne (by decide)]; exact e116_4
  have M_5 : RelM y5 (cm_up (cm_up (cm_up (cm_up (cm_up s 124 (nL s) (nI b)) 125 (nL s) (nI f)) 126 (nL s) (nI p)) 127 (nL s) (nI a)) 128 (nL s) (nI (a * t) / 10)) := by rw [hy5]; exact M_4.up
  rw [R96_57 L_5, e51_5, if_pos (show cm_ga x .int 129 (nI (nL s)) = true from by rw [ga_of (n := 20) ((L1.sh (by decide) (by decide)).trans rfl)]; exact iin_nI (by omega) (by decide)), if_pos (show cm_w2 96 143 129 = true from by decide), tn_nI hl]
  obtain ⟨y6, hy6⟩ : ∃ y, y = cm_sI y5 129 (nL s) (0) := ⟨_, rfl⟩
  rw [← hy6]
  have L_6 : Lay v c y6 := by rw [hy6]; exact L_5
  have e51_6 : cm_I y6 96 51 = nI (nL s) := by rw [hy6, I_ne (by decide)]; exact e51_5
  have e116_6 : cm_I y6 116 b = nI f := by rw [hy6, I_ne (by decide)]; exact e116_5
  have M_6 : RelM y6 (cm_up (cm_up (cm_up (cm_up (cm_up (cm_up s 124 (nL s) (nI b)) 125 (nL s) (nI f)) 126 (nL s) (nI p)) 127 (nL s) (nI a)) 128 (nL s) (nI (a * t) / 10)) 129 (nL s) (0)) := by rw [hy6]; exact M_5.up
  rw [R96_27 L_6, if_pos (show cm_ga x .int 105 (nI p) = true from by rw [ga_of (n := 24) ((L1.sh (by decide) (by decide)).trans rfl)]; exact iin_nI (by omega) (by decide)), if_pos (show cm_w2 96 143 105 = true from by decide), tn_nI (k := p) (by omega)]
  obtain ⟨y7, hy7⟩ : ∃ y, y = cm_sI y6 105 (p) (cm_I y6 105 p - nI a) := ⟨_, rfl⟩
  rw [← hy7]
  have L_7 : Lay v c y7 := by rw [hy7]; exact L_6
  have e51_7 : cm_I y7 96 51 = nI (nL s) := by rw [hy7, I_ne (by decide)]; exact e51_6
  have e116_7 : cm_I y7 116 b = nI f := by rw [hy7, I_ne (by decide)]; exact e116_6
  rw [R96_27 L_7, R96_42 L_7, if_pos (show cm_ga x .int 116 (nI b) = true from by rw [ga_of (n := 40) ((L1.sh (by decide) (by decide)).trans rfl)]; exact iin_nI (by omega) (by decide)), e116_7, if_pos (show cm_ga x .int 105 (nI f) = true from by rw [ga_of (n := 24) ((L1.sh (by decide) (by decide)).trans rfl)]; exact iin_nI (by omega) (by decide)), if_pos (show cm_w2 96 143 105 = true from by decide), tn_nI (k := f) (by omega)]
  obtain ⟨y8, hy8⟩ : ∃ y, y = cm_sI y7 105 (f) (cm_I y7 105 f + nI a) := ⟨_, rfl⟩
  rw [← hy8]
  have L_8 : Lay v c y8 := by rw [hy8]; exact L_7
  have e51_8 : cm_I y8 96 51 = nI (nL s) := by rw [hy8, I_ne (by decide)]; exact e51_7
  have M_8 : RelM y8 (pay (cm_up (cm_up (cm_up (cm_up (cm_up (cm_up s 124 (nL s) (nI b)) 125 (nL s) (nI f)) 126 (nL s) (nI p)) 127 (nL s) (nI a)) 128 (nL s) (nI (a * t) / 10)) 129 (nL s) (0)) p f (nI a)) := by rw [hy8, hy7]; exact pay_lift M_6 (by omega) (by omega)
  rw [R96_42 L_8, if_pos (show cm_ga x .int 116 (nI b) = true from by rw [ga_of (n := 40) ((L1.sh (by decide) (by decide)).trans rfl)]; exact iin_nI (by omega) (by decide)), if_pos (show cm_w2 96 143 116 = true from by decide)]
  obtain ⟨y9, hy9⟩ : ∃ y, y = cm_sI y8 116 (b) (nI p) := ⟨_, rfl⟩
  rw [← hy9]
  have L_9 : Lay v c y9 := by rw [hy9]; exact L_8
  have e51_9 : cm_I y9 96 51 = nI (nL s) := by rw [hy9, I_ne (by decide)]; exact e51_8
  have M_9 : RelM y9 (cm_up (pay (cm_up (cm_up (cm_up (cm_up (cm_up (cm_up s 124 (nL s) (nI b)) 125 (nL s) (nI f)) 126 (nL s) (nI p)) 127 (nL s) (nI a)) 128 (nL s) (nI (a * t) / 10)) 129 (nL s) (0)) p f (nI a)) 116 b (nI p)) := by rw [hy9]; exact M_8.up
  rw [if_pos (show cm_w2 96 143 96 = true from by decide), I_eq, e51_9, nI_1, nI_pred]
  refine ⟨_, rfl, ?_, M_9.up, fun a' ha' j => ?_, ?_⟩
  · exact L_9
  · rw [hy9, hy8, hy7, hy6, hy5, hy4, hy3, hy2, hy1]; simp (disch := omega) only [I_ne]
  · rw [hy9, hy8, hy7, hy6, hy5, hy4, hy3, hy2, hy1]; rfl
theorem w_lend (g : GG v c w s) (i j k l : Int32) : OKW (fn_163 2 i j k l) (fn_257 96 i j k l) w := by
  obtain ⟨L, M, C, Z, I⟩ := id g
  have hv := L.1
  have V := C.2.2.1
  have hB := I.2.1.2.1
  have hM := I.2.1.1
  have hP := I.1.2.1
  have hL := I.2.1.2.2.2.1
  have r1 : fn_163_27 2 w = some (-1, cm_sI w 42 0 (cm_I w 42 0 + 1)) := by
    simp (disch := omega) only [fn_163_27, LC L, c140 L, eq_self, Nat.le_refl, Nat.lt_irrefl, some_if, Option.bind_some, Option.bind_none, Option.some.injEq, ↓reduceIte, reduceCtorEq, Bool.false_eq_true, Bool.true_eq_false, not_true_eq_false, not_false_eq_true, cmb0, cmb1, Nat.reduceAdd, Nat.reduceMul, Nat.reduceSub, Nat.add_zero, Bool.not_eq_true, Bool.not_eq_false, Nat.reduceEqDiff, Nat.reduceLeDiff, Nat.reduceLT, Int32.reduceLT, Int32.reduceLE, iin_nI, iin_lit, iin_m1, tn_nI, tn_lit, nI_lm, nI_ml, nI_al, nI_la, nI_add, pk_mul, nI_le_l, nI_l_le, nI_lt_l, nI_l_lt, nI_eq_l, nI_l_eq, nI_eqP, nI_leP, nI_ltP, nI_m1, m1_nI, nI_ll, m1_l, l_m1]
  have r2 : ∀ x, Lay v c x → fn_257_75 96 x = some (-1, cm_sI x 97 0 (cm_I x 97 0 + 1)) := fun x L1 => by
    simp (disch := omega) only [fn_257_75, LM L1, m199 L1, eq_self, Nat.le_refl, Nat.lt_irrefl, some_if, Option.bind_some, Option.bind_none, Option.some.injEq, ↓reduceIte, reduceCtorEq, Bool.false_eq_true, Bool.true_eq_false, not_true_eq_false, not_false_eq_true, cmb0, cmb1, Nat.reduceAdd, Nat.reduceMul, Nat.reduceSub, Nat.add_zero, Bool.not_eq_true, Bool.not_eq_false, Nat.reduceEqDiff, Nat.reduceLeDiff, Nat.reduceLT, Int32.reduceLT, Int32.reduceLE, iin_nI, iin_lit, iin_m1, tn_nI, tn_lit, nI_lm, nI_ml, nI_al, nI_la, nI_add, pk_mul, nI_le_l, nI_l_le, nI_lt_l, nI_l_lt, nI_eq_l, nI_l_eq, nI_eqP, nI_leP, nI_ltP, nI_m1, m1_nI, nI_ll, m1_l, l_m1]
  have mm : ∀ x, Lay v c x → RelM x s → fn_257 96 i j k l x = if (1 ≤ k ∧ 0 ≤ l ∧ l ≤ 10) ∧ cgB s i j k = true then fn_257_82 96 i j k l x else some (-1, cm_sI x 97 0 (cm_I x 97 0 + 1)) := by
    intro x L1 M1
    rcases iin_cs i (n := nB s) (by omega) with h | ⟨b, hb, rfl⟩
    · rw [if_neg (fun q => absurd (h.symm.trans (cgB_i.mp q.2).2.2.2.1) Bool.false_ne_true)]
      simp (disch := omega) only [fn_257, ↓LMb L1, ↓mBoxb L1 M1 I.2.1, ↓mWhob L1 M1 I.1, ↓mThingb L1 M1 I.1, ↓mAheadb L1 M1 I.2.1, LM L1, h, r2 x L1, eq_self, Nat.le_refl, Nat.lt_irrefl, some_if, Option.bind_some, Option.bind_none, Option.some.injEq, ↓reduceIte, reduceCtorEq, Bool.false_eq_true, Bool.true_eq_false, not_true_eq_false, not_false_eq_true, cmb0, cmb1, Nat.reduceAdd, Nat.reduceMul, Nat.reduceSub, Nat.add_zero, Bool.not_eq_true, Bool.not_eq_false, Nat.reduceEqDiff, Nat.reduceLeDiff, Nat.reduceLT, Int32.reduceLT, Int32.reduceLE, iin_nI, iin_lit, iin_m1, tn_nI, tn_lit, nI_lm, nI_ml, nI_al, nI_la, nI_add, pk_mul, nI_le_l, nI_l_le, nI_lt_l, nI_l_lt, nI_eq_l, nI_l_eq, nI_eqP, nI_leP, nI_ltP, nI_m1, m1_nI, nI_ll, m1_l, l_m1]
    rcases iin_cs j (n := nP s) (by omega) with h | ⟨p, hp, rfl⟩
    · rw [if_neg (fun q => absurd (h.symm.trans (cgB_i.mp q.2).2.2.1) Bool.false_ne_true)]
      simp (disch := omega) only [fn_257, ↓LMb L1, ↓mBoxb L1 M1 I.2.1, ↓mWhob L1 M1 I.1, ↓mThingb L1 M1 I.1, ↓mAheadb L1 M1 I.2.1, LM L1, h, r2 x L1, eq_self, Nat.le_refl, Nat.lt_irrefl, some_if, Option.bind_some, Option.bind_none, Option.some.injEq, ↓reduceIte, reduceCtorEq, Bool.false_eq_true, Bool.true_eq_false, not_true_eq_false, not_false_eq_true, cmb0, cmb1, Nat.reduceAdd, Nat.reduceMul, Nat.reduceSub, Nat.add_zero, Bool.not_eq_true, Bool.not_eq_false, Nat.reduceEqDiff, Nat.reduceLeDiff, Nat.reduceLT, Int32.reduceLT, Int32.reduceLE, iin_nI, iin_lit, iin_m1, tn_nI, tn_lit, nI_lm, nI_ml, nI_al, nI_la, nI_add, pk_mul, nI_le_l, nI_l_le, nI_lt_l, nI_l_lt, nI_eq_l, nI_l_eq, nI_eqP, nI_leP, nI_ltP, nI_m1, m1_nI, nI_ll, m1_l, l_m1]
    have eb : tn (nI b) = b := tn_nIe (by omega)
    have ep : tn (nI p) = p := tn_nIe (by omega)
    by_cases hk : 1 ≤ k ∧ k ≤ 9999
    rotate_left
    · rw [if_neg (fun q => hk ⟨q.1.1, (cgB_i.mp q.2).2.1⟩)]
      simp (disch := omega) only [fn_257, ↓LMb L1, ↓mBoxb L1 M1 I.2.1, ↓mWhob L1 M1 I.1, ↓mThingb L1 M1 I.1, ↓mAheadb L1 M1 I.2.1, LM L1, isIn_g, hk, r2 x L1, decide_false, eq_self, Nat.le_refl, Nat.lt_irrefl, some_if, Option.bind_some, Option.bind_none, Option.some.injEq, ↓reduceIte, reduceCtorEq, Bool.false_eq_true, Bool.true_eq_false, not_true_eq_false, not_false_eq_true, cmb0, cmb1, Nat.reduceAdd, Nat.reduceMul, Nat.reduceSub, Nat.add_zero, Bool.not_eq_true, Bool.not_eq_false, Nat.reduceEqDiff, Nat.reduceLeDiff, Nat.reduceLT, Int32.reduceLT, Int32.reduceLE, iin_nI, iin_lit, iin_m1, tn_nI, tn_lit, nI_lm, nI_ml, nI_al, nI_la, nI_add, pk_mul, nI_le_l, nI_l_le, nI_lt_l, nI_l_lt, nI_eq_l, nI_l_eq, nI_eqP, nI_leP, nI_ltP, nI_m1, m1_nI, nI_ll, m1_l, l_m1]
    by_cases hl : 0 ≤ l ∧ l ≤ 10
    rotate_left
    · rw [if_neg (fun q => hl q.1.2)]
      simp (disch := omega) only [fn_257, ↓LMb L1, ↓mBoxb L1 M1 I.2.1, ↓mWhob L1 M1 I.1, ↓mThingb L1 M1 I.1, ↓mAheadb L1 M1 I.2.1, LM L1, isIn_g, hk, hl, r2 x L1, decide_true, decide_false, and_self, eq_self, Nat.le_refl, Nat.lt_irrefl, some_if, Option.bind_some, Option.bind_none, Option.some.injEq, ↓reduceIte, reduceCtorEq, Bool.false_eq_true, Bool.true_eq_false, not_true_eq_false, not_false_eq_true, cmb0, cmb1, Nat.reduceAdd, Nat.reduceMul, Nat.reduceSub, Nat.add_zero, Bool.not_eq_true, Bool.not_eq_false, Nat.reduceEqDiff, Nat.reduceLeDiff, Nat.reduceLT, Int32.reduceLT, Int32.reduceLE, iin_nI, iin_lit, iin_m1, tn_nI, tn_lit, nI_lm, nI_ml, nI_al, nI_la, nI_add, pk_mul, nI_le_l, nI_l_le, nI_lt_l, nI_l_lt, nI_eq_l, nI_l_eq, nI_eqP, nI_leP, nI_ltP, nI_m1, m1_nI, nI_ll, m1_l, l_m1]
    by_cases h6 : nM s < 5
    rotate_left
    · rw [if_neg (fun q => h6 (cgB_i.mp q.2).1)]
      simp (disch := omega) only [fn_257, ↓LMb L1, ↓mBoxb L1 M1 I.2.1, ↓mWhob L1 M1 I.1, ↓mThingb L1 M1 I.1, ↓mAheadb L1 M1 I.2.1, LM L1, isIn_g, hk, hl, h6, r2 x L1, decide_true, decide_false, and_self, eq_self, Nat.le_refl, Nat.lt_irrefl, some_if, Option.bind_some, Option.bind_none, Option.some.injEq, ↓reduceIte, reduceCtorEq, Bool.false_eq_true, Bool.true_eq_false, not_true_eq_false, not_false_eq_true, cmb0, cmb1, Nat.reduceAdd, Nat.reduceMul, Nat.reduceSub, Nat.add_zero, Bool.not_eq_true, Bool.not_eq_false, Nat.reduceEqDiff, Nat.reduceLeDiff, Nat.reduceLT, Int32.reduceLT, Int32.reduceLE, iin_nI, iin_lit, iin_m1, tn_nI, tn_lit, nI_lm, nI_ml, nI_al, nI_la, nI_add, pk_mul, nI_le_l, nI_l_le, nI_lt_l, nI_l_lt, nI_eq_l, nI_l_eq, nI_eqP, nI_leP, nI_ltP, nI_m1, m1_nI, nI_ll, m1_l, l_m1]
    by_cases q1 : s 117 b = -1
    rotate_left
    · rw [if_neg (fun q => q1 (by have := (cgB_i.mp q.2).2.2.2.2.1; rw [eb] at this; exact this))]
      simp (disch := omega) only [fn_257, ↓LMb L1, ↓mBoxb L1 M1 I.2.1, ↓mWhob L1 M1 I.1, ↓mThingb L1 M1 I.1, ↓mAheadb L1 M1 I.2.1, LM L1, RM M1, isIn_g, hk, hl, h6, q1, r2 x L1, decide_true, decide_false, and_self, eq_self, Nat.le_refl, Nat.lt_irrefl, some_if, Option.bind_some, Option.bind_none, Option.some.injEq, ↓reduceIte, reduceCtorEq, Bool.false_eq_true, Bool.true_eq_false, not_true_eq_false, not_false_eq_true, cmb0, cmb1, Nat.reduceAdd, Nat.reduceMul, Nat.reduceSub, Nat.add_zero, Bool.not_eq_true, Bool.not_eq_false, Nat.reduceEqDiff, Nat.reduceLeDiff, Nat.reduceLT, Int32.reduceLT, Int32.reduceLE, iin_nI, iin_lit, iin_m1, tn_nI, tn_lit, nI_lm, nI_ml, nI_al, nI_la, nI_add, pk_mul, nI_le_l, nI_l_le, nI_lt_l, nI_l_lt, nI_eq_l, nI_l_eq, nI_eqP, nI_leP, nI_ltP, nI_m1, m1_nI, nI_ll, m1_l, l_m1]
    by_cases q2 : s 116 b = nI p
    · rw [if_neg (fun q => by have := (cgB_i.mp q.2).2.2.2.2.2.1; rw [eb] at this; exact this q2)]
      simp (disch := omega) only [fn_257, ↓LMb L1, ↓mBoxb L1 M1 I.2.1, ↓mWhob L1 M1 I.1, ↓mThingb L1 M1 I.1, ↓mAheadb L1 M1 I.2.1, LM L1, RM M1, isIn_g, hk, hl, h6, q1, q2, r2 x L1, decide_true, decide_false, and_self, eq_self, Nat.le_refl, Nat.lt_irrefl, some_if, Option.bind_some, Option.bind_none, Option.some.injEq, ↓reduceIte, reduceCtorEq, Bool.false_eq_true, Bool.true_eq_false, not_true_eq_false, not_false_eq_true, cmb0, cmb1, Nat.reduceAdd, Nat.reduceMul, Nat.reduceSub, Nat.add_zero, Bool.not_eq_true, Bool.not_eq_false, Nat.reduceEqDiff, Nat.reduceLeDiff, Nat.reduceLT, Int32.reduceLT, Int32.reduceLE, iin_nI, iin_lit, iin_m1, tn_nI, tn_lit, nI_lm, nI_ml, nI_al, nI_la, nI_add, pk_mul, nI_le_l, nI_l_le, nI_lt_l, nI_l_lt, nI_eq_l, nI_l_eq, nI_eqP, nI_leP, nI_ltP, nI_m1, m1_nI, nI_ll, m1_l, l_m1]
    by_cases q3 : k ≤ s 105 p
    · rw [if_pos ⟨⟨hk.1, hl⟩, cgB_i.mpr ⟨by omega, hk.2, iin_nI hp (by omega), iin_nI hb (by omega), by rw [eb]; exact q1, by rw [eb]; exact q2, by rw [ep]; exact q3⟩⟩]
      simp (disch := omega) only [fn_257, ↓LMb L1, ↓mBoxb L1 M1 I.2.1, ↓mWhob L1 M1 I.1, ↓mThingb L1 M1 I.1, ↓mAheadb L1 M1 I.2.1, LM L1, RM M1, isIn_g, hk, hl, h6, q1, q2, q3, decide_true, decide_false, and_self, eq_self, Nat.le_refl, Nat.lt_irrefl, some_if, Option.bind_some, Option.bind_none, Option.some.injEq, ↓reduceIte, reduceCtorEq, Bool.false_eq_true, Bool.true_eq_false, not_true_eq_false, not_false_eq_true, cmb0, cmb1, Nat.reduceAdd, Nat.reduceMul, Nat.reduceSub, Nat.add_zero, Bool.not_eq_true, Bool.not_eq_false, Nat.reduceEqDiff, Nat.reduceLeDiff, Nat.reduceLT, Int32.reduceLT, Int32.reduceLE, iin_nI, iin_lit, iin_m1, tn_nI, tn_lit, nI_lm, nI_ml, nI_al, nI_la, nI_add, pk_mul, nI_le_l, nI_l_le, nI_lt_l, nI_l_lt, nI_eq_l, nI_l_eq, nI_eqP, nI_leP, nI_ltP, nI_m1, m1_nI, nI_ll, m1_l, l_m1]
    · rw [if_neg (fun q => by have := (cgB_i.mp q.2).2.2.2.2.2.2; rw [ep] at this; exact q3 this)]
      simp (disch := omega) only [fn_257, ↓LMb L1, ↓mBoxb L1 M1 I.2.1, ↓mWhob L1 M1 I.1, ↓mThingb L1 M1 I.1, ↓mAheadb L1 M1 I.2.1, LM L1, RM M1, isIn_g, hk, hl, h6, q1, q2, q3, r2 x L1, decide_true, decide_false, and_self, eq_self, Nat.le_refl, Nat.lt_irrefl, some_if, Option.bind_some, Option.bind_none, Option.some.injEq, ↓reduceIte, reduceCtorEq, Bool.false_eq_true, Bool.true_eq_false, not_true_eq_false, not_false_eq_true, cmb0, cmb1, Nat.reduceAdd, Nat.reduceMul, Nat.reduceSub, Nat.add_zero, Bool.not_eq_true, Bool.not_eq_false, Nat.reduceEqDiff, Nat.reduceLeDiff, Nat.reduceLT, Int32.reduceLT, Int32.reduceLE, iin_nI, iin_lit, iin_m1, tn_nI, tn_lit, nI_lm, nI_ml, nI_al, nI_la, nI_add, pk_mul, nI_le_l, nI_l_le, nI_lt_l, nI_l_lt, nI_eq_l, nI_l_eq, nI_eqP, nI_leP, nI_ltP, nI_m1, m1_nI, nI_ll, m1_l, l_m1]
  have cc : fn_163 2 i j k l w = if (1 ≤ k ∧ 0 ≤ l ∧ l ≤ 10) ∧ cgB s i j k = true then fn_163_33 2 i j k l w else some (-1, cm_sI w 42 0 (cm_I w 42 0 + 1)) := by
    unfold fn_163
    by_cases a1 : k < 1
    · rw [if_pos a1, if_neg (fun q => by have := q.1.1; rw [← Int32.not_lt] at this; exact this a1), r1]
    · rw [if_neg a1]
      by_cases a2 : l < 0
      · rw [if_pos a2, if_neg (fun q => by have := q.1.2.1; rw [← Int32.not_lt] at this; exact this a2), r1]
      · rw [if_neg a2]
        by_cases a3 : 10 < l
        · rw [if_pos a3, if_neg (fun q => by have := q.1.2.2; rw [← Int32.not_lt] at this; exact this a3), r1]
        · rw [if_neg a3, if_pos (S2 L), c151 L C I]
          rw [Int32.not_lt] at a1 a2 a3
          cases hh : cgB s i j k with
          | false => rw [if_neg (fun q => Bool.false_ne_true q.2)]; exact r1
          | true => rw [if_pos ⟨⟨a1, a2, a3⟩, rfl⟩]; rfl
  by_cases H : (1 ≤ k ∧ 0 ≤ l ∧ l ≤ 10) ∧ cgB s i j k = true
  rotate_left
  · refine ok_ref (r := -1) g 0 (by omega) ?_ (fun x L1 M1 _ => ?_)
    · rw [cc, if_neg H]
    · rw [mm x L1 M1, if_neg H]
  rw [if_pos H] at cc
  have hm : ∀ x, Lay v c x → RelM x s → fn_257 96 i j k l x = fn_257_82 96 i j k l x := fun x L1 M1 => by rw [mm x L1 M1, if_pos H]
  obtain ⟨⟨hk1, hl0, hl1⟩, H2⟩ := H
  obtain ⟨h6, h9, hj, hi, q1, q2, q3⟩ := cgB_i.mp H2
  obtain ⟨b, hb, rfl⟩ : ∃ b, b < nB s ∧ i = nI b := by
    rcases iin_cs i (n := nB s) (by omega) with h | h
    · rw [h] at hi; cases hi
    · exact h
  obtain ⟨p, hp, rfl⟩ : ∃ p, p < nP s ∧ j = nI p := by
    rcases iin_cs j (n := nP s) (by omega) with h | h
    · rw [h] at hj; cases hj
    · exact h
  obtain ⟨a, ha, rfl⟩ : ∃ a, a < 10000 ∧ k = nI a := by
    obtain ⟨a, ha, rfl⟩ := nI_of (show ¬ k < 0 from fun q => by have := Int32.lt_of_lt_of_le q (Int32.le_trans (show (0 : Int32) ≤ 1 by decide) hk1); exact absurd this Int32.lt_irrefl)
    exact ⟨a, by have := (nI_leI ha (by decide)).mp (show nI a ≤ nI 9999 from h9); omega, rfl⟩
  obtain ⟨t, ht, rfl⟩ : ∃ t, t < 11 ∧ l = nI t := by
    obtain ⟨t, ht, rfl⟩ := nI_of (show ¬ l < 0 by rw [Int32.not_lt]; exact hl0)
    exact ⟨t, by have := (nI_leI ht (by decide)).mp (show nI t ≤ nI 10 from hl1); omega, rfl⟩
  rw [tn_nIe (by omega)] at q1 q2 q3
  have o1 : ho s b = s 116 b := by unfold ho; rw [ob_self q1]
  obtain ⟨f, hf, ef⟩ := ho_rg I.2.1 hb
  have ef2 : s 116 b = nI f := o1.symm.trans ef
  have ful := fulL L V I.2.1
  by_cases h3 : nL s = 20
  · refine ok_ref (r := -1) g 1 (by omega) ?_ (fun x L1 M1 _ => ?_)
    · rw [cc]
      simp (disch := omega) only [fn_163_33, ↓LCb L, ↓LStb L, LC L, LSt L, ful, h3, c140 L, decide_true, eq_self, Nat.le_refl, Nat.lt_irrefl, some_if, Option.bind_some, Option.bind_none, Option.some.injEq, ↓reduceIte, reduceCtorEq, Bool.false_eq_true, Bool.true_eq_false, not_true_eq_false, not_false_eq_true, cmb0, cmb1, Nat.reduceAdd, Nat.reduceMul, Nat.reduceSub, Nat.add_zero, Bool.not_eq_true, Bool.not_eq_false, Nat.reduceEqDiff, Nat.reduceLeDiff, Nat.reduceLT, Int32.reduceLT, Int32.reduceLE, iin_nI, iin_lit, iin_m1, tn_nI, tn_lit, nI_lm, nI_ml, nI_al, nI_la, nI_add, pk_mul, nI_le_l, nI_l_le, nI_lt_l, nI_l_lt, nI_eq_l, nI_l_eq, nI_eqP, nI_leP, nI_ltP, nI_m1, m1_nI, nI_ll, m1_l, l_m1]
    · rw [hm x L1 M1]
      simp (disch := omega) only [fn_257_82, ↓LMb L1, ↓mBoxb L1 M1 I.2.1, ↓mWhob L1 M1 I.1, ↓mThingb L1 M1 I.1, ↓mAheadb L1 M1 I.2.1, LM L1, RM M1, hL.1, h3, m199 L1, eq_self, Nat.le_refl, Nat.lt_irrefl, some_if, Option.bind_some, Option.bind_none, Option.some.injEq, ↓reduceIte, reduceCtorEq, Bool.false_eq_true, Bool.true_eq_false, not_true_eq_false, not_false_eq_true, cmb0, cmb1, Nat.reduceAdd, Nat.reduceMul, Nat.reduceSub, Nat.add_zero, Bool.not_eq_true, Bool.not_eq_false, Nat.reduceEqDiff, Nat.reduceLeDiff, Nat.reduceLT, Int32.reduceLT, Int32.reduceLE, iin_nI, iin_lit, iin_m1, tn_nI, tn_lit, nI_lm, nI_ml, nI_al, nI_la, nI_add, pk_mul, nI_le_l, nI_l_le, nI_lt_l, nI_l_lt, nI_eq_l, nI_l_eq, nI_eqP, nI_leP, nI_ltP, nI_m1, m1_nI, nI_ll, m1_l, l_m1]
  have h4 : nL s < 20 := by omega
  have hmo : rg (nI (a * t) / 10) 10000 := by
    have h1 : a * t ≤ 9999 * 10 := Nat.mul_le_mul (by omega) (by omega)
    refine ⟨a * t / 10, by omega, ?_⟩
    exact pk_div (a := a * t) (d := 10) (by omega) (by omega) (by omega)
  -- what the reference leaves
  have I1 : InvS (cm_up (pay s p f (nI a)) 116 b (nI p)) := InvS.hands I.2.1.pay (by unfold nB; rw [pay_ne (by decide)]; exact hb) ⟨p, by unfold nP; rw [pay_ne (by decide)]; exact hp, rfl⟩
  have nL1 : nL (cm_up (pay s p f (nI a)) 116 b (nI p)) = nL s := by unfold nL; rw [u_ne (by decide), pay_ne (by decide)]
  have nB1 : nB (cm_up (pay s p f (nI a)) 116 b (nI p)) = nB s := by unfold nB; rw [u_ne (by decide), pay_ne (by decide)]
  have nP1 : nP (cm_up (pay s p f (nI a)) 116 b (nI p)) = nP s := by unfold nP; rw [u_ne (by decide), pay_ne (by decide)]
  have hch : chL (cm_up (pay s p f (nI a)) 116 b (nI p)) (cm_up (cm_up (pay (cm_up (cm_up (cm_up (cm_up (cm_up (cm_up s 124 (nL s) (nI b)) 125 (nL s) (nI f)) 126 (nL s) (nI p)) 127 (nL s) (nI a)) 128 (nL s) (nI (a * t) / 10)) 129 (nL s) 0) p f (nI a)) 116 b (nI p)) 96 51 (nI (nL s + 1))) (nI b) (nI f) (nI p) (nI a) (nI (a * t) / 10) := by
    unfold chL
    rw [nL1]
    refine ⟨fun a' j h1 h2 => ?_, u_eq, ?_, ?_, ?_, ?_, ?_, ?_⟩
    · rw [u_if, if_neg h1]
      by_cases e1 : a' = 116
      · subst e1
        by_cases e2 : j = b
        · subst e2; rw [u_eq, u_eq]
        · rw [u_nk e2, u_nk e2, pay_ne (by decide), pay_ne (by decide)]
          simp (disch := omega) only [u_ne]
      · rw [u_ne e1, u_ne e1]
        by_cases e2 : a' = 105
        · subst e2
          refine pay_105 fun j => ?_
          simp (disch := omega) only [u_ne]
        · rw [pay_ne e2, pay_ne e2, u_if, if_neg (by omega), u_if, if_neg (by omega), u_if, if_neg (by omega), u_if, if_neg (by omega), u_if, if_neg (by omega), u_if, if_neg (by omega)]
    · rw [u_ne (by decide), u_ne (by decide), pay_ne (by decide)]; simp (disch := omega) only [u_ne, u_eq]
    · rw [u_ne (by decide), u_ne (by decide), pay_ne (by decide)]; simp (disch := omega) only [u_ne, u_eq]
    · rw [u_ne (by decide), u_ne (by decide), pay_ne (by decide)]; simp (disch := omega) only [u_ne, u_eq]
    · rw [u_ne (by decide), u_ne (by decide), pay_ne (by decide)]; simp (disch := omega) only [u_ne, u_eq]
    · rw [u_ne (by decide), u_ne (by decide), pay_ne (by decide)]; simp (disch := omega) only [u_ne, u_eq]
    · rw [u_ne (by decide), u_ne (by decide), pay_ne (by decide)]; simp (disch := omega) only [u_ne, u_eq]
  have V2 : StC (cm_sI w 32 (6 * b + 2) (nI p)) 30 (cm_up s 116 b (nI p)) := V.setB (k := 2) hb (by omega)
  have V3 := StC_pay V2 (p := p) (q := f) (k := nI a) (by unfold nP; rw [u_ne (by decide)]; exact hp) (by unfold nP; rw [u_ne (by decide)]; exact hf)
  rw [pay_up] at V3
  have L2 : Lay v c (cm_sI w 32 (6 * b + 2) (nI p)) := L
  have e1 := c112 L V hB (b := b) (x := nI p) hb
  have e2 := c113 L2 (p := p) (q := f) (k := nI a) (by omega) (by omega)
  generalize hw3 : cm_sI (cm_sI (cm_sI w 32 (6 * b + 2) (nI p)) 40 p (cm_I (cm_sI w 32 (6 * b + 2) (nI p)) 40 p - nI a)) 40 f (cm_I (cm_sI (cm_sI w 32 (6 * b + 2) (nI p)) 40 p (cm_I (cm_sI w 32 (6 * b + 2) (nI p)) 40 p - nI a)) 40 f + nI a) = w3 at V3 e2
  have L3 : Lay v c w3 := by rw [← hw3]; exact L
  have f3 : ∀ a', a' < 30 ∨ 41 ≤ a' → ∀ j, cm_I w3 a' j = cm_I w a' j := fun a' ha' j => by rw [← hw3, I_ne (by omega), I_ne (by omega), I_ne (by omega)]
  have z3 : cm_L w3 = cm_L w := by rw [← hw3]; rfl
  have V4 := StC_addL V3 (by omega) hch
  have e3 := c106 L3 V3 I1 (x0 := nI b) (x1 := nI f) (x2 := nI p) (x3 := nI a) (x4 := nI (a * t) / 10) (by omega)
  rw [nL1] at e3 V4
  refine ok_ex (r := nI (nL s)) g ⟨_, ?_, ?_, V4, fun a' ha' j => ?_, z3⟩ (fun x L1 M1 => ?_) (fun a' j h => ?_) (InvS_addL I1 (by omega) hch ⟨b, by omega, rfl⟩ ⟨f, by omega, rfl⟩ ⟨p, by omega, rfl⟩ ⟨a, ha, rfl⟩ hmo)
  · rw [cc]
    simp (disch := omega) only [fn_163_33, fn_163_52, ↓LCb L, ↓LStb L, LC L, LSt L, ful, h3, c17 L V I.2.1 hb, ef, decide_false, e1, e2, ↓bd e3, S2 L2, S30 L2, ↓R2_5 L2, S2 L3, S30 L3, ↓R2_5 L3, eq_self, Nat.le_refl, Nat.lt_irrefl, some_if, Option.bind_some, Option.bind_none, Option.some.injEq, ↓reduceIte, reduceCtorEq, Bool.false_eq_true, Bool.true_eq_false, not_true_eq_false, not_false_eq_true, cmb0, cmb1, Nat.reduceAdd, Nat.reduceMul, Nat.reduceSub, Nat.add_zero, Bool.not_eq_true, Bool.not_eq_false, Nat.reduceEqDiff, Nat.reduceLeDiff, Nat.reduceLT, Int32.reduceLT, Int32.reduceLE, iin_nI, iin_lit, iin_m1, tn_nI, tn_lit, nI_lm, nI_ml, nI_al, nI_la, nI_add, pk_mul, nI_le_l, nI_l_le, nI_lt_l, nI_l_lt, nI_eq_l, nI_l_eq, nI_eqP, nI_leP, nI_ltP, nI_m1, m1_nI, nI_ll, m1_l, l_m1]
  · exact L3
  · rw [← f3 a' ha' j]; simp (disch := omega) only [I_ne]
  · have e51 : cm_I x 96 51 = nI (nL s) := ((RM M1).1.2.2.2.2.2.2.2.2.2.2.2.2.1).trans hL.1
    obtain ⟨y, y1, y2, y3, y4, y5⟩ := m257 L1 M1 e51 h4 hb hp hf (by omega) hB.2 ef2 (t := t) ha ht
    refine ⟨y, ?_, y2, y3, y4, y5⟩
    rw [hm x L1 M1]
    simp (disch := omega) only [fn_257_82, ↓LMb L1, ↓mBoxb L1 M1 I.2.1, ↓mWhob L1 M1 I.1, ↓mThingb L1 M1 I.1, ↓mAheadb L1 M1 I.2.1, LM L1, e51, h3, y1, eq_self, Nat.le_refl, Nat.lt_irrefl, some_if, Option.bind_some, Option.bind_none, Option.some.injEq, ↓reduceIte, reduceCtorEq, Bool.false_eq_true, Bool.true_eq_false, not_true_eq_false, not_false_eq_true, cmb0, cmb1, Nat.reduceAdd, Nat.reduceMul, Nat.reduceSub, Nat.add_zero, Bool.not_eq_true, Bool.not_eq_false, Nat.reduceEqDiff, Nat.reduceLeDiff, Nat.reduceLT, Int32.reduceLT, Int32.reduceLE, iin_nI, iin_lit, iin_m1, tn_nI, tn_lit, nI_lm, nI_ml, nI_al, nI_la, nI_add, pk_mul, nI_le_l, nI_l_le, nI_lt_l, nI_l_lt, nI_eq_l, nI_l_eq, nI_eqP, nI_leP, nI_ltP, nI_m1, m1_nI, nI_ll, m1_l, l_m1]
  · by_cases e1 : a' = 96 ∧ j = 51
    · rw [e1.1, e1.2] at h; cases h
    · by_cases e2 : 124 ≤ a' ∧ a' ≤ 129 ∧ j = nL s
      · rcases (show a' = 124 ∨ a' = 125 ∨ a' = 126 ∨ a' = 127 ∨ a' = 128 ∨ a' = 129 by omega) with rfl | rfl | rfl | rfl | rfl | rfl <;> cases h
      · rw [hch.1 a' j e1 (by rw [nL1]; exact e2), u_ne (fun e => by subst e; cases h), pay_sa a' j h]
end LEND
