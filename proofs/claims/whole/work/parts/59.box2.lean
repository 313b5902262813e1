/-! box -/
section BOX2
variable {v c u n : Nat} {w w' : cm_W} {s s' : St}
theorem R96_40 (L : Lay v c w) {β : Type} (f : Nat → Option β) : (cm_R w 96 40).bind f = f 114 := by simp only [LMb L]
theorem R96_41 (L : Lay v c w) {β : Type} (f : Nat → Option β) : (cm_R w 96 41).bind f = f 115 := by simp only [LMb L]
theorem R96_43 (L : Lay v c w) {β : Type} (f : Nat → Option β) : (cm_R w 96 43).bind f = f 117 := by simp only [LMb L]
theorem R96_45 (L : Lay v c w) {β : Type} (f : Nat → Option β) : (cm_R w 96 45).bind f = f 119 := by simp only [LMb L]
theorem R96_47 (L : Lay v c w) {β : Type} (f : Nat → Option β) : (cm_R w 96 47).bind f = f 121 := by simp only [LMb L]
/-- the reference's state behind a new box -/
def sB7 (s : St) (p t : Nat) : St := cm_up (cm_up (cm_up (cm_up (cm_up (cm_up (cm_up s 114 (nB s) (nI p)) 115 (nB s) (nI t)) 116 (nB s) (nI p)) 117 (nB s) (-1)) 118 (nB s) ((1 : Int32) <<< (nI p &&& 31))) 119 (nB s) (s 96 8)) 120 (nB s) 0
def sB (s : St) (p t : Nat) : St := cm_up (fup (fun q z => cm_up z 121 (12 * nB s + q) 0) (sB7 s p t) 12) 96 38 (nI (nB s + 1))
theorem m235 {x : cm_W} (L1 : Lay v c x) (M1 : RelM x s) (e38 : cm_I x 96 38 = nI (nB s)) (hB : nB s < 40) {p t : Nat} : ∃ y, fn_235_55 96 (nI p) (nI t) x = some (nI (nB s), y) ∧ Lay v c y ∧ RelM y (sB s p t) ∧ (∀ a', a' < 96 → ∀ j, cm_I y a' j = cm_I x a' j) ∧ cm_L y = cm_L x := by
  have tl : (nI (nB s)).toNatClampNeg = nB s := tn_nI (by omega)
  have e8 : cm_I x 96 8 = s 96 8 := M1 96 8 rfl
  rw [fn_235_55, if_pos (S96 L1), R96_40 L1, e38, if_pos (show cm_ga x .int 114 (nI (nB s)) = true from by rw [ga_of (n := 40) ((L1.sh (by decide) (by decide)).trans rfl)]; exact iin_nI (by omega) (by decide)), if_pos (show cm_w2 96 143 114 = true from by decide), tl]
  obtain ⟨y1, hy1⟩ : ∃ y, y = cm_sI x 114 (nB s) (nI p) := ⟨_, rfl⟩
  rw [← hy1]
  have L_1 : Lay v c y1 := by rw [hy1]; exact L1
  have e38_1 : cm_I y1 96 38 = nI (nB s) := by rw [hy1, I_ne (by decide)]; exact e38
  have e8_1 : cm_I y1 96 8 = s 96 8 := by rw [hy1, I_ne (by decide)]; exact e8
  rw [R96_41 L_1, e38_1, if_pos (show cm_ga x .int 115 (nI (nB s)) = true from by rw [ga_of (n := 40) ((L1.sh (by decide) (by decide)).trans rfl)]; exact iin_nI (by omega) (by decide)), if_pos (show cm_w2 96 143 115 = true from by decide), tl]
  obtain ⟨y2, hy2⟩ : ∃ y, y = cm_sI y1 115 (nB s) (nI t) := ⟨_, rfl⟩
  rw [← hy2]
  have L_2 : Lay v c y2 := by rw [hy2]; exact L_1
  have e38_2 : cm_I y2 96 38 = nI (nB s) := by rw [hy2, I_ne (by decide)]; exact e38_1
  have e8_2 : cm_I y2 96 8 = s 96 8 := by rw [hy2, I_ne (by decide)]; exact e8_1
  rw [R96_42 L_2, e38_2, if_pos (show cm_ga x .int 116 (nI (nB s)) = true from by rw [ga_of (n := 40) ((L1.sh (by decide) (by decide)).trans rfl)]; exact iin_nI (by omega) (by decide)), if_pos (show cm_w2 96 143 116 = true from by decide), tl]
  obtain ⟨y3, hy3⟩ : ∃ y, y = cm_sI y2 116 (nB s) (nI p) := ⟨_, rfl⟩
  rw [← hy3]
  have L_3 : Lay v c y3 := by rw [hy3]; exact L_2
  have e38_3 : cm_I y3 96 38 = nI (nB s) := by rw [hy3, I_ne (by decide)]; exact e38_2
  have e8_3 : cm_I y3 96 8 = s 96 8 := by rw [hy3, I_ne (by decide)]; exact e8_2
  rw [R96_43 L_3, e38_3, if_pos (show cm_ga x .int 117 (nI (nB s)) = true from by rw [ga_of (n := 40) ((L1.sh (by decide) (by decide)).trans rfl)]; exact iin_nI (by omega) (by decide)), if_pos (show cm_w2 96 143 117 = true from by decide), tl]
  obtain ⟨y4, hy4⟩ : ∃ y, y = cm_sI y3 117 (nB s) ((-1)) := ⟨_, rfl⟩
  rw [← hy4]
  have L_4 : Lay v c y4 := by rw [hy4]; exact L_3
  have e38_4 : cm_I y4 96 38 = nI (nB s) := by rw [hy4, I_ne (by decide)]; exact e38_3
  have e8_4 : cm_I y4 96 8 = s 96 8 := by rw [hy4, I_ne (by decide)]; exact e8_3
  rw [R96_44 L_4, e38_4, if_pos (show cm_ga x .int 118 (nI (nB s)) = true from by rw [ga_of (n := 40) ((L1.sh (by decide) (by decide)).trans rfl)]; exact iin_nI (by omega) (by decide)), if_pos (show cm_w2 96 143 118 = true from by decide), tl]
  obtain ⟨y5, hy5⟩ : ∃ y, y = cm_sI y4 118 (nB s) ((1 : Int32) <<< (nI p &&& 31)) := ⟨_, rfl⟩
  rw [← hy5]
  have L_5 : Lay v c y5 := by rw [hy5]; exact L_4
  have e38_5 : cm_I y5 96 38 = nI (nB s) := by rw [hy5, I_ne (by decide)]; exact e38_4
  have e8_5 : cm_I y5 96 8 = s 96 8 := by rw [hy5, I_ne (by decide)]; exact e8_4
  rw [R96_45 L_5, e38_5, if_pos (show cm_ga x .int 119 (nI (nB s)) = true from by rw [ga_of (n := 40) ((L1.sh (by decide) (by decide)).trans rfl)]; exact iin_nI (by omega) (by decide)), if_pos (show cm_w2 96 143 119 = true from by decide), tl, e8_5]
  obtain ⟨y6, hy6⟩ : ∃ y, y = cm_sI y5 119 (nB s) (s 96 8) := ⟨_, rfl⟩
  rw [← hy6]
  have L_6 : Lay v c y6 := by rw [hy6]; exact L_5
  have e38_6 : cm_I y6 96 38 = nI (nB s) := by rw [hy6, I_ne (by decide)]; exact e38_5
  have e8_6 : cm_I y6 96 8 = s 96 8 := by rw [hy6, I_ne (by decide)]; exact e8_5
  rw [R96_46 L_6, e38_6, if_pos (show cm_ga x .int 120 (nI (nB s)) = true from by rw [ga_of (n := 40) ((L1.sh (by decide) (by decide)).trans rfl)]; exact iin_nI (by omega) (by decide)), if_pos (show cm_w2 96 143 120 = true from by decide), tl]
  obtain ⟨y7, hy7⟩ : ∃ y, y = cm_sI y6 120 (nB s) (0) := ⟨_, rfl⟩
  rw [← hy7]
  have L_7 : Lay v c y7 := by rw [hy7]; exact L_6
  have e38_7 : cm_I y7 96 38 = nI (nB s) := by rw [hy7, I_ne (by decide)]; exact e38_6
  have e8_7 : cm_I y7 96 8 = s 96 8 := by rw [hy7, I_ne (by decide)]; exact e8_6
  have M_7 : RelM y7 (sB7 s p t) := by rw [hy7, hy6, hy5, hy4, hy3, hy2, hy1]; exact ((((((M1.up).up).up).up).up).up).up
  have Lk : ∀ k, Lay v c (fup (fun q y => cm_sI y 121 (12 * nB s + q) 0) y7 k) := by
    intro k
    induction k with
    | zero => exact L_7
    | succ k ih => exact ih
  have Mk : ∀ k, RelM (fup (fun q y => cm_sI y 121 (12 * nB s + q) 0) y7 k) (fup (fun q z => cm_up z 121 (12 * nB s + q) 0) (sB7 s p t) k) := by
    intro k
    induction k with
    | zero => exact M_7
    | succ k ih => exact ih.up
  have ek : ∀ k, cm_I (fup (fun q y => cm_sI y 121 (12 * nB s + q) 0) y7 k) 96 38 = nI (nB s) := by
    intro k
    induction k with
    | zero => exact e38_7
    | succ k ih =>
      show cm_I (cm_sI _ 121 (12 * nB s + k) 0) 96 38 = _
      rw [I_ne (by decide)]; exact ih
  have fr : ∀ k a j, a < 96 → cm_I (fup (fun q y => cm_sI y 121 (12 * nB s + q) 0) y7 k) a j = cm_I x a j := by
    intro k a j ha
    induction k with
    | zero =>
      show cm_I y7 a j = _
      rw [hy7, hy6, hy5, hy4, hy3, hy2, hy1]; simp (disch := omega) only [I_ne]
    | succ k ih =>
      show cm_I (cm_sI _ 121 (12 * nB s + k) 0) a j = _
      rw [I_ne (by omega)]; exact ih
  have fL : ∀ k, cm_L (fup (fun q y => cm_sI y 121 (12 * nB s + q) 0) y7 k) = cm_L x := by
    intro k
    induction k with
    | zero => show cm_L y7 = _; rw [hy7, hy6, hy5, hy4, hy3, hy2, hy1]; rfl
    | succ k ih => exact ih
  have lp : fn_235_132 cm_N 96 0 y7 = fn_235_159 96 (fup (fun q y => cm_sI y 121 (12 * nB s + q) 0) y7 12) := by
    refine up_0 (fun m k a => fn_235_132 m 96 (nI k) a) 12 (fun k a => a = fup (fun q y => cm_sI y 121 (12 * nB s + q) 0) y7 k) (fun o => o = _) y7 (by omega) rfl (fun m k a hk ha => Or.inr ⟨_, rfl, ?_⟩) (fun m a ha => ?_)
    · subst ha
      have hk' : ¬ 12 ≤ k := by omega
      have LL := Lk k
      simp (disch := omega) only [fn_235_132, hk', ↓LMb LL, LM LL, ek k, cm_w2, Nat.reduceLeDiff, Nat.reduceLT, decide_true, Bool.and_self, Bool.and_true, eq_self, Nat.le_refl, Nat.lt_irrefl, some_if, Option.bind_some, Option.bind_none, Option.some.injEq, ↓reduceIte, reduceCtorEq, Bool.false_eq_true, Bool.true_eq_false, not_true_eq_false, not_false_eq_true, cmb0, cmb1, Nat.reduceAdd, Nat.reduceMul, Nat.reduceSub, Nat.add_zero, Bool.not_eq_true, Bool.not_eq_false, Nat.reduceEqDiff, Nat.reduceLeDiff, Nat.reduceLT, Int32.reduceLT, Int32.reduceLE, iin_nI, iin_lit, iin_m1, tn_nI, tn_lit, nI_lm, nI_ml, nI_al, nI_la, nI_add, pk_mul, nI_le_l, nI_l_le, nI_lt_l, nI_l_lt, nI_eq_l, nI_l_eq, nI_eqP, nI_leP, nI_ltP, nI_m1, m1_nI, nI_ll, m1_l, l_m1]
      rfl
    · subst ha
      simp (disch := omega) only [fn_235_132, eq_self, Nat.le_refl, Nat.lt_irrefl, some_if, Option.bind_some, Option.bind_none, Option.some.injEq, ↓reduceIte, reduceCtorEq, Bool.false_eq_true, Bool.true_eq_false, not_true_eq_false, not_false_eq_true, cmb0, cmb1, Nat.reduceAdd, Nat.reduceMul, Nat.reduceSub, Nat.add_zero, Bool.not_eq_true, Bool.not_eq_false, Nat.reduceEqDiff, Nat.reduceLeDiff, Nat.reduceLT, Int32.reduceLT, Int32.reduceLE, iin_nI, iin_lit, iin_m1, tn_nI, tn_lit, nI_lm, nI_ml, nI_al, nI_la, nI_add, pk_mul, nI_le_l, nI_l_le, nI_lt_l, nI_l_lt, nI_eq_l, nI_l_eq, nI_eqP, nI_leP, nI_ltP, nI_m1, m1_nI, nI_ll, m1_l, l_m1]
  have e159 : fn_235_159 96 (fup (fun q y => cm_sI y 121 (12 * nB s + q) 0) y7 12) = some (nI (nB s), cm_sI (fup (fun q y => cm_sI y 121 (12 * nB s + q) 0) y7 12) 96 38 (nI (nB s + 1))) := by
    unfold fn_235_159
    rw [if_pos (S96 (Lk 12)), if_pos (by decide), I_eq, ek 12, nI_1, nI_pred]
  refine ⟨_, lp.trans e159, ?_, (Mk 12).up, fun a' ha' j => ?_, ?_⟩
  · exact Lk 12
  · rw [I_ne (by omega)]; exact fr 12 a' j ha'
  · exact fL 12
theorem fz_up (s0 : St) (B : Nat) : ∀ k a j, fup (fun q z => cm_up z 121 (12 * B + q) 0) s0 k a j = if a = 121 ∧ 12 * B ≤ j ∧ j < 12 * B + k then 0 else s0 a j := by
  intro k
  induction k with
  | zero => intro a j; rw [if_neg (by omega)]; rfl
  | succ k ih =>
    intro a j
    show (if a = 121 ∧ j = 12 * B + k then (0 : Int32) else fup (fun q z => cm_up z 121 (12 * B + q) 0) s0 k a j) = _
    rw [ih]
    by_cases e : a = 121 ∧ j = 12 * B + k
    · rw [if_pos e, if_pos (by omega)]
    · rw [if_neg e]
      by_cases e2 : a = 121 ∧ 12 * B ≤ j ∧ j < 12 * B + k
      · rw [if_pos e2, if_pos (by omega)]
      · rw [if_neg e2, if_neg (by omega)]
theorem sB_ch {p t : Nat} : chB s (sB s p t) (nI p) (nI t) (nI p) ((1 : Int32) <<< (nI p &&& 31)) := by
  have g : ∀ a j, a ≠ 96 → a ≠ 121 → sB s p t a j = sB7 s p t a j := fun a j h1 h2 => by
    unfold sB
    rw [u_ne h1, fz_up, if_neg (by omega)]
  refine ⟨fun a j h1 h2 h3 => ?_, u_eq, ?_, ?_, ?_, ?_, ?_, ?_, ?_, fun q hq => ?_⟩
  · unfold sB
    rw [u_if, if_neg h1, fz_up, if_neg h3]
    unfold sB7
    rw [u_if, if_neg (by omega), u_if, if_neg (by omega), u_if, if_neg (by omega), u_if, if_neg (by omega), u_if, if_neg (by omega), u_if, if_neg (by omega), u_if, if_neg (by omega)]
  · rw [g _ _ (by decide) (by decide)]; unfold sB7; simp (disch := omega) only [u_ne, u_eq]
  · rw [g _ _ (by decide) (by decide)]; unfold sB7; simp (disch := omega) only [u_ne, u_eq]
  · rw [g _ _ (by decide) (by decide)]; unfold sB7; simp (disch := omega) only [u_ne, u_eq]
  · rw [g _ _ (by decide) (by decide)]; unfold sB7; simp (disch := omega) only [u_ne, u_eq]
  · rw [g _ _ (by decide) (by decide)]; unfold sB7; simp (disch := omega) only [u_ne, u_eq]
  · rw [g _ _ (by decide) (by decide)]; unfold sB7; simp (disch := omega) only [u_ne, u_eq]
  · rw [g _ _ (by decide) (by decide)]; unfold sB7; simp (disch := omega) only [u_eq]
  · unfold sB
    rw [u_ne (by decide), fz_up, if_pos (by omega)]
theorem w_box (g : GG v c w s) (i j : Int32) : OKW (fn_147 2 i j) (fn_235 96 i j) w := by
  obtain ⟨L, M, C, Z, I⟩ := id g
  have hv := L.1
  have V := C.2.2.1
  have hB := I.2.1.2.1
  have hM := I.2.1.1
  have hP := I.1.2.1
  have hT := I.1.1
  have r1 : fn_147_19 2 w = some (-1, cm_sI w 42 0 (cm_I w 42 0 + 1)) := by
    simp (disch := omega) only [fn_147_19, LC L, c140 L, eq_self, Nat.le_refl, Nat.lt_irrefl, some_if, Option.bind_some, Option.bind_none, Option.some.injEq, ↓reduceIte, reduceCtorEq, Bool.false_eq_true, Bool.true_eq_false, not_true_eq_false, not_false_eq_true, cmb0, cmb1, Nat.reduceAdd, Nat.reduceMul, Nat.reduceSub, Nat.add_zero, Bool.not_eq_true, Bool.not_eq_false, Nat.reduceEqDiff, Nat.reduceLeDiff, Nat.reduceLT, Int32.reduceLT, Int32.reduceLE, iin_nI, iin_lit, iin_m1, tn_nI, tn_lit, nI_lm, nI_ml, nI_al, nI_la, nI_add, pk_mul, nI_le_l, nI_l_le, nI_lt_l, nI_l_lt, nI_eq_l, nI_l_eq, nI_eqP, nI_leP, nI_ltP, nI_m1, m1_nI, nI_ll, m1_l, l_m1]
  have r2 : ∀ x, Lay v c x → fn_235_32 96 x = some (-1, cm_sI x 97 0 (cm_I x 97 0 + 1)) := fun x L1 => by
    simp (disch := omega) only [fn_235_32, LM L1, m199 L1, eq_self, Nat.le_refl, Nat.lt_irrefl, some_if, Option.bind_some, Option.bind_none, Option.some.injEq, ↓reduceIte, reduceCtorEq, Bool.false_eq_true, Bool.true_eq_false, not_true_eq_false, not_false_eq_true, cmb0, cmb1, Nat.reduceAdd, Nat.reduceMul, Nat.reduceSub, Nat.add_zero, Bool.not_eq_true, Bool.not_eq_false, Nat.reduceEqDiff, Nat.reduceLeDiff, Nat.reduceLT, Int32.reduceLT, Int32.reduceLE, iin_nI, iin_lit, iin_m1, tn_nI, tn_lit, nI_lm, nI_ml, nI_al, nI_la, nI_add, pk_mul, nI_le_l, nI_l_le, nI_lt_l, nI_l_lt, nI_eq_l, nI_l_eq, nI_eqP, nI_leP, nI_ltP, nI_m1, m1_nI, nI_ll, m1_l, l_m1]
  rcases iin_cs i (n := nP s) (by omega) with h | ⟨p, hp, rfl⟩
  · refine ok_ref (r := -1) g 0 (by omega) ?_ (fun x L1 M1 _ => ?_)
    · by_cases h5 : 5 ≤ nM s <;> simp (disch := omega) only [fn_147, ↓LCb L, ↓LStb L, ↓LVb L hv, ↓hasBb L V I.2.1, ↓hasTb L hv C.2.1 I.1, ↓hasPb L hv C.2.1 I.1, ↓c146b L V I.2.1, LC L, LSt L, LV L hv, c8p L hv C.2.1 I.1 h, h5, r1, decide_true, decide_false, eq_self, Nat.le_refl, Nat.lt_irrefl, some_if, Option.bind_some, Option.bind_none, Option.some.injEq, ↓reduceIte, reduceCtorEq, Bool.false_eq_true, Bool.true_eq_false, not_true_eq_false, not_false_eq_true, cmb0, cmb1, Nat.reduceAdd, Nat.reduceMul, Nat.reduceSub, Nat.add_zero, Bool.not_eq_true, Bool.not_eq_false, Nat.reduceEqDiff, Nat.reduceLeDiff, Nat.reduceLT, Int32.reduceLT, Int32.reduceLE, iin_nI, iin_lit, iin_m1, tn_nI, tn_lit, nI_lm, nI_ml, nI_al, nI_la, nI_add, pk_mul, nI_le_l, nI_l_le, nI_lt_l, nI_l_lt, nI_eq_l, nI_l_eq, nI_eqP, nI_leP, nI_ltP, nI_m1, m1_nI, nI_ll, m1_l, l_m1]
    · simp (disch := omega) only [fn_235, ↓LMb L1, ↓mBoxb L1 M1 I.2.1, ↓mWhob L1 M1 I.1, ↓mThingb L1 M1 I.1, ↓mAheadb L1 M1 I.2.1, LM L1, h, r2 x L1, eq_self, Nat.le_refl, Nat.lt_irrefl, some_if, Option.bind_some, Option.bind_none, Option.some.injEq, ↓reduceIte, reduceCtorEq, Bool.false_eq_true, Bool.true_eq_false, not_true_eq_false, not_false_eq_true, cmb0, cmb1, Nat.reduceAdd, Nat.reduceMul, Nat.reduceSub, Nat.add_zero, Bool.not_eq_true, Bool.not_eq_false, Nat.reduceEqDiff, Nat.reduceLeDiff, Nat.reduceLT, Int32.reduceLT, Int32.reduceLE, iin_nI, iin_lit, iin_m1, tn_nI, tn_lit, nI_lm, nI_ml, nI_al, nI_la, nI_add, pk_mul, nI_le_l, nI_l_le, nI_lt_l, nI_l_lt, nI_eq_l, nI_l_eq, nI_eqP, nI_leP, nI_ltP, nI_m1, m1_nI, nI_ll, m1_l, l_m1]
  rcases iin_cs j (n := nT s) (by omega) with h | ⟨t, ht, rfl⟩
  · refine ok_ref (r := -1) g 0 (by omega) ?_ (fun x L1 M1 _ => ?_)
    · by_cases h5 : 5 ≤ nM s <;> simp (disch := omega) only [fn_147, ↓LCb L, ↓LStb L, ↓LVb L hv, ↓hasBb L V I.2.1, ↓hasTb L hv C.2.1 I.1, ↓hasPb L hv C.2.1 I.1, ↓c146b L V I.2.1, LC L, LSt L, LV L hv, c8t L hv C.2.1 I.1 h, h5, r1, decide_true, decide_false, eq_self, Nat.le_refl, Nat.lt_irrefl, some_if, Option.bind_some, Option.bind_none, Option.some.injEq, ↓reduceIte, reduceCtorEq, Bool.false_eq_true, Bool.true_eq_false, not_true_eq_false, not_false_eq_true, cmb0, cmb1, Nat.reduceAdd, Nat.reduceMul, Nat.reduceSub, Nat.add_zero, Bool.not_eq_true, Bool.not_eq_false, Nat.reduceEqDiff, Nat.reduceLeDiff, Nat.reduceLT, Int32.reduceLT, Int32.reduceLE, iin_nI, iin_lit, iin_m1, tn_nI, tn_lit, nI_lm, nI_ml, nI_al, nI_la, nI_add, pk_mul, nI_le_l, nI_l_le, nI_lt_l, nI_l_lt, nI_eq_l, nI_l_eq, nI_eqP, nI_leP, nI_ltP, nI_m1, m1_nI, nI_ll, m1_l, l_m1]
    · simp (disch := omega) only [fn_235, ↓LMb L1, ↓mBoxb L1 M1 I.2.1, ↓mWhob L1 M1 I.1, ↓mThingb L1 M1 I.1, ↓mAheadb L1 M1 I.2.1, LM L1, h, r2 x L1, eq_self, Nat.le_refl, Nat.lt_irrefl, some_if, Option.bind_some, Option.bind_none, Option.some.injEq, ↓reduceIte, reduceCtorEq, Bool.false_eq_true, Bool.true_eq_false, not_true_eq_false, not_false_eq_true, cmb0, cmb1, Nat.reduceAdd, Nat.reduceMul, Nat.reduceSub, Nat.add_zero, Bool.not_eq_true, Bool.not_eq_false, Nat.reduceEqDiff, Nat.reduceLeDiff, Nat.reduceLT, Int32.reduceLT, Int32.reduceLE, iin_nI, iin_lit, iin_m1, tn_nI, tn_lit, nI_lm, nI_ml, nI_al, nI_la, nI_add, pk_mul, nI_le_l, nI_l_le, nI_lt_l, nI_l_lt, nI_eq_l, nI_l_eq, nI_eqP, nI_leP, nI_ltP, nI_m1, m1_nI, nI_ll, m1_l, l_m1]
  by_cases h0 : s 107 (8 * p + t) = 0
  · refine ok_ref (r := -1) g 0 (by omega) ?_ (fun x L1 M1 _ => ?_)
    · by_cases h5 : 5 ≤ nM s <;> simp (disch := omega) only [fn_147, ↓LCb L, ↓LStb L, ↓LVb L hv, ↓hasBb L V I.2.1, ↓hasTb L hv C.2.1 I.1, ↓hasPb L hv C.2.1 I.1, ↓c146b L V I.2.1, LC L, LSt L, LV L hv, c8 L hv C.2.1 I.1 hp ht, h0, h5, r1, decide_true, decide_false, eq_self, Nat.le_refl, Nat.lt_irrefl, some_if, Option.bind_some, Option.bind_none, Option.some.injEq, ↓reduceIte, reduceCtorEq, Bool.false_eq_true, Bool.true_eq_false, not_true_eq_false, not_false_eq_true, cmb0, cmb1, Nat.reduceAdd, Nat.reduceMul, Nat.reduceSub, Nat.add_zero, Bool.not_eq_true, Bool.not_eq_false, Nat.reduceEqDiff, Nat.reduceLeDiff, Nat.reduceLT, Int32.reduceLT, Int32.reduceLE, iin_nI, iin_lit, iin_m1, tn_nI, tn_lit, nI_lm, nI_ml, nI_al, nI_la, nI_add, pk_mul, nI_le_l, nI_l_le, nI_lt_l, nI_l_lt, nI_eq_l, nI_l_eq, nI_eqP, nI_leP, nI_ltP, nI_m1, m1_nI, nI_ll, m1_l, l_m1]
    · simp (disch := omega) only [fn_235, ↓LMb L1, ↓mBoxb L1 M1 I.2.1, ↓mWhob L1 M1 I.1, ↓mThingb L1 M1 I.1, ↓mAheadb L1 M1 I.2.1, LM L1, m228 L1 M1 (show p < 12 by omega) (show t < 8 by omega), h0, r2 x L1, eq_self, Nat.le_refl, Nat.lt_irrefl, some_if, Option.bind_some, Option.bind_none, Option.some.injEq, ↓reduceIte, reduceCtorEq, Bool.false_eq_true, Bool.true_eq_false, not_true_eq_false, not_false_eq_true, cmb0, cmb1, Nat.reduceAdd, Nat.reduceMul, Nat.reduceSub, Nat.add_zero, Bool.not_eq_true, Bool.not_eq_false, Nat.reduceEqDiff, Nat.reduceLeDiff, Nat.reduceLT, Int32.reduceLT, Int32.reduceLE, iin_nI, iin_lit, iin_m1, tn_nI, tn_lit, nI_lm, nI_ml, nI_al, nI_la, nI_add, pk_mul, nI_le_l, nI_l_le, nI_lt_l, nI_l_lt, nI_eq_l, nI_l_eq, nI_eqP, nI_leP, nI_ltP, nI_m1, m1_nI, nI_ll, m1_l, l_m1]
  by_cases h5 : 5 ≤ nM s
  · have h6 : ¬ nM s < 5 := by omega
    refine ok_ref (r := -1) g 0 (by omega) ?_ (fun x L1 M1 _ => ?_)
    · simp (disch := omega) only [fn_147, ↓LCb L, ↓LStb L, ↓LVb L hv, ↓hasBb L V I.2.1, ↓hasTb L hv C.2.1 I.1, ↓hasPb L hv C.2.1 I.1, ↓c146b L V I.2.1, LC L, LSt L, LV L hv, h5, r1, decide_true, eq_self, Nat.le_refl, Nat.lt_irrefl, some_if, Option.bind_some, Option.bind_none, Option.some.injEq, ↓reduceIte, reduceCtorEq, Bool.false_eq_true, Bool.true_eq_false, not_true_eq_false, not_false_eq_true, cmb0, cmb1, Nat.reduceAdd, Nat.reduceMul, Nat.reduceSub, Nat.add_zero, Bool.not_eq_true, Bool.not_eq_false, Nat.reduceEqDiff, Nat.reduceLeDiff, Nat.reduceLT, Int32.reduceLT, Int32.reduceLE, iin_nI, iin_lit, iin_m1, tn_nI, tn_lit, nI_lm, nI_ml, nI_al, nI_la, nI_add, pk_mul, nI_le_l, nI_l_le, nI_lt_l, nI_l_lt, nI_eq_l, nI_l_eq, nI_eqP, nI_leP, nI_ltP, nI_m1, m1_nI, nI_ll, m1_l, l_m1]
    · simp (disch := omega) only [fn_235, ↓LMb L1, ↓mBoxb L1 M1 I.2.1, ↓mWhob L1 M1 I.1, ↓mThingb L1 M1 I.1, ↓mAheadb L1 M1 I.2.1, LM L1, m228 L1 M1 (show p < 12 by omega) (show t < 8 by omega), h0, h6, r2 x L1, decide_false, eq_self, Nat.le_refl, Nat.lt_irrefl, some_if, Option.bind_some, Option.bind_none, Option.some.injEq, ↓reduceIte, reduceCtorEq, Bool.false_eq_true, Bool.true_eq_false, not_true_eq_false, not_false_eq_true, cmb0, cmb1, Nat.reduceAdd, Nat.reduceMul, Nat.reduceSub, Nat.add_zero, Bool.not_eq_true, Bool.not_eq_false, Nat.reduceEqDiff, Nat.reduceLeDiff, Nat.reduceLT, Int32.reduceLT, Int32.reduceLE, iin_nI, iin_lit, iin_m1, tn_nI, tn_lit, nI_lm, nI_ml, nI_al, nI_la, nI_add, pk_mul, nI_le_l, nI_l_le, nI_lt_l, nI_l_lt, nI_eq_l, nI_l_eq, nI_eqP, nI_leP, nI_ltP, nI_m1, m1_nI, nI_ll, m1_l, l_m1]
  have h6 : nM s < 5 := by omega
  have ful := fulB L V I.2.1
  have hc : fn_147 2 (nI p) (nI t) w = fn_147_25 2 (nI p) (nI t) w := by
    simp (disch := omega) only [fn_147, ↓LCb L, ↓LStb L, ↓LVb L hv, ↓hasBb L V I.2.1, ↓hasTb L hv C.2.1 I.1, ↓hasPb L hv C.2.1 I.1, ↓c146b L V I.2.1, LC L, LSt L, LV L hv, c8 L hv C.2.1 I.1 hp ht, h0, h5, decide_false, eq_self, Nat.le_refl, Nat.lt_irrefl, some_if, Option.bind_some, Option.bind_none, Option.some.injEq, ↓reduceIte, reduceCtorEq, Bool.false_eq_true, Bool.true_eq_false, not_true_eq_false, not_false_eq_true, cmb0, cmb1, Nat.reduceAdd, Nat.reduceMul, Nat.reduceSub, Nat.add_zero, Bool.not_eq_true, Bool.not_eq_false, Nat.reduceEqDiff, Nat.reduceLeDiff, Nat.reduceLT, Int32.reduceLT, Int32.reduceLE, iin_nI, iin_lit, iin_m1, tn_nI, tn_lit, nI_lm, nI_ml, nI_al, nI_la, nI_add, pk_mul, nI_le_l, nI_l_le, nI_lt_l, nI_l_lt, nI_eq_l, nI_l_eq, nI_eqP, nI_leP, nI_ltP, nI_m1, m1_nI, nI_ll, m1_l, l_m1]
  have hm : ∀ x, Lay v c x → RelM x s → fn_235 96 (nI p) (nI t) x = fn_235_39 96 (nI p) (nI t) x := fun x L1 M1 => by
    simp (disch := omega) only [fn_235, ↓LMb L1, ↓mBoxb L1 M1 I.2.1, ↓mWhob L1 M1 I.1, ↓mThingb L1 M1 I.1, ↓mAheadb L1 M1 I.2.1, LM L1, m228 L1 M1 (show p < 12 by omega) (show t < 8 by omega), h0, h6, decide_true, eq_self, Nat.le_refl, Nat.lt_irrefl, some_if, Option.bind_some, Option.bind_none, Option.some.injEq, ↓reduceIte, reduceCtorEq, Bool.false_eq_true, Bool.true_eq_false, not_true_eq_false, not_false_eq_true, cmb0, cmb1, Nat.reduceAdd, Nat.reduceMul, Nat.reduceSub, Nat.add_zero, Bool.not_eq_true, Bool.not_eq_false, Nat.reduceEqDiff, Nat.reduceLeDiff, Nat.reduceLT, Int32.reduceLT, Int32.reduceLE, iin_nI, iin_lit, iin_m1, tn_nI, tn_lit, nI_lm, nI_ml, nI_al, nI_la, nI_add, pk_mul, nI_le_l, nI_l_le, nI_lt_l, nI_l_lt, nI_eq_l, nI_l_eq, nI_eqP, nI_leP, nI_ltP, nI_m1, m1_nI, nI_ll, m1_l, l_m1]
  by_cases h3 : nB s = 40
  · refine ok_ref (r := -1) g 1 (by omega) ?_ (fun x L1 M1 _ => ?_)
    · rw [hc]
      simp (disch := omega) only [fn_147_25, ↓LCb L, ↓LStb L, LC L, LSt L, ful, h3, c140 L, decide_true, eq_self, Nat.le_refl, Nat.lt_irrefl, some_if, Option.bind_some, Option.bind_none, Option.some.injEq, ↓reduceIte, reduceCtorEq, Bool.false_eq_true, Bool.true_eq_false, not_true_eq_false, not_false_eq_true, cmb0, cmb1, Nat.reduceAdd, Nat.reduceMul, Nat.reduceSub, Nat.add_zero, Bool.not_eq_true, Bool.not_eq_false, Nat.reduceEqDiff, Nat.reduceLeDiff, Nat.reduceLT, Int32.reduceLT, Int32.reduceLE, iin_nI, iin_lit, iin_m1, tn_nI, tn_lit, nI_lm, nI_ml, nI_al, nI_la, nI_add, pk_mul, nI_le_l, nI_l_le, nI_lt_l, nI_l_lt, nI_eq_l, nI_l_eq, nI_eqP, nI_leP, nI_ltP, nI_m1, m1_nI, nI_ll, m1_l, l_m1]
    · rw [hm x L1 M1]
      simp (disch := omega) only [fn_235_39, ↓LMb L1, ↓mBoxb L1 M1 I.2.1, ↓mWhob L1 M1 I.1, ↓mThingb L1 M1 I.1, ↓mAheadb L1 M1 I.2.1, LM L1, RM M1, hB.1, h3, m199 L1, eq_self, Nat.le_refl, Nat.lt_irrefl, some_if, Option.bind_some, Option.bind_none, Option.some.injEq, ↓reduceIte, reduceCtorEq, Bool.false_eq_true, Bool.true_eq_false, not_true_eq_false, not_false_eq_true, cmb0, cmb1, Nat.reduceAdd, Nat.reduceMul, Nat.reduceSub, Nat.add_zero, Bool.not_eq_true, Bool.not_eq_false, Nat.reduceEqDiff, Nat.reduceLeDiff, Nat.reduceLT, Int32.reduceLT, Int32.reduceLE, iin_nI, iin_lit, iin_m1, tn_nI, tn_lit, nI_lm, nI_ml, nI_al, nI_la, nI_add, pk_mul, nI_le_l, nI_l_le, nI_lt_l, nI_l_lt, nI_eq_l, nI_l_eq, nI_eqP, nI_leP, nI_ltP, nI_m1, m1_nI, nI_ll, m1_l, l_m1]
  have h4 : nB s < 40 := by omega
  obtain ⟨y, y1, y2, y3, y4, y5, y6, y7, y8, y9, y10, y11, y12⟩ := c103 L V I.2.1 h4 (p := p) (t := t) (by omega)
  refine ok_ex (r := nI (nB s)) (s' := sB s p t) g ⟨y, ?_, y2, StC_addB V h4 sB_ch y3 y4 y5 y6 y7 y8 y9 y10 y11, fun a' ha' j => y3 a' j (by omega) (by omega) (by omega), y12⟩ (fun x L1 M1 => ?_) (fun a' j h => ?_) (InvS_addB I.2.1 h4 sB_ch ⟨p, hp, rfl⟩ ⟨t, ht, rfl⟩ ⟨p, hp, rfl⟩)
  · rw [hc]
    simp (disch := omega) only [fn_147_25, fn_147_44, ↓LCb L, ↓LStb L, LC L, LSt L, ful, h3, y1, decide_false, eq_self, Nat.le_refl, Nat.lt_irrefl, some_if, Option.bind_some, Option.bind_none, Option.some.injEq, ↓reduceIte, reduceCtorEq, Bool.false_eq_true, Bool.true_eq_false, not_true_eq_false, not_false_eq_true, cmb0, cmb1, Nat.reduceAdd, Nat.reduceMul, Nat.reduceSub, Nat.add_zero, Bool.not_eq_true, Bool.not_eq_false, Nat.reduceEqDiff, Nat.reduceLeDiff, Nat.reduceLT, Int32.reduceLT, Int32.reduceLE, iin_nI, iin_lit, iin_m1, tn_nI, tn_lit, nI_lm, nI_ml, nI_al, nI_la, nI_add, pk_mul, nI_le_l, nI_l_le, nI_lt_l, nI_l_lt, nI_eq_l, nI_l_eq, nI_eqP, nI_leP, nI_ltP, nI_m1, m1_nI, nI_ll, m1_l, l_m1]
  · have e38 : cm_I x 96 38 = nI (nB s) := (M1 96 38 rfl).trans hB.1
    obtain ⟨z, z1, z2, z3, z4, z5⟩ := m235 L1 M1 e38 h4 (p := p) (t := t)
    refine ⟨z, ?_, z2, z3, z4, z5⟩
    rw [hm x L1 M1]
    simp (disch := omega) only [fn_235_39, ↓LMb L1, LM L1, e38, h3, z1, eq_self, Nat.le_refl, Nat.lt_irrefl, some_if, Option.bind_some, Option.bind_none, Option.some.injEq, ↓reduceIte, reduceCtorEq, Bool.false_eq_true, Bool.true_eq_false, not_true_eq_false, not_false_eq_true, cmb0, cmb1, Nat.reduceAdd, Nat.reduceMul, Nat.reduceSub, Nat.add_zero, Bool.not_eq_true, Bool.not_eq_false, Nat.reduceEqDiff, Nat.reduceLeDiff, Nat.reduceLT, Int32.reduceLT, Int32.reduceLE, iin_nI, iin_lit, iin_m1, tn_nI, tn_lit, nI_lm, nI_ml, nI_al, nI_la, nI_add, pk_mul, nI_le_l, nI_l_le, nI_lt_l, nI_l_lt, nI_eq_l, nI_l_eq, nI_eqP, nI_leP, nI_ltP, nI_m1, m1_nI, nI_ll, m1_l, l_m1]
  · refine sB_ch.1 a' j (fun e => ?_) (fun e => ?_) (fun e => ?_)
    · rw [e.1, e.2] at h; cases h
    · rcases (show a' = 114 ∨ a' = 115 ∨ a' = 116 ∨ a' = 117 ∨ a' = 118 ∨ a' = 119 ∨ a' = 120 by omega) with rfl | rfl | rfl | rfl | rfl | rfl | rfl <;> cases h
    · rw [e.1] at h; cases h
end BOX2
