/-! rows of the record: say, sign, sell -/
/-- the state behind a new row -/
def addR (s : St) (b : Nat) (kd yb to' v kn : Int32) : St := cm_up (cm_up (cm_up (cm_up (cm_up (cm_up (cm_up (cm_up (cm_up s 122 (7 * nR s) (nI b)) 122 (7 * nR s + 1) kd) 122 (7 * nR s + 2) yb) 122 (7 * nR s + 3) to') 122 (7 * nR s + 4) v) 122 (7 * nR s + 5) (s 96 8)) 122 (7 * nR s + 6) kn) 120 b (s 120 b + 1)) 96 39 (nI (nR s + 1))
/-- who knew -/
def knv (s : St) (b p : Nat) : Int32 := if (s 118 b >>> (nI p &&& 31)) &&& 1 = 1 then 1 else 0
section REC
variable {v c u n : Nat} {w w' : cm_W} {s s' : St}
-- of any world that is laid out so
theorem S2 (L : Lay v c w) : cm_sh w 2 = some (.inl 10) := by simp only [LC L]
theorem S30 (L : Lay v c w) : cm_sh w 30 = some (.inl 6) := by simp only [LSt L]
theorem S31 (L : Lay v c w) : cm_sh w 31 = some (.inl 7) := by simp only [LSt L]
theorem S33 (L : Lay v c w) : cm_sh w 33 = some (.inl 7) := by simp only [LSt L]
theorem S35 (L : Lay v c w) : cm_sh w 35 = some (.inl 7) := by simp only [LSt L]
theorem S37 (L : Lay v c w) : cm_sh w 37 = some (.inl 7) := by simp only [LSt L]
theorem R2_5 (L : Lay v c w) {β : Type} (f : Nat → Option β) : (cm_R w 2 5).bind f = f 30 := by simp only [LCb L]
theorem R30_0 (L : Lay v c w) {β : Type} (f : Nat → Option β) : (cm_R w 30 0).bind f = f 31 := by simp only [LStb L]
theorem R30_1 (L : Lay v c w) {β : Type} (f : Nat → Option β) : (cm_R w 30 1).bind f = f 33 := by simp only [LStb L]
theorem R30_2 (L : Lay v c w) {β : Type} (f : Nat → Option β) : (cm_R w 30 2).bind f = f 35 := by simp only [LStb L]
theorem R30_3 (L : Lay v c w) {β : Type} (f : Nat → Option β) : (cm_R w 30 3).bind f = f 37 := by simp only [LStb L]
theorem R30_4 (L : Lay v c w) {β : Type} (f : Nat → Option β) : (cm_R w 30 4).bind f = f 39 := by simp only [LStb L]
theorem R30_5 (L : Lay v c w) {β : Type} (f : Nat → Option β) : (cm_R w 30 5).bind f = f 40 := by simp only [LStb L]
theorem rec_ne {b : Nat} {kd yb to' x kn : Int32} {a k : Nat} (h1 : a ≠ 122) (h2 : a ≠ 120) (h3 : a = 96 → k ≠ 39) : addR s b kd yb to' x kn a k = s a k := by
  unfold addR
  by_cases q : a = 96
  · subst q
    simp (disch := omega) only [u_ne, u_nk (h3 rfl)]
  · simp (disch := omega) only [u_ne]
theorem rec_sa {b : Nat} {kd yb to' x kn : Int32} : ∀ a k, sa a k = false → addR s b kd yb to' x kn a k = s a k := by
  intro a k h
  refine rec_ne (fun e => ?_) (fun e => ?_) (fun e e2 => ?_)
  · subst e; cases h
  · subst e; cases h
  · subst e; subst e2; cases h
theorem rec_R {b : Nat} {kd yb to' x kn : Int32} : nR (addR s b kd yb to' x kn) = (nI (nR s + 1)).toNatClampNeg := by
  unfold addR nR; rw [u_eq]
theorem rec_old {b : Nat} {kd yb to' x kn : Int32} {k : Nat} (h : k < 7 * nR s) : addR s b kd yb to' x kn 122 k = s 122 k := by
  unfold addR
  simp (disch := omega) only [u_ne, u_nk]
theorem rec_c0 {b : Nat} {kd yb to' x kn : Int32} : addR s b kd yb to' x kn 122 (7 * nR s) = nI b := by
  unfold addR
  simp (disch := omega) only [u_ne, u_nk, u_eq]
theorem rec_c1 {b : Nat} {kd yb to' x kn : Int32} : addR s b kd yb to' x kn 122 (7 * nR s + 1) = kd := by
  unfold addR
  simp (disch := omega) only [u_ne, u_nk, u_eq]
theorem rec_c2 {b : Nat} {kd yb to' x kn : Int32} : addR s b kd yb to' x kn 122 (7 * nR s + 2) = yb := by
  unfold addR
  simp (disch := omega) only [u_ne, u_nk, u_eq]
theorem rec_c3 {b : Nat} {kd yb to' x kn : Int32} : addR s b kd yb to' x kn 122 (7 * nR s + 3) = to' := by
  unfold addR
  simp (disch := omega) only [u_ne, u_nk, u_eq]
theorem rec_c4 {b : Nat} {kd yb to' x kn : Int32} : addR s b kd yb to' x kn 122 (7 * nR s + 4) = x := by
  unfold addR
  simp (disch := omega) only [u_ne, u_nk, u_eq]
theorem rec_c5 {b : Nat} {kd yb to' x kn : Int32} : addR s b kd yb to' x kn 122 (7 * nR s + 5) = s 96 8 := by
  unfold addR
  simp (disch := omega) only [u_ne, u_nk, u_eq]
theorem rec_c6 {b : Nat} {kd yb to' x kn : Int32} : addR s b kd yb to' x kn 122 (7 * nR s + 6) = kn := by
  unfold addR
  simp (disch := omega) only [u_ne, u_nk, u_eq]
theorem rec_rm {b k : Nat} {kd yb to' x kn : Int32} : addR s b kd yb to' x kn 120 k = if k = b then s 120 b + 1 else s 120 k := by
  unfold addR
  by_cases q : k = b
  · subst q; simp (disch := omega) only [u_ne, u_eq, ↓reduceIte]
  · simp (disch := omega) only [u_ne, u_nk, u_nk q, q, ↓reduceIte]
theorem InvS_addR (h : InvS s) {b : Nat} {kd yb to' x kn : Int32} (hb : b < nB s) (hR : nR s < 300) (h5 : nM s < 5) (hk : rg kd 4) (hy : yb = -1 ∨ rg yb (nP s)) (hx : rg x 10000) (hn : rg kn 2) (hn1 : kn = 1 → rg yb (nP s)) (hs : kd = 1 → rg yb (nP s) ∧ rg x (nT s)) : InvS (addR s b kd yb to' x kn) := by
  have e1 : nB (addR s b kd yb to' x kn) = nB s := by unfold nB; rw [rec_ne (by omega) (by omega) (by omega)]
  have e2 : nP (addR s b kd yb to' x kn) = nP s := by unfold nP; rw [rec_ne (by omega) (by omega) (by omega)]
  have e3 : nR (addR s b kd yb to' x kn) = nR s + 1 := by rw [rec_R, nI_clamp (by omega)]
  have e4 : nL (addR s b kd yb to' x kn) = nL s := by unfold nL; rw [rec_ne (by omega) (by omega) (by omega)]
  have e5 : nK (addR s b kd yb to' x kn) = nK s := by unfold nK; rw [rec_ne (by omega) (by omega) (by omega)]
  have e6 : nT (addR s b kd yb to' x kn) = nT s := by unfold nT; rw [rec_ne (by omega) (by omega) (by omega)]
  have e7 : nM (addR s b kd yb to' x kn) = nM s := by unfold nM; rw [rec_ne (by omega) (by omega) (by omega)]
  have ea : ∀ a k, a ≠ 122 → a ≠ 120 → a ≠ 96 → addR s b kd yb to' x kn a k = s a k := fun a k p q r => rec_ne p q (fun z => absurd z r)
  have e8 : nIn (addR s b kd yb to' x kn) = nIn s := by unfold nIn; rw [e1]; simp (disch := omega) only [ea]
  have hB := h.2.1
  obtain ⟨i1, i2, i3, i4, i5, i6, i7, i8, i9, i10, i11⟩ := h
  have f8 : addR s b kd yb to' x kn 96 8 = s 96 8 := rec_ne (by omega) (by omega) (by omega)
  have f38 : addR s b kd yb to' x kn 96 38 = s 96 38 := rec_ne (by omega) (by omega) (by omega)
  have f51 : addR s b kd yb to' x kn 96 51 = s 96 51 := rec_ne (by omega) (by omega) (by omega)
  have f58 : addR s b kd yb to' x kn 96 58 = s 96 58 := rec_ne (by omega) (by omega) (by omega)
  have f39 : addR s b kd yb to' x kn 96 39 = nI (nR s + 1) := u_eq
  unfold InvS
  rw [e1, e2, e3, e4, e5, e6, e7, e8, f8, f38, f51, f58, f39]
  simp (disch := omega) only [ea]
  refine ⟨i1, i2, ⟨trivial, by omega⟩, i4, i5, fun y hy => ?_, i7, i8, fun r hr => ?_, i10, i11⟩
  · obtain ⟨j1, j2, j3, j4, j5⟩ := i6 y hy
    refine ⟨j1, j2, j3, j4, ?_⟩
    have hc : fup (fun r a => if addR s b kd yb to' x kn 122 (7 * r) = nI y then a + 1 else a) (0 : Int32) (nR s) = s 120 y := by
      rw [j5]
      exact fup_cg fun r z hr => by rw [rec_old (by omega)]
    show _ = if addR s b kd yb to' x kn 122 (7 * nR s) = nI y then fup (fun r a => if addR s b kd yb to' x kn 122 (7 * r) = nI y then a + 1 else a) (0 : Int32) (nR s) + 1 else fup (fun r a => if addR s b kd yb to' x kn 122 (7 * r) = nI y then a + 1 else a) (0 : Int32) (nR s)
    rw [hc, rec_c0, rec_rm]
    by_cases q : y = b
    · subst q; rw [if_pos rfl, if_pos rfl]
    · rw [if_neg q, if_neg (fun z => q ((nI_eq (by omega) (by omega)).mp z).symm)]
  · by_cases q : r = nR s
    · subst q
      rw [rec_c0, rec_c1, rec_c2, rec_c4, rec_c5, rec_c6]
      exact ⟨⟨b, hb, rfl⟩, hk, hy, hx, ⟨nM s, h5, i1.1⟩, hn, hn1, hs⟩
    · have hr2 : r < nR s := by omega
      rw [rec_old (by omega), rec_old (by omega), rec_old (by omega), rec_old (by omega), rec_old (by omega), rec_old (by omega)]
      exact i9 r hr2
theorem StC_addR (V : StC w 30 s) (hR : s 96 39 = nI (nR s)) (hR2 : nR s < 300) {b : Nat} {kd yb to' x kn : Int32} : StC (cm_sI (cm_sI (cm_sI (cm_sI (cm_sI (cm_sI (cm_sI (cm_sI w 33 2 (nI (nR s + 1))) 34 (7 * nR s + 0) kd) 34 (7 * nR s + 1) yb) 34 (7 * nR s + 2) to') 34 (7 * nR s + 3) x) 34 (7 * nR s + 4) (s 96 8)) 34 (7 * nR s + 5) (nI b)) 34 (7 * nR s + 6) kn) 30 (addR s b kd yb to' x kn) := by
  have e1 : nB (addR s b kd yb to' x kn) = nB s := by unfold nB; rw [rec_ne (by omega) (by omega) (by omega)]
  have e2 : nP (addR s b kd yb to' x kn) = nP s := by unfold nP; rw [rec_ne (by omega) (by omega) (by omega)]
  have e3 : nR (addR s b kd yb to' x kn) = nR s + 1 := by rw [rec_R, nI_clamp (by omega)]
  have e4 : nL (addR s b kd yb to' x kn) = nL s := by unfold nL; rw [rec_ne (by omega) (by omega) (by omega)]
  have e5 : nK (addR s b kd yb to' x kn) = nK s := by unfold nK; rw [rec_ne (by omega) (by omega) (by omega)]
  have ea : ∀ a k, a ≠ 122 → a ≠ 120 → a ≠ 96 → addR s b kd yb to' x kn a k = s a k := fun a k p q r => rec_ne p q (fun z => absurd z r)
  have f8 : addR s b kd yb to' x kn 96 8 = s 96 8 := rec_ne (by omega) (by omega) (by omega)
  have f38 : addR s b kd yb to' x kn 96 38 = s 96 38 := rec_ne (by omega) (by omega) (by omega)
  have f51 : addR s b kd yb to' x kn 96 51 = s 96 51 := rec_ne (by omega) (by omega) (by omega)
  have f58 : addR s b kd yb to' x kn 96 58 = s 96 58 := rec_ne (by omega) (by omega) (by omega)
  have f39 : addR s b kd yb to' x kn 96 39 = nI (nR s + 1) := u_eq
  obtain ⟨h1, h2, h3, h4, h5, h6, h7, h8⟩ := V
  unfold StC
  rw [e1, e2, e3, e4, e5, f8, f38, f51, f58, f39]
  refine ⟨?_, ?_, ?_, ?_, ?_, ?_, ?_, ?_⟩
  · simp (disch := omega) only [I_ne, I_eq]
    exact ⟨h1.1, trivial, h1.2.2⟩
  · simp (disch := omega) only [I_ne, I_nk]; exact h2
  · intro x' hx k' hk'
    simp (disch := omega) only [I_ne, ea]
    by_cases q : k' = 6
    · omega
    · exact h3 x' hx k' hk'
  · intro r hr k' hk'
    by_cases q : r = nR s
    · subst q
      rcases (show k' = 0 ∨ k' = 1 ∨ k' = 2 ∨ k' = 3 ∨ k' = 4 ∨ k' = 5 ∨ k' = 6 by omega) with rfl | rfl | rfl | rfl | rfl | rfl | rfl
      · simp (disch := omega) only [rcl, rec_c1, I_eq, I_nk]
      · simp (disch := omega) only [rcl, rec_c2, I_eq, I_nk]
      · simp (disch := omega) only [rcl, rec_c3, I_eq, I_nk]
      · simp (disch := omega) only [rcl, rec_c4, I_eq, I_nk]
      · simp (disch := omega) only [rcl, rec_c5, I_eq, I_nk]
      · simp (disch := omega) only [rcl, Nat.add_zero, rec_c0, I_eq, I_nk]
      · simp (disch := omega) only [rcl, rec_c6, I_eq, I_nk]
    · have : rcl k' < 7 := by
        rcases (show k' = 0 ∨ k' = 1 ∨ k' = 2 ∨ k' = 3 ∨ k' = 4 ∨ k' = 5 ∨ k' = 6 by omega) with rfl | rfl | rfl | rfl | rfl | rfl | rfl <;> decide
      rw [rec_old (by omega)]
      simp (disch := omega) only [I_ne, I_nk]
      exact h4 r (by omega) k' hk'
  · intro x' hx k' hk'
    simp (disch := omega) only [I_ne, ea]; exact h5 x' hx k' hk'
  · intro x' hx k' hk'
    simp (disch := omega) only [I_ne, ea]; exact h6 x' hx k' hk'
  · intro x' hx k' hk'
    simp (disch := omega) only [I_ne, ea]; exact h7 x' hx k' hk'
  · intro x' hx
    simp (disch := omega) only [I_ne, ea]; exact h8 x' hx
theorem c105 (L : Lay v c w) (V : StC w 30 s) (I : InvS s) (hR : nR s < 300) {b : Nat} (hb : b < nB s) {kd yb to' x : Int32} : ∃ y, fn_105 30 (nI b) kd yb to' x w = some y ∧ Lay v c y ∧ StC y 30 (addR s b kd yb to' x (if yb = -1 then 0 else if cm_iin yb 12 = true ∧ (s 118 b >>> (yb &&& 31)) &&& 1 = 1 then 1 else 0)) ∧ (∀ a, a < 30 ∨ 41 ≤ a → ∀ j, cm_I y a j = cm_I w a j) ∧ cm_L y = cm_L w := by
  have hB := I.2.1
  have hn := V.1.2.1.trans I.2.2.1.1
  refine ⟨_, ?_, ?_, StC_addR V I.2.2.1.1 hR, ?_, rfl⟩
  · have a1 : fn_98 33 w = some (nI (nR s), cm_sI w 33 2 (nI (nR s + 1))) := app_in (by simp only [LSt L]) (by rw [fulR L V I]; simp; omega) hn (by decide)
    have k1 : cm_I w 33 0 = 7 := V.2.1.2.1
    have k2 : cm_I w 30 6 = s 96 8 := V.1.2.2.2.2
    have k3 : cm_I w 31 2 = nI (nB s) := V.1.1.trans hB.1
    have k4 : cm_I w 31 0 = 6 := V.2.1.1
    have k5 : ∀ x, cm_I w 32 (6 * b + 4) = s 118 b := fun _ => V.2.2.1 b hb 4 (by omega)
    have g1 : ∀ y : cm_W, Lay v c y → cm_I y 31 2 = nI (nB s) → cm_I y 31 0 = 6 → cm_I y 32 (6 * b + 4) = s 118 b → fn_104 y 30 (nI b) yb = some (decide (cm_iin yb 12 = true ∧ (s 118 b >>> (yb &&& 31)) &&& 1 = 1)) := by
      intro y Ly q1 q2 q3
      have p1 : fn_7 y 31 (nI b) = some true := by rw [has_ok (by simp only [LSt Ly]) q1 (by omega), iin_nI hb (by omega)]
      have p2 : fn_1 y 31 (nI b) 4 = some (s 118 b) := (get_in (W := 6) (n := nB s) (N := 240) (ce := 32) (by simp only [LSt Ly]) (by simp only [LSt Ly]) (by intro i; simp only [LSt Ly]) q2 q1 (by omega) (by omega) (by omega) hb (by omega) (c := 4) (by omega)).trans (congrArg some q3)
      cases h12 : cm_iin yb 12
      · simp (disch := omega) only [fn_104, ↓LStb Ly, LSt Ly, p1, c100, h12, false_and, decide_false, eq_self, Nat.le_refl, Nat.lt_irrefl, some_if, Option.bind_some, Option.bind_none, Option.some.injEq, ↓reduceIte, reduceCtorEq, Bool.false_eq_true, Bool.true_eq_false, not_true_eq_false, not_false_eq_true, cmb0, cmb1, Nat.reduceAdd, Nat.reduceMul, Nat.reduceSub, Nat.add_zero, Bool.not_eq_true, Bool.not_eq_false, Nat.reduceEqDiff, Nat.reduceLeDiff, Nat.reduceLT, Int32.reduceLT, Int32.reduceLE, iin_nI, iin_lit, iin_m1, tn_nI, tn_lit, nI_lm, nI_ml, nI_al, nI_la, nI_add, pk_mul, nI_le_l, nI_l_le, nI_lt_l, nI_l_lt, nI_eq_l, nI_l_eq, nI_eqP, nI_leP, nI_ltP, nI_m1, m1_nI, nI_ll, m1_l, l_m1]
      · by_cases h1 : (s 118 b >>> (yb &&& 31)) &&& 1 = 1
        · simp (disch := omega) only [fn_104, ↓LStb Ly, LSt Ly, p1, p2, c100, h12, h1, and_self, decide_true, eq_self, Nat.le_refl, Nat.lt_irrefl, some_if, Option.bind_some, Option.bind_none, Option.some.injEq, ↓reduceIte, reduceCtorEq, Bool.false_eq_true, Bool.true_eq_false, not_true_eq_false, not_false_eq_true, cmb0, cmb1, Nat.reduceAdd, Nat.reduceMul, Nat.reduceSub, Nat.add_zero, Bool.not_eq_true, Bool.not_eq_false, Nat.reduceEqDiff, Nat.reduceLeDiff, Nat.reduceLT, Int32.reduceLT, Int32.reduceLE, iin_nI, iin_lit, iin_m1, tn_nI, tn_lit, nI_lm, nI_ml, nI_al, nI_la, nI_add, pk_mul, nI_le_l, nI_l_le, nI_lt_l, nI_l_lt, nI_eq_l, nI_l_eq, nI_eqP, nI_leP, nI_ltP, nI_m1, m1_nI, nI_ll, m1_l, l_m1]
        · simp (disch := omega) only [fn_104, ↓LStb Ly, LSt Ly, p1, p2, c100, h12, h1, and_false, decide_false, eq_self, Nat.le_refl, Nat.lt_irrefl, some_if, Option.bind_some, Option.bind_none, Option.some.injEq, ↓reduceIte, reduceCtorEq, Bool.false_eq_true, Bool.true_eq_false, not_true_eq_false, not_false_eq_true, cmb0, cmb1, Nat.reduceAdd, Nat.reduceMul, Nat.reduceSub, Nat.add_zero, Bool.not_eq_true, Bool.not_eq_false, Nat.reduceEqDiff, Nat.reduceLeDiff, Nat.reduceLT, Int32.reduceLT, Int32.reduceLE, iin_nI, iin_lit, iin_m1, tn_nI, tn_lit, nI_lm, nI_ml, nI_al, nI_la, nI_add, pk_mul, nI_le_l, nI_l_le, nI_lt_l, nI_l_lt, nI_eq_l, nI_l_eq, nI_eqP, nI_leP, nI_ltP, nI_m1, m1_nI, nI_ll, m1_l, l_m1]
    unfold fn_105
    rw [if_pos (S30 L), R30_1 L, if_pos (S33 L), a1, Option.bind_some]
    dsimp only
    rw [if_pos (S30 (w := (cm_sI w 33 2 (nI (nR s + 1)))) L), R30_1 (w := (cm_sI w 33 2 (nI (nR s + 1)))) L, if_pos (S33 (w := (cm_sI w 33 2 (nI (nR s + 1)))) L), setRb (w := (cm_sI w 33 2 (nI (nR s + 1)))) (n := nR s + 1) (k := nR s) (j := 0) L (by simp (disch := omega) only [I_ne, I_nk]; exact k1) (by simp (disch := omega) only [I_ne, I_nk, I_eq]) (by omega) (Nat.lt_succ_self _) (by decide)]
    rw [if_pos (S30 (w := (cm_sI (cm_sI w 33 2 (nI (nR s + 1))) 34 (7 * nR s + 0) kd)) L), R30_1 (w := (cm_sI (cm_sI w 33 2 (nI (nR s + 1))) 34 (7 * nR s + 0) kd)) L, if_pos (S33 (w := (cm_sI (cm_sI w 33 2 (nI (nR s + 1))) 34 (7 * nR s + 0) kd)) L), setRb (w := (cm_sI (cm_sI w 33 2 (nI (nR s + 1))) 34 (7 * nR s + 0) kd)) (n := nR s + 1) (k := nR s) (j := 1) L (by simp (disch := omega) only [I_ne, I_nk]; exact k1) (by simp (disch := omega) only [I_ne, I_nk, I_eq]) (by omega) (Nat.lt_succ_self _) (by decide)]
    rw [if_pos (S30 (w := (cm_sI (cm_sI (cm_sI w 33 2 (nI (nR s + 1))) 34 (7 * nR s + 0) kd) 34 (7 * nR s + 1) yb)) L), R30_1 (w := (cm_sI (cm_sI (cm_sI w 33 2 (nI (nR s + 1))) 34 (7 * nR s + 0) kd) 34 (7 * nR s + 1) yb)) L, if_pos (S33 (w := (cm_sI (cm_sI (cm_sI w 33 2 (nI (nR s + 1))) 34 (7 * nR s + 0) kd) 34 (7 * nR s + 1) yb)) L), setRb (w := (cm_sI (cm_sI (cm_sI w 33 2 (nI (nR s + 1))) 34 (7 * nR s + 0) kd) 34 (7 * nR s + 1) yb)) (n := nR s + 1) (k := nR s) (j := 2) L (by simp (disch := omega) only [I_ne, I_nk]; exact k1) (by simp (disch := omega) only [I_ne, I_nk, I_eq]) (by omega) (Nat.lt_succ_self _) (by decide)]
    rw [if_pos (S30 (w := (cm_sI (cm_sI (cm_sI (cm_sI w 33 2 (nI (nR s + 1))) 34 (7 * nR s + 0) kd) 34 (7 * nR s + 1) yb) 34 (7 * nR s + 2) to')) L), R30_1 (w := (cm_sI (cm_sI (cm_sI (cm_sI w 33 2 (nI (nR s + 1))) 34 (7 * nR s + 0) kd) 34 (7 * nR s + 1) yb) 34 (7 * nR s + 2) to')) L, if_pos (S33 (w := (cm_sI (cm_sI (cm_sI (cm_sI w 33 2 (nI (nR s + 1))) 34 (7 * nR s + 0) kd) 34 (7 * nR s + 1) yb) 34 (7 * nR s + 2) to')) L), setRb (w := (cm_sI (cm_sI (cm_sI (cm_sI w 33 2 (nI (nR s + 1))) 34 (7 * nR s + 0) kd) 34 (7 * nR s + 1) yb) 34 (7 * nR s + 2) to')) (n := nR s + 1) (k := nR s) (j := 3) L (by simp (disch := omega) only [I_ne, I_nk]; exact k1) (by simp (disch := omega) only [I_ne, I_nk, I_eq]) (by omega) (Nat.lt_succ_self _) (by decide)]
    have k6 : ∀ y, y = (cm_sI (cm_sI (cm_sI (cm_sI (cm_sI w 33 2 (nI (nR s + 1))) 34 (7 * nR s + 0) kd) 34 (7 * nR s + 1) yb) 34 (7 * nR s + 2) to') 34 (7 * nR s + 3) x) → cm_I y 30 6 = s 96 8 := fun y e => by subst e; simp (disch := omega) only [I_ne]; exact k2
    rw [k6 _ rfl]
    rw [if_pos (S30 (w := (cm_sI (cm_sI (cm_sI (cm_sI (cm_sI w 33 2 (nI (nR s + 1))) 34 (7 * nR s + 0) kd) 34 (7 * nR s + 1) yb) 34 (7 * nR s + 2) to') 34 (7 * nR s + 3) x)) L), R30_1 (w := (cm_sI (cm_sI (cm_sI (cm_sI (cm_sI w 33 2 (nI (nR s + 1))) 34 (7 * nR s + 0) kd) 34 (7 * nR s + 1) yb) 34 (7 * nR s + 2) to') 34 (7 * nR s + 3) x)) L, if_pos (S33 (w := (cm_sI (cm_sI (cm_sI (cm_sI (cm_sI w 33 2 (nI (nR s + 1))) 34 (7 * nR s + 0) kd) 34 (7 * nR s + 1) yb) 34 (7 * nR s + 2) to') 34 (7 * nR s + 3) x)) L), setRb (w := (cm_sI (cm_sI (cm_sI (cm_sI (cm_sI w 33 2 (nI (nR s + 1))) 34 (7 * nR s + 0) kd) 34 (7 * nR s + 1) yb) 34 (7 * nR s + 2) to') 34 (7 * nR s + 3) x)) (n := nR s + 1) (k := nR s) (j := 4) L (by simp (disch := omega) only [I_ne, I_nk]; exact k1) (by simp (disch := omega) only [I_ne, I_nk, I_eq]) (by omega) (Nat.lt_succ_self _) (by decide)]
    rw [if_pos (S30 (w := (cm_sI (cm_sI (cm_sI (cm_sI (cm_sI (cm_sI w 33 2 (nI (nR s + 1))) 34 (7 * nR s + 0) kd) 34 (7 * nR s + 1) yb) 34 (7 * nR s + 2) to') 34 (7 * nR s + 3) x) 34 (7 * nR s + 4) (s 96 8))) L), R30_1 (w := (cm_sI (cm_sI (cm_sI (cm_sI (cm_sI (cm_sI w 33 2 (nI (nR s + 1))) 34 (7 * nR s + 0) kd) 34 (7 * nR s + 1) yb) 34 (7 * nR s + 2) to') 34 (7 * nR s + 3) x) 34 (7 * nR s + 4) (s 96 8))) L, if_pos (S33 (w := (cm_sI (cm_sI (cm_sI (cm_sI (cm_sI (cm_sI w 33 2 (nI (nR s + 1))) 34 (7 * nR s + 0) kd) 34 (7 * nR s + 1) yb) 34 (7 * nR s + 2) to') 34 (7 * nR s + 3) x) 34 (7 * nR s + 4) (s 96 8))) L), setRb (w := (cm_sI (cm_sI (cm_sI (cm_sI (cm_sI (cm_sI w 33 2 (nI (nR s + 1))) 34 (7 * nR s + 0) kd) 34 (7 * nR s + 1) yb) 34 (7 * nR s + 2) to') 34 (7 * nR s + 3) x) 34 (7 * nR s + 4) (s 96 8))) (n := nR s + 1) (k := nR s) (j := 5) L (by simp (disch := omega) only [I_ne, I_nk]; exact k1) (by simp (disch := omega) only [I_ne, I_nk, I_eq]) (by omega) (Nat.lt_succ_self _) (by decide)]
    rw [if_pos (S30 (w := (cm_sI (cm_sI (cm_sI (cm_sI (cm_sI (cm_sI (cm_sI w 33 2 (nI (nR s + 1))) 34 (7 * nR s + 0) kd) 34 (7 * nR s + 1) yb) 34 (7 * nR s + 2) to') 34 (7 * nR s + 3) x) 34 (7 * nR s + 4) (s 96 8)) 34 (7 * nR s + 5) (nI b))) L), R30_1 (w := (cm_sI (cm_sI (cm_sI (cm_sI (cm_sI (cm_sI (cm_sI w 33 2 (nI (nR s + 1))) 34 (7 * nR s + 0) kd) 34 (7 * nR s + 1) yb) 34 (7 * nR s + 2) to') 34 (7 * nR s + 3) x) 34 (7 * nR s + 4) (s 96 8)) 34 (7 * nR s + 5) (nI b))) L]
    have last : ∀ z : Int32, fn_99 33 (nI (nR s)) 6 z (cm_sI (cm_sI (cm_sI (cm_sI (cm_sI (cm_sI (cm_sI w 33 2 (nI (nR s + 1))) 34 (7 * nR s + 0) kd) 34 (7 * nR s + 1) yb) 34 (7 * nR s + 2) to') 34 (7 * nR s + 3) x) 34 (7 * nR s + 4) (s 96 8)) 34 (7 * nR s + 5) (nI b)) = some (cm_sI (cm_sI (cm_sI (cm_sI (cm_sI (cm_sI (cm_sI (cm_sI w 33 2 (nI (nR s + 1))) 34 (7 * nR s + 0) kd) 34 (7 * nR s + 1) yb) 34 (7 * nR s + 2) to') 34 (7 * nR s + 3) x) 34 (7 * nR s + 4) (s 96 8)) 34 (7 * nR s + 5) (nI b)) 34 (7 * nR s + 6) z) := fun z => setR (w := (cm_sI (cm_sI (cm_sI (cm_sI (cm_sI (cm_sI (cm_sI w 33 2 (nI (nR s + 1))) 34 (7 * nR s + 0) kd) 34 (7 * nR s + 1) yb) 34 (7 * nR s + 2) to') 34 (7 * nR s + 3) x) 34 (7 * nR s + 4) (s 96 8)) 34 (7 * nR s + 5) (nI b))) (n := nR s + 1) (k := nR s) (j := 6) L (by simp (disch := omega) only [I_ne, I_nk]; exact k1) (by simp (disch := omega) only [I_ne, I_nk, I_eq]) (by omega) (Nat.lt_succ_self _) (by decide)
    have s33 : cm_sh (cm_sI (cm_sI (cm_sI (cm_sI (cm_sI (cm_sI (cm_sI w 33 2 (nI (nR s + 1))) 34 (7 * nR s + 0) kd) 34 (7 * nR s + 1) yb) 34 (7 * nR s + 2) to') 34 (7 * nR s + 3) x) 34 (7 * nR s + 4) (s 96 8)) 34 (7 * nR s + 5) (nI b)) 33 = some (.inl 7) := S33 (w := (cm_sI (cm_sI (cm_sI (cm_sI (cm_sI (cm_sI (cm_sI w 33 2 (nI (nR s + 1))) 34 (7 * nR s + 0) kd) 34 (7 * nR s + 1) yb) 34 (7 * nR s + 2) to') 34 (7 * nR s + 3) x) 34 (7 * nR s + 4) (s 96 8)) 34 (7 * nR s + 5) (nI b))) L
    by_cases hy : yb = -1
    · rw [if_pos hy, if_pos s33, last, if_pos hy]; rfl
    · rw [if_neg hy, if_neg hy, g1 (cm_sI (cm_sI (cm_sI (cm_sI (cm_sI (cm_sI (cm_sI w 33 2 (nI (nR s + 1))) 34 (7 * nR s + 0) kd) 34 (7 * nR s + 1) yb) 34 (7 * nR s + 2) to') 34 (7 * nR s + 3) x) 34 (7 * nR s + 4) (s 96 8)) 34 (7 * nR s + 5) (nI b)) L (by simp (disch := omega) only [I_ne]; exact k3) (by simp (disch := omega) only [I_ne]; exact k4) (by simp (disch := omega) only [I_ne]; exact V.2.2.1 b hb 4 (by omega)), Option.bind_some]
      by_cases h1 : cm_iin yb 12 = true ∧ (s 118 b >>> (yb &&& 31)) &&& 1 = 1
      · rw [decide_eq_true h1, if_neg (by decide), if_pos s33, last, if_pos h1]; rfl
      · rw [decide_eq_false h1, if_pos (by decide), if_pos s33, last, if_neg h1]; rfl
  · exact L
  · intro a ha j
    simp (disch := omega) only [I_ne]
theorem S96 (L : Lay v c w) : cm_sh w 96 = some (.inl 11) := by simp only [LM L]
theorem R96_48 (L : Lay v c w) {β : Type} (f : Nat → Option β) : (cm_R w 96 48).bind f = f 122 := by simp only [LMb L]
theorem R96_46 (L : Lay v c w) {β : Type} (f : Nat → Option β) : (cm_R w 96 46).bind f = f 120 := by simp only [LMb L]
theorem R96_44 (L : Lay v c w) {β : Type} (f : Nat → Option β) : (cm_R w 96 44).bind f = f 118 := by simp only [LMb L]
theorem m238 {x : cm_W} (L1 : Lay v c x) (M1 : RelM x s) (I : InvS s) (hR : nR s < 300) {b : Nat} (hb : b < nB s) {kd yb to' xv : Int32} : ∃ y, fn_238 96 (nI b) kd yb to' xv x = some y ∧ Lay v c y ∧ RelM y (addR s b kd yb to' xv (if yb = -1 then 0 else if (s 118 b >>> (yb &&& 31)) &&& 1 = 1 then 1 else 0)) ∧ (∀ a, a < 96 → ∀ j, cm_I y a j = cm_I x a j) ∧ cm_L y = cm_L x := by
  have hR1 := I.2.2.1.1
  have hB := I.2.1.2
  have e39 : cm_I x 96 39 = nI (nR s) := ((RM M1).1.2.2.2.2.2.2.2.2.2.2.2.1).trans hR1
  refine ⟨_, ?_, ?_, (((((((((M1.up).up).up).up).up).up).up).up).up), ?_, rfl⟩
  · simp (disch := first | exact L1 | omega) only [fn_238, S96 (v := v) (c := c), ↓R96_48 (v := v) (c := c), ↓R96_46 (v := v) (c := c), ↓R96_44 (v := v) (c := c), ↓reduceIte, sh_sI, R_sI, ga_sI, I_ne, I_nk, I_eq, e39, LM L1, RM M1, fn_196, fn_195, cm_w2, Nat.reduceLeDiff, Nat.reduceLT, decide_true, Bool.and_self, Bool.and_true, eq_self, Nat.le_refl, Nat.lt_irrefl, some_if, Option.bind_some, Option.bind_none, Option.some.injEq, ↓reduceIte, reduceCtorEq, Bool.false_eq_true, Bool.true_eq_false, not_true_eq_false, not_false_eq_true, cmb0, cmb1, Nat.reduceAdd, Nat.reduceMul, Nat.reduceSub, Nat.add_zero, Bool.not_eq_true, Bool.not_eq_false, Nat.reduceEqDiff, Nat.reduceLeDiff, Nat.reduceLT, Int32.reduceLT, Int32.reduceLE, iin_nI, iin_lit, iin_m1, tn_nI, tn_lit, nI_lm, nI_ml, nI_al, nI_la, nI_add, pk_mul, nI_le_l, nI_l_le, nI_lt_l, nI_l_lt, nI_eq_l, nI_l_eq, nI_eqP, nI_leP, nI_ltP, nI_m1, m1_nI, nI_ll, m1_l, l_m1]
    by_cases hy : yb = -1
    · simp only [hy, not_true_eq_false, ↓reduceIte]
    · by_cases h1 : (s 118 b >>> (yb &&& 31)) &&& 1 = 1
      · simp only [hy, h1, not_true_eq_false, not_false_eq_true, ↓reduceIte, Bool.true_eq_false]
      · simp only [hy, h1, not_false_eq_true, ↓reduceIte]
  · exact L1
  · intro a ha j
    simp (disch := omega) only [I_ne]
end REC
