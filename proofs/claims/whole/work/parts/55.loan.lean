/-! lend, bring, row -/
/-- s' is s with one loan more -/
def chL (s s' : St) (x0 x1 x2 x3 x4 : Int32) : Prop := (∀ a j, ¬ (a = 96 ∧ j = 51) → ¬ (124 ≤ a ∧ a ≤ 129 ∧ j = nL s) → s' a j = s a j) ∧ s' 96 51 = nI (nL s + 1) ∧ s' 124 (nL s) = x0 ∧ s' 125 (nL s) = x1 ∧ s' 126 (nL s) = x2 ∧ s' 127 (nL s) = x3 ∧ s' 128 (nL s) = x4 ∧ s' 129 (nL s) = 0
/-- s' is s with one row more in the book -/
def chK (s s' : St) (x0 x1 x2 x3 : Int32) : Prop := (∀ a j, ¬ (a = 96 ∧ j = 58) → ¬ (130 ≤ a ∧ a ≤ 133 ∧ j = nK s) → s' a j = s a j) ∧ s' 96 58 = nI (nK s + 1) ∧ s' 130 (nK s) = x0 ∧ s' 131 (nK s) = x1 ∧ s' 132 (nK s) = x2 ∧ s' 133 (nK s) = x3
section LOAN
variable {v c u n : Nat} {w w' : cm_W} {s s' : St}
theorem StC_addL (V : StC w 30 s) (hL2 : nL s < 20) {x0 x1 x2 x3 x4 : Int32} (h : chL s s' x0 x1 x2 x3 x4) : StC (cm_sI (cm_sI (cm_sI (cm_sI (cm_sI (cm_sI (cm_sI w 35 2 (nI (nL s + 1))) 36 (6 * nL s + 0) x0) 36 (6 * nL s + 1) x1) 36 (6 * nL s + 2) x2) 36 (6 * nL s + 3) x3) 36 (6 * nL s + 4) x4) 36 (6 * nL s + 5) 0) 30 s' := by
  obtain ⟨ea, f51, g0, g1, g2, g3, g4, g5⟩ := h
  have e1 : nB s' = nB s := by unfold nB; rw [ea _ _ (by omega) (by omega)]
  have e2 : nP s' = nP s := by unfold nP; rw [ea _ _ (by omega) (by omega)]
  have e3 : nR s' = nR s := by unfold nR; rw [ea _ _ (by omega) (by omega)]
  have e4 : nL s' = nL s + 1 := by unfold nL at f51 ⊢; rw [f51]; exact nI_clamp (by unfold nL at hL2; omega)
  have e5 : nK s' = nK s := by unfold nK; rw [ea _ _ (by omega) (by omega)]
  obtain ⟨h1, h2, h3, h4, h5, h6, h7, h8⟩ := V
  unfold StC
  rw [e1, e2, e3, e4, e5, f51, ea 96 38 (by omega) (by omega), ea 96 39 (by omega) (by omega), ea 96 58 (by omega) (by omega), ea 96 8 (by omega) (by omega)]
  refine ⟨?_, ?_, ?_, ?_, ?_, ?_, ?_, ?_⟩
  · simp (disch := omega) only [I_ne, I_eq]
    exact ⟨h1.1, h1.2.1, trivial, h1.2.2.2⟩
  · simp (disch := omega) only [I_ne, I_nk]; exact h2
  · intro x' hx k' hk'
    rw [ea _ _ (by omega) (by omega)]
    simp (disch := omega) only [I_ne]; exact h3 x' hx k' hk'
  · intro x' hx k' hk'
    rw [ea _ _ (by omega) (by omega)]
    simp (disch := omega) only [I_ne]; exact h4 x' hx k' hk'
  · intro r hr k' hk'
    by_cases q : r = nL s
    · subst q
      rcases (show k' = 0 ∨ k' = 1 ∨ k' = 2 ∨ k' = 3 ∨ k' = 4 ∨ k' = 5 by omega) with rfl | rfl | rfl | rfl | rfl | rfl
      · simp (disch := omega) only [Nat.reduceAdd, g0, I_eq, I_nk]
      · simp (disch := omega) only [Nat.reduceAdd, g1, I_eq, I_nk]
      · simp (disch := omega) only [Nat.reduceAdd, g2, I_eq, I_nk]
      · simp (disch := omega) only [Nat.reduceAdd, g3, I_eq, I_nk]
      · simp (disch := omega) only [Nat.reduceAdd, g4, I_eq, I_nk]
      · simp (disch := omega) only [Nat.reduceAdd, g5, I_eq, I_nk]
    · rw [ea _ _ (by omega) (by omega)]
      simp (disch := omega) only [I_ne, I_nk]
      exact h5 r (by omega) k' hk'
  · intro x' hx k' hk'
    rw [ea _ _ (by omega) (by omega)]
    simp (disch := omega) only [I_ne]; exact h6 x' hx k' hk'
  · intro x' hx k' hk'
    rw [ea _ _ (by omega) (by omega)]
    simp (disch := omega) only [I_ne]; exact h7 x' hx k' hk'
  · intro x' hx
    rw [ea _ _ (by omega) (by omega)]
    simp (disch := omega) only [I_ne]; exact h8 x' hx
theorem InvS_addL (h : InvS s) (hL2 : nL s < 20) {x0 x1 x2 x3 x4 : Int32} (hc : chL s s' x0 x1 x2 x3 x4) (r0 : rg x0 (nB s)) (r1 : rg x1 (nP s)) (r2 : rg x2 (nP s)) (r3 : rg x3 10000) (r4 : rg x4 10000) : InvS s' := by
  obtain ⟨ea, f51, g0, g1, g2, g3, g4, g5⟩ := hc
  have e1 : nB s' = nB s := by unfold nB; rw [ea _ _ (by omega) (by omega)]
  have e2 : nP s' = nP s := by unfold nP; rw [ea _ _ (by omega) (by omega)]
  have e3 : nR s' = nR s := by unfold nR; rw [ea _ _ (by omega) (by omega)]
  have e4 : nL s' = nL s + 1 := by unfold nL at f51 ⊢; rw [f51]; exact nI_clamp (by unfold nL at hL2; omega)
  have e5 : nK s' = nK s := by unfold nK; rw [ea _ _ (by omega) (by omega)]
  have e6 : nT s' = nT s := by unfold nT; rw [ea _ _ (by omega) (by omega)]
  have e7 : nM s' = nM s := by unfold nM; rw [ea _ _ (by omega) (by omega)]
  have eb : ∀ a j, a ≠ 96 → (a < 124 ∨ 129 < a) → s' a j = s a j := fun a j h1 h2 => ea a j (by omega) (by omega)
  have e8 : nIn s' = nIn s := by unfold nIn; rw [e1]; simp (disch := omega) only [eb]
  obtain ⟨i1, i2, i3, i4, i5, i6, i7, i8, i9, i10, i11⟩ := h
  unfold InvS
  rw [e1, e2, e3, e4, e5, e6, e7, e8, f51, ea 96 38 (by omega) (by omega), ea 96 39 (by omega) (by omega), ea 96 58 (by omega) (by omega), ea 96 8 (by omega) (by omega)]
  simp (disch := omega) only [eb]
  refine ⟨i1, i2, i3, ⟨trivial, by omega⟩, i5, i6, i7, i8, i9, fun l hl => ?_, i11⟩
  by_cases q : l = nL s
  · subst q
    rw [g0, g1, g2, g3, g4, g5]
    exact ⟨r0, r1, r2, r3, r4, ⟨0, by omega, rfl⟩⟩
  · rw [ea _ _ (by omega) (by omega), ea _ _ (by omega) (by omega), ea _ _ (by omega) (by omega), ea _ _ (by omega) (by omega), ea _ _ (by omega) (by omega), ea _ _ (by omega) (by omega)]
    exact i10 l (by omega)
theorem c106 (L : Lay v c w) (V : StC w 30 s) (I : InvS s) (hL : nL s < 20) {x0 x1 x2 x3 x4 : Int32} : fn_106 30 x0 x1 x2 x3 x4 w = some (nI (nL s), (cm_sI (cm_sI (cm_sI (cm_sI (cm_sI (cm_sI (cm_sI w 35 2 (nI (nL s + 1))) 36 (6 * nL s + 0) x0) 36 (6 * nL s + 1) x1) 36 (6 * nL s + 2) x2) 36 (6 * nL s + 3) x3) 36 (6 * nL s + 4) x4) 36 (6 * nL s + 5) 0)) := by
  have hn := V.1.2.2.1.trans I.2.2.2.1.1
  have a1 : fn_98 35 w = some (nI (nL s), cm_sI w 35 2 (nI (nL s + 1))) := app_in (by simp only [LSt L]) (by rw [fulL L V I]; simp; omega) hn (by decide)
  unfold fn_106
  rw [if_pos (S30 L), R30_2 L, if_pos (S35 L), a1, Option.bind_some]
  dsimp only
  rw [if_pos (S30 (w := (cm_sI w 35 2 (nI (nL s + 1)))) L), R30_2 (w := (cm_sI w 35 2 (nI (nL s + 1)))) L, if_pos (S35 (w := (cm_sI w 35 2 (nI (nL s + 1)))) L), setLb (w := (cm_sI w 35 2 (nI (nL s + 1)))) (n := nL s + 1) (k := nL s) (j := 0) L (by simp (disch := omega) only [I_ne, I_nk]; exact V.2.1.2.2.1) (by simp (disch := omega) only [I_ne, I_nk, I_eq]) (by omega) (Nat.lt_succ_self _) (by decide)]
  rw [if_pos (S30 (w := (cm_sI (cm_sI w 35 2 (nI (nL s + 1))) 36 (6 * nL s + 0) x0)) L), R30_2 (w := (cm_sI (cm_sI w 35 2 (nI (nL s + 1))) 36 (6 * nL s + 0) x0)) L, if_pos (S35 (w := (cm_sI (cm_sI w 35 2 (nI (nL s + 1))) 36 (6 * nL s + 0) x0)) L), setLb (w := (cm_sI (cm_sI w 35 2 (nI (nL s + 1))) 36 (6 * nL s + 0) x0)) (n := nL s + 1) (k := nL s) (j := 1) L (by simp (disch := omega) only [I_ne, I_nk]; exact V.2.1.2.2.1) (by simp (disch := omega) only [I_ne, I_nk, I_eq]) (by omega) (Nat.lt_succ_self _) (by decide)]
  rw [if_pos (S30 (w := (cm_sI (cm_sI (cm_sI w 35 2 (nI (nL s + 1))) 36 (6 * nL s + 0) x0) 36 (6 * nL s + 1) x1)) L), R30_2 (w := (cm_sI (cm_sI (cm_sI w 35 2 (nI (nL s + 1))) 36 (6 * nL s + 0) x0) 36 (6 * nL s + 1) x1)) L, if_pos (S35 (w := (cm_sI (cm_sI (cm_sI w 35 2 (nI (nL s + 1))) 36 (6 * nL s + 0) x0) 36 (6 * nL s + 1) x1)) L), setLb (w := (cm_sI (cm_sI (cm_sI w 35 2 (nI (nL s + 1))) 36 (6 * nL s + 0) x0) 36 (6 * nL s + 1) x1)) (n := nL s + 1) (k := nL s) (j := 2) L (by simp (disch := omega) only [I_ne, I_nk]; exact V.2.1.2.2.1) (by simp (disch := omega) only [I_ne, I_nk, I_eq]) (by omega) (Nat.lt_succ_self _) (by decide)]
  rw [if_pos (S30 (w := (cm_sI (cm_sI (cm_sI (cm_sI w 35 2 (nI (nL s + 1))) 36 (6 * nL s + 0) x0) 36 (6 * nL s + 1) x1) 36 (6 * nL s + 2) x2)) L), R30_2 (w := (cm_sI (cm_sI (cm_sI (cm_sI w 35 2 (nI (nL s + 1))) 36 (6 * nL s + 0) x0) 36 (6 * nL s + 1) x1) 36 (6 * nL s + 2) x2)) L, if_pos (S35 (w := (cm_sI (cm_sI (cm_sI (cm_sI w 35 2 (nI (nL s + 1))) 36 (6 * nL s + 0) x0) 36 (6 * nL s + 1) x1) 36 (6 * nL s + 2) x2)) L), setLb (w := (cm_sI (cm_sI (cm_sI (cm_sI w 35 2 (nI (nL s + 1))) 36 (6 * nL s + 0) x0) 36 (6 * nL s + 1) x1) 36 (6 * nL s + 2) x2)) (n := nL s + 1) (k := nL s) (j := 3) L (by simp (disch := omega) only [I_ne, I_nk]; exact V.2.1.2.2.1) (by simp (disch := omega) only [I_ne, I_nk, I_eq]) (by omega) (Nat.lt_succ_self _) (by decide)]
  rw [if_pos (S30 (w := (cm_sI (cm_sI (cm_sI (cm_sI (cm_sI w 35 2 (nI (nL s + 1))) 36 (6 * nL s + 0) x0) 36 (6 * nL s + 1) x1) 36 (6 * nL s + 2) x2) 36 (6 * nL s + 3) x3)) L), R30_2 (w := (cm_sI (cm_sI (cm_sI (cm_sI (cm_sI w 35 2 (nI (nL s + 1))) 36 (6 * nL s + 0) x0) 36 (6 * nL s + 1) x1) 36 (6 * nL s + 2) x2) 36 (6 * nL s + 3) x3)) L, if_pos (S35 (w := (cm_sI (cm_sI (cm_sI (cm_sI (cm_sI w 35 2 (nI (nL s + 1))) 36 (6 * nL s + 0) x0) 36 (6 * nL s + 1) x1) 36 (6 * nL s + 2) x2) 36 (6 * nL s + 3) x3)) L), setLb (w := (cm_sI (cm_sI (cm_sI (cm_sI (cm_sI w 35 2 (nI (nL s + 1))) 36 (6 * nL s + 0) x0) 36 (6 * nL s + 1) x1) 36 (6 * nL s + 2) x2) 36 (6 * nL s + 3) x3)) (n := nL s + 1) (k := nL s) (j := 4) L (by simp (disch := omega) only [I_ne, I_nk]; exact V.2.1.2.2.1) (by simp (disch := omega) only [I_ne, I_nk, I_eq]) (by omega) (Nat.lt_succ_self _) (by decide)]
  rw [if_pos (S30 (w := (cm_sI (cm_sI (cm_sI (cm_sI (cm_sI (cm_sI w 35 2 (nI (nL s + 1))) 36 (6 * nL s + 0) x0) 36 (6 * nL s + 1) x1) 36 (6 * nL s + 2) x2) 36 (6 * nL s + 3) x3) 36 (6 * nL s + 4) x4)) L), R30_2 (w := (cm_sI (cm_sI (cm_sI (cm_sI (cm_sI (cm_sI w 35 2 (nI (nL s + 1))) 36 (6 * nL s + 0) x0) 36 (6 * nL s + 1) x1) 36 (6 * nL s + 2) x2) 36 (6 * nL s + 3) x3) 36 (6 * nL s + 4) x4)) L, if_pos (S35 (w := (cm_sI (cm_sI (cm_sI (cm_sI (cm_sI (cm_sI w 35 2 (nI (nL s + 1))) 36 (6 * nL s + 0) x0) 36 (6 * nL s + 1) x1) 36 (6 * nL s + 2) x2) 36 (6 * nL s + 3) x3) 36 (6 * nL s + 4) x4)) L), setLb (w := (cm_sI (cm_sI (cm_sI (cm_sI (cm_sI (cm_sI w 35 2 (nI (nL s + 1))) 36 (6 * nL s + 0) x0) 36 (6 * nL s + 1) x1) 36 (6 * nL s + 2) x2) 36 (6 * nL s + 3) x3) 36 (6 * nL s + 4) x4)) (n := nL s + 1) (k := nL s) (j := 5) L (by simp (disch := omega) only [I_ne, I_nk]; exact V.2.1.2.2.1) (by simp (disch := omega) only [I_ne, I_nk, I_eq]) (by omega) (Nat.lt_succ_self _) (by decide)]
theorem StC_addK (V : StC w 30 s) (hK2 : nK s < 40) {x0 x1 x2 x3 : Int32} (h : chK s s' x0 x1 x2 x3) : StC (cm_sI (cm_sI (cm_sI (cm_sI (cm_sI w 37 2 (nI (nK s + 1))) 38 (4 * nK s + 0) x0) 38 (4 * nK s + 1) x1) 38 (4 * nK s + 2) x2) 38 (4 * nK s + 3) x3) 30 s' := by
  obtain ⟨ea, f58, g0, g1, g2, g3⟩ := h
  have e1 : nB s' = nB s := by unfold nB; rw [ea _ _ (by omega) (by omega)]
  have e2 : nP s' = nP s := by unfold nP; rw [ea _ _ (by omega) (by omega)]
  have e3 : nR s' = nR s := by unfold nR; rw [ea _ _ (by omega) (by omega)]
  have e4 : nL s' = nL s := by unfold nL; rw [ea _ _ (by omega) (by omega)]
  have e5 : nK s' = nK s + 1 := by unfold nK at f58 ⊢; rw [f58]; exact nI_clamp (by unfold nK at hK2; omega)
  obtain ⟨h1, h2, h3, h4, h5, h6, h7, h8⟩ := V
  unfold StC
  rw [e1, e2, e3, e4, e5, f58, ea 96 38 (by omega) (by omega), ea 96 39 (by omega) (by omega), ea 96 51 (by omega) (by omega), ea 96 8 (by omega) (by omega)]
  refine ⟨?_, ?_, ?_, ?_, ?_, ?_, ?_, ?_⟩
  · simp (disch := omega) only [I_ne, I_eq]
    exact ⟨h1.1, h1.2.1, h1.2.2.1, trivial, h1.2.2.2.2⟩
  · simp (disch := omega) only [I_ne, I_nk]; exact h2
  · intro x' hx k' hk'
    rw [ea _ _ (by omega) (by omega)]
    simp (disch := omega) only [I_ne]; exact h3 x' hx k' hk'
  · intro x' hx k' hk'
    rw [ea _ _ (by omega) (by omega)]
    simp (disch := omega) only [I_ne]; exact h4 x' hx k' hk'
  · intro x' hx k' hk'
    rw [ea _ _ (by omega) (by omega)]
    simp (disch := omega) only [I_ne]; exact h5 x' hx k' hk'
  · intro r hr k' hk'
    by_cases q : r = nK s
    · subst q
      rcases (show k' = 0 ∨ k' = 1 ∨ k' = 2 ∨ k' = 3 by omega) with rfl | rfl | rfl | rfl
      · simp (disch := omega) only [Nat.reduceAdd, g0, I_eq, I_nk]
      · simp (disch := omega) only [Nat.reduceAdd, g1, I_eq, I_nk]
      · simp (disch := omega) only [Nat.reduceAdd, g2, I_eq, I_nk]
      · simp (disch := omega) only [Nat.reduceAdd, g3, I_eq, I_nk]
    · rw [ea _ _ (by omega) (by omega)]
      simp (disch := omega) only [I_ne, I_nk]
      exact h6 r (by omega) k' hk'
  · intro x' hx k' hk'
    rw [ea _ _ (by omega) (by omega)]
    simp (disch := omega) only [I_ne]; exact h7 x' hx k' hk'
  · intro x' hx
    rw [ea _ _ (by omega) (by omega)]
    simp (disch := omega) only [I_ne]; exact h8 x' hx
theorem InvS_addK (h : InvS s) (hK2 : nK s < 40) {x0 x1 x2 x3 : Int32} (hc : chK s s' x0 x1 x2 x3) (r0 : rg x0 (nB s)) (r1 : rg x1 (nP s)) (r2 : rg x2 (nP s)) (r3 : rg x3 10000) : InvS s' := by
  obtain ⟨ea, f58, g0, g1, g2, g3⟩ := hc
  have e1 : nB s' = nB s := by unfold nB; rw [ea _ _ (by omega) (by omega)]
  have e2 : nP s' = nP s := by unfold nP; rw [ea _ _ (by omega) (by omega)]
  have e3 : nR s' = nR s := by unfold nR; rw [ea _ _ (by omega) (by omega)]
  have e4 : nL s' = nL s := by unfold nL; rw [ea _ _ (by omega) (by omega)]
  have e5 : nK s' = nK s + 1 := by unfold nK at f58 ⊢; rw [f58]; exact nI_clamp (by unfold nK at hK2; omega)
  have e6 : nT s' = nT s := by unfold nT; rw [ea _ _ (by omega) (by omega)]
  have e7 : nM s' = nM s := by unfold nM; rw [ea _ _ (by omega) (by omega)]
  have eb : ∀ a j, a ≠ 96 → a < 130 → s' a j = s a j := fun a j h1 h2 => ea a j (by omega) (by omega)
  have e8 : nIn s' = nIn s := by unfold nIn; rw [e1]; simp (disch := omega) only [eb]
  obtain ⟨i1, i2, i3, i4, i5, i6, i7, i8, i9, i10, i11⟩ := h
  unfold InvS
  rw [e1, e2, e3, e4, e5, e6, e7, e8, f58, ea 96 38 (by omega) (by omega), ea 96 39 (by omega) (by omega), ea 96 51 (by omega) (by omega), ea 96 8 (by omega) (by omega)]
  simp (disch := omega) only [eb]
  refine ⟨i1, i2, i3, i4, ⟨trivial, by omega⟩, i6, i7, i8, i9, i10, fun l hl => ?_⟩
  by_cases q : l = nK s
  · subst q
    rw [g0, g1, g2, g3]
    exact ⟨r0, r1, r2, r3⟩
  · rw [ea _ _ (by omega) (by omega), ea _ _ (by omega) (by omega), ea _ _ (by omega) (by omega), ea _ _ (by omega) (by omega)]
    exact i11 l (by omega)
theorem c107 (L : Lay v c w) (V : StC w 30 s) (I : InvS s) (hK : nK s < 40) {x0 x1 x2 x3 : Int32} : fn_107 30 x0 x1 x2 x3 w = some (nI (nK s + 1), (cm_sI (cm_sI (cm_sI (cm_sI (cm_sI w 37 2 (nI (nK s + 1))) 38 (4 * nK s + 0) x0) 38 (4 * nK s + 1) x1) 38 (4 * nK s + 2) x2) 38 (4 * nK s + 3) x3)) := by
  have hn := V.1.2.2.2.1.trans I.2.2.2.2.1.1
  have a1 : fn_98 37 w = some (nI (nK s), cm_sI w 37 2 (nI (nK s + 1))) := app_in (by simp only [LSt L]) (by rw [fulK L V I]; simp; omega) hn (by decide)
  unfold fn_107
  rw [if_pos (S30 L), R30_3 L, if_pos (S37 L), a1, Option.bind_some]
  dsimp only
  rw [if_pos (S30 (w := (cm_sI w 37 2 (nI (nK s + 1)))) L), R30_3 (w := (cm_sI w 37 2 (nI (nK s + 1)))) L, if_pos (S37 (w := (cm_sI w 37 2 (nI (nK s + 1)))) L), setKb (w := (cm_sI w 37 2 (nI (nK s + 1)))) (n := nK s + 1) (k := nK s) (j := 0) L (by simp (disch := omega) only [I_ne, I_nk]; exact V.2.1.2.2.2) (by simp (disch := omega) only [I_ne, I_nk, I_eq]) (by omega) (Nat.lt_succ_self _) (by decide)]
  rw [if_pos (S30 (w := (cm_sI (cm_sI w 37 2 (nI (nK s + 1))) 38 (4 * nK s + 0) x0)) L), R30_3 (w := (cm_sI (cm_sI w 37 2 (nI (nK s + 1))) 38 (4 * nK s + 0) x0)) L, if_pos (S37 (w := (cm_sI (cm_sI w 37 2 (nI (nK s + 1))) 38 (4 * nK s + 0) x0)) L), setKb (w := (cm_sI (cm_sI w 37 2 (nI (nK s + 1))) 38 (4 * nK s + 0) x0)) (n := nK s + 1) (k := nK s) (j := 1) L (by simp (disch := omega) only [I_ne, I_nk]; exact V.2.1.2.2.2) (by simp (disch := omega) only [I_ne, I_nk, I_eq]) (by omega) (Nat.lt_succ_self _) (by decide)]
  rw [if_pos (S30 (w := (cm_sI (cm_sI (cm_sI w 37 2 (nI (nK s + 1))) 38 (4 * nK s + 0) x0) 38 (4 * nK s + 1) x1)) L), R30_3 (w := (cm_sI (cm_sI (cm_sI w 37 2 (nI (nK s + 1))) 38 (4 * nK s + 0) x0) 38 (4 * nK s + 1) x1)) L, if_pos (S37 (w := (cm_sI (cm_sI (cm_sI w 37 2 (nI (nK s + 1))) 38 (4 * nK s + 0) x0) 38 (4 * nK s + 1) x1)) L), setKb (w := (cm_sI (cm_sI (cm_sI w 37 2 (nI (nK s + 1))) 38 (4 * nK s + 0) x0) 38 (4 * nK s + 1) x1)) (n := nK s + 1) (k := nK s) (j := 2) L (by simp (disch := omega) only [I_ne, I_nk]; exact V.2.1.2.2.2) (by simp (disch := omega) only [I_ne, I_nk, I_eq]) (by omega) (Nat.lt_succ_self _) (by decide)]
  rw [if_pos (S30 (w := (cm_sI (cm_sI (cm_sI (cm_sI w 37 2 (nI (nK s + 1))) 38 (4 * nK s + 0) x0) 38 (4 * nK s + 1) x1) 38 (4 * nK s + 2) x2)) L), R30_3 (w := (cm_sI (cm_sI (cm_sI (cm_sI w 37 2 (nI (nK s + 1))) 38 (4 * nK s + 0) x0) 38 (4 * nK s + 1) x1) 38 (4 * nK s + 2) x2)) L, if_pos (S37 (w := (cm_sI (cm_sI (cm_sI (cm_sI w 37 2 (nI (nK s + 1))) 38 (4 * nK s + 0) x0) 38 (4 * nK s + 1) x1) 38 (4 * nK s + 2) x2)) L), setKb (w := (cm_sI (cm_sI (cm_sI (cm_sI w 37 2 (nI (nK s + 1))) 38 (4 * nK s + 0) x0) 38 (4 * nK s + 1) x1) 38 (4 * nK s + 2) x2)) (n := nK s + 1) (k := nK s) (j := 3) L (by simp (disch := omega) only [I_ne, I_nk]; exact V.2.1.2.2.2) (by simp (disch := omega) only [I_ne, I_nk, I_eq]) (by omega) (Nat.lt_succ_self _) (by decide)]
  rw [if_pos (S30 (w := (cm_sI (cm_sI (cm_sI (cm_sI (cm_sI w 37 2 (nI (nK s + 1))) 38 (4 * nK s + 0) x0) 38 (4 * nK s + 1) x1) 38 (4 * nK s + 2) x2) 38 (4 * nK s + 3) x3)) L), R30_3 (w := (cm_sI (cm_sI (cm_sI (cm_sI (cm_sI w 37 2 (nI (nK s + 1))) 38 (4 * nK s + 0) x0) 38 (4 * nK s + 1) x1) 38 (4 * nK s + 2) x2) 38 (4 * nK s + 3) x3)) L, if_pos (S37 (w := (cm_sI (cm_sI (cm_sI (cm_sI (cm_sI w 37 2 (nI (nK s + 1))) 38 (4 * nK s + 0) x0) 38 (4 * nK s + 1) x1) 38 (4 * nK s + 2) x2) 38 (4 * nK s + 3) x3)) L)]
  simp (disch := omega) only [I_ne, I_nk, I_eq]
theorem w_row (g : GG v c w s) (i j k l : Int32) : OKW (fn_170 2 i j k l) (fn_265 96 i j k l) w := by
  obtain ⟨L, M, C, Z, I⟩ := id g
  have hv := L.1
  have V := C.2.2.1
  have hB := I.2.1.2.1
  have hP := I.1.2.1
  have hK := I.2.1.2.2.2.2.1
  have r1 : fn_170_64 2 i j k l w = some (-1, cm_sI w 42 0 (cm_I w 42 0 + 1)) := by
    simp (disch := omega) only [fn_170_64, LC L, c140 L, eq_self, Nat.le_refl, Nat.lt_irrefl, some_if, Option.bind_some, Option.bind_none, Option.some.injEq, ↓reduceIte, reduceCtorEq, Bool.false_eq_true, Bool.true_eq_false, not_true_eq_false, not_false_eq_true, cmb0, cmb1, Nat.reduceAdd, Nat.reduceMul, Nat.reduceSub, Nat.add_zero, Bool.not_eq_true, Bool.not_eq_false, Nat.reduceEqDiff, Nat.reduceLeDiff, Nat.reduceLT, Int32.reduceLT, Int32.reduceLE, iin_nI, iin_lit, iin_m1, tn_nI, tn_lit, nI_lm, nI_ml, nI_al, nI_la, nI_add, pk_mul, nI_le_l, nI_l_le, nI_lt_l, nI_l_lt, nI_eq_l, nI_l_eq, nI_eqP, nI_leP, nI_ltP, nI_m1, m1_nI, nI_ll, m1_l, l_m1]
  have r2 : ∀ x, Lay v c x → fn_265_41 96 x = some (-1, cm_sI x 97 0 (cm_I x 97 0 + 1)) := fun x L1 => by
    simp (disch := omega) only [fn_265_41, LM L1, m199 L1, eq_self, Nat.le_refl, Nat.lt_irrefl, some_if, Option.bind_some, Option.bind_none, Option.some.injEq, ↓reduceIte, reduceCtorEq, Bool.false_eq_true, Bool.true_eq_false, not_true_eq_false, not_false_eq_true, cmb0, cmb1, Nat.reduceAdd, Nat.reduceMul, Nat.reduceSub, Nat.add_zero, Bool.not_eq_true, Bool.not_eq_false, Nat.reduceEqDiff, Nat.reduceLeDiff, Nat.reduceLT, Int32.reduceLT, Int32.reduceLE, iin_nI, iin_lit, iin_m1, tn_nI, tn_lit, nI_lm, nI_ml, nI_al, nI_la, nI_add, pk_mul, nI_le_l, nI_l_le, nI_lt_l, nI_l_lt, nI_eq_l, nI_l_eq, nI_eqP, nI_leP, nI_ltP, nI_m1, m1_nI, nI_ll, m1_l, l_m1]
  have d1 : ∀ w, fn_194 w l (0 : Int32) (9999 : Int32) = some (cm_iin l 10000) := fun w => isIn_lit w l 9999 (by decide)
  rcases iin_cs i (n := nB s) (by omega) with h | ⟨b, hb, rfl⟩
  · refine ok_ref (r := -1) g 0 (by omega) ?_ (fun x L1 M1 _ => ?_)
    · simp (disch := omega) only [fn_170, ↓LCb L, ↓LStb L, ↓LVb L hv, ↓hasBb L V I.2.1, ↓hasTb L hv C.2.1 I.1, ↓hasPb L hv C.2.1 I.1, ↓c146b L V I.2.1, LC L, LSt L, LV L hv, h, r1, eq_self, Nat.le_refl, Nat.lt_irrefl, some_if, Option.bind_some, Option.bind_none, Option.some.injEq, ↓reduceIte, reduceCtorEq, Bool.false_eq_true, Bool.true_eq_false, not_true_eq_false, not_false_eq_true, cmb0, cmb1, Nat.reduceAdd, Nat.reduceMul, Nat.reduceSub, Nat.add_zero, Bool.not_eq_true, Bool.not_eq_false, Nat.reduceEqDiff, Nat.reduceLeDiff, Nat.reduceLT, Int32.reduceLT, Int32.reduceLE, iin_nI, iin_lit, iin_m1, tn_nI, tn_lit, nI_lm, nI_ml, nI_al, nI_la, nI_add, pk_mul, nI_le_l, nI_l_le, nI_lt_l, nI_l_lt, nI_eq_l, nI_l_eq, nI_eqP, nI_leP, nI_ltP, nI_m1, m1_nI, nI_ll, m1_l, l_m1]
    · simp (disch := omega) only [fn_265, ↓LMb L1, ↓mBoxb L1 M1 I.2.1, ↓mWhob L1 M1 I.1, ↓mThingb L1 M1 I.1, ↓mAheadb L1 M1 I.2.1, LM L1, h, r2 x L1, eq_self, Nat.le_refl, Nat.lt_irrefl, some_if, Option.bind_some, Option.bind_none, Option.some.injEq, ↓reduceIte, reduceCtorEq, Bool.false_eq_true, Bool.true_eq_false, not_true_eq_false, not_false_eq_true, cmb0, cmb1, Nat.reduceAdd, Nat.reduceMul, Nat.reduceSub, Nat.add_zero, Bool.not_eq_true, Bool.not_eq_false, Nat.reduceEqDiff, Nat.reduceLeDiff, Nat.reduceLT, Int32.reduceLT, Int32.reduceLE, iin_nI, iin_lit, iin_m1, tn_nI, tn_lit, nI_lm, nI_ml, nI_al, nI_la, nI_add, pk_mul, nI_le_l, nI_l_le, nI_lt_l, nI_l_lt, nI_eq_l, nI_l_eq, nI_eqP, nI_leP, nI_ltP, nI_m1, m1_nI, nI_ll, m1_l, l_m1]
  rcases iin_cs j (n := nP s) (by omega) with h | ⟨p, hp, rfl⟩
  · refine ok_ref (r := -1) g 0 (by omega) ?_ (fun x L1 M1 _ => ?_)
    · simp (disch := omega) only [fn_170, ↓LCb L, ↓LStb L, ↓LVb L hv, ↓hasBb L V I.2.1, ↓hasTb L hv C.2.1 I.1, ↓hasPb L hv C.2.1 I.1, ↓c146b L V I.2.1, LC L, LSt L, LV L hv, h, r1, eq_self, Nat.le_refl, Nat.lt_irrefl, some_if, Option.bind_some, Option.bind_none, Option.some.injEq, ↓reduceIte, reduceCtorEq, Bool.false_eq_true, Bool.true_eq_false, not_true_eq_false, not_false_eq_true, cmb0, cmb1, Nat.reduceAdd, Nat.reduceMul, Nat.reduceSub, Nat.add_zero, Bool.not_eq_true, Bool.not_eq_false, Nat.reduceEqDiff, Nat.reduceLeDiff, Nat.reduceLT, Int32.reduceLT, Int32.reduceLE, iin_nI, iin_lit, iin_m1, tn_nI, tn_lit, nI_lm, nI_ml, nI_al, nI_la, nI_add, pk_mul, nI_le_l, nI_l_le, nI_lt_l, nI_l_lt, nI_eq_l, nI_l_eq, nI_eqP, nI_leP, nI_ltP, nI_m1, m1_nI, nI_ll, m1_l, l_m1]
    · simp (disch := omega) only [fn_265, ↓LMb L1, ↓mBoxb L1 M1 I.2.1, ↓mWhob L1 M1 I.1, ↓mThingb L1 M1 I.1, ↓mAheadb L1 M1 I.2.1, LM L1, h, r2 x L1, eq_self, Nat.le_refl, Nat.lt_irrefl, some_if, Option.bind_some, Option.bind_none, Option.some.injEq, ↓reduceIte, reduceCtorEq, Bool.false_eq_true, Bool.true_eq_false, not_true_eq_false, not_false_eq_true, cmb0, cmb1, Nat.reduceAdd, Nat.reduceMul, Nat.reduceSub, Nat.add_zero, Bool.not_eq_true, Bool.not_eq_false, Nat.reduceEqDiff, Nat.reduceLeDiff, Nat.reduceLT, Int32.reduceLT, Int32.reduceLE, iin_nI, iin_lit, iin_m1, tn_nI, tn_lit, nI_lm, nI_ml, nI_al, nI_la, nI_add, pk_mul, nI_le_l, nI_l_le, nI_lt_l, nI_l_lt, nI_eq_l, nI_l_eq, nI_eqP, nI_leP, nI_ltP, nI_m1, m1_nI, nI_ll, m1_l, l_m1]
  rcases iin_cs k (n := nP s) (by omega) with h | ⟨q, hq, rfl⟩
  · refine ok_ref (r := -1) g 0 (by omega) ?_ (fun x L1 M1 _ => ?_)
    · simp (disch := omega) only [fn_170, ↓LCb L, ↓LStb L, ↓LVb L hv, ↓hasBb L V I.2.1, ↓hasTb L hv C.2.1 I.1, ↓hasPb L hv C.2.1 I.1, ↓c146b L V I.2.1, LC L, LSt L, LV L hv, h, r1, eq_self, Nat.le_refl, Nat.lt_irrefl, some_if, Option.bind_some, Option.bind_none, Option.some.injEq, ↓reduceIte, reduceCtorEq, Bool.false_eq_true, Bool.true_eq_false, not_true_eq_false, not_false_eq_true, cmb0, cmb1, Nat.reduceAdd, Nat.reduceMul, Nat.reduceSub, Nat.add_zero, Bool.not_eq_true, Bool.not_eq_false, Nat.reduceEqDiff, Nat.reduceLeDiff, Nat.reduceLT, Int32.reduceLT, Int32.reduceLE, iin_nI, iin_lit, iin_m1, tn_nI, tn_lit, nI_lm, nI_ml, nI_al, nI_la, nI_add, pk_mul, nI_le_l, nI_l_le, nI_lt_l, nI_l_lt, nI_eq_l, nI_l_eq, nI_eqP, nI_leP, nI_ltP, nI_m1, m1_nI, nI_ll, m1_l, l_m1]
    · simp (disch := omega) only [fn_265, ↓LMb L1, ↓mBoxb L1 M1 I.2.1, ↓mWhob L1 M1 I.1, ↓mThingb L1 M1 I.1, ↓mAheadb L1 M1 I.2.1, LM L1, h, r2 x L1, eq_self, Nat.le_refl, Nat.lt_irrefl, some_if, Option.bind_some, Option.bind_none, Option.some.injEq, ↓reduceIte, reduceCtorEq, Bool.false_eq_true, Bool.true_eq_false, not_true_eq_false, not_false_eq_true, cmb0, cmb1, Nat.reduceAdd, Nat.reduceMul, Nat.reduceSub, Nat.add_zero, Bool.not_eq_true, Bool.not_eq_false, Nat.reduceEqDiff, Nat.reduceLeDiff, Nat.reduceLT, Int32.reduceLT, Int32.reduceLE, iin_nI, iin_lit, iin_m1, tn_nI, tn_lit, nI_lm, nI_ml, nI_al, nI_la, nI_add, pk_mul, nI_le_l, nI_l_le, nI_lt_l, nI_l_lt, nI_eq_l, nI_l_eq, nI_eqP, nI_leP, nI_ltP, nI_m1, m1_nI, nI_ll, m1_l, l_m1]
  by_cases hpq : p = q
  · subst hpq
    refine ok_ref (r := -1) g 0 (by omega) ?_ (fun x L1 M1 _ => ?_)
    · simp (disch := omega) only [fn_170, ↓LCb L, ↓LStb L, ↓LVb L hv, ↓hasBb L V I.2.1, ↓hasTb L hv C.2.1 I.1, ↓hasPb L hv C.2.1 I.1, ↓c146b L V I.2.1, LC L, LSt L, LV L hv, r1, eq_self, Nat.le_refl, Nat.lt_irrefl, some_if, Option.bind_some, Option.bind_none, Option.some.injEq, ↓reduceIte, reduceCtorEq, Bool.false_eq_true, Bool.true_eq_false, not_true_eq_false, not_false_eq_true, cmb0, cmb1, Nat.reduceAdd, Nat.reduceMul, Nat.reduceSub, Nat.add_zero, Bool.not_eq_true, Bool.not_eq_false, Nat.reduceEqDiff, Nat.reduceLeDiff, Nat.reduceLT, Int32.reduceLT, Int32.reduceLE, iin_nI, iin_lit, iin_m1, tn_nI, tn_lit, nI_lm, nI_ml, nI_al, nI_la, nI_add, pk_mul, nI_le_l, nI_l_le, nI_lt_l, nI_l_lt, nI_eq_l, nI_l_eq, nI_eqP, nI_leP, nI_ltP, nI_m1, m1_nI, nI_ll, m1_l, l_m1]
    · simp (disch := omega) only [fn_265, ↓LMb L1, ↓mBoxb L1 M1 I.2.1, ↓mWhob L1 M1 I.1, ↓mThingb L1 M1 I.1, ↓mAheadb L1 M1 I.2.1, LM L1, r2 x L1, eq_self, Nat.le_refl, Nat.lt_irrefl, some_if, Option.bind_some, Option.bind_none, Option.some.injEq, ↓reduceIte, reduceCtorEq, Bool.false_eq_true, Bool.true_eq_false, not_true_eq_false, not_false_eq_true, cmb0, cmb1, Nat.reduceAdd, Nat.reduceMul, Nat.reduceSub, Nat.add_zero, Bool.not_eq_true, Bool.not_eq_false, Nat.reduceEqDiff, Nat.reduceLeDiff, Nat.reduceLT, Int32.reduceLT, Int32.reduceLE, iin_nI, iin_lit, iin_m1, tn_nI, tn_lit, nI_lm, nI_ml, nI_al, nI_la, nI_add, pk_mul, nI_le_l, nI_l_le, nI_lt_l, nI_l_lt, nI_eq_l, nI_l_eq, nI_eqP, nI_leP, nI_ltP, nI_m1, m1_nI, nI_ll, m1_l, l_m1]
  rcases iin_cs l (n := 10000) (by omega) with h | ⟨a, ha, rfl⟩
  · refine ok_ref (r := -1) g 0 (by omega) ?_ (fun x L1 M1 _ => ?_)
    · rcases iin_f h (by omega) with z | z
      · simp (disch := omega) only [fn_170, ↓LCb L, ↓LStb L, ↓LVb L hv, ↓hasBb L V I.2.1, ↓hasTb L hv C.2.1 I.1, ↓hasPb L hv C.2.1 I.1, ↓c146b L V I.2.1, LC L, LSt L, LV L hv, hpq, z, r1, eq_self, Nat.le_refl, Nat.lt_irrefl, some_if, Option.bind_some, Option.bind_none, Option.some.injEq, ↓reduceIte, reduceCtorEq, Bool.false_eq_true, Bool.true_eq_false, not_true_eq_false, not_false_eq_true, cmb0, cmb1, Nat.reduceAdd, Nat.reduceMul, Nat.reduceSub, Nat.add_zero, Bool.not_eq_true, Bool.not_eq_false, Nat.reduceEqDiff, Nat.reduceLeDiff, Nat.reduceLT, Int32.reduceLT, Int32.reduceLE, iin_nI, iin_lit, iin_m1, tn_nI, tn_lit, nI_lm, nI_ml, nI_al, nI_la, nI_add, pk_mul, nI_le_l, nI_l_le, nI_lt_l, nI_l_lt, nI_eq_l, nI_l_eq, nI_eqP, nI_leP, nI_ltP, nI_m1, m1_nI, nI_ll, m1_l, l_m1]
      · have z2 : 9999 < l := Int32.lt_of_lt_of_le (show (9999 : Int32) < nI 10000 by decide) z
        by_cases z3 : l < 0 <;> simp (disch := omega) only [fn_170, ↓LCb L, ↓LStb L, ↓LVb L hv, ↓hasBb L V I.2.1, ↓hasTb L hv C.2.1 I.1, ↓hasPb L hv C.2.1 I.1, ↓c146b L V I.2.1, LC L, LSt L, LV L hv, hpq, z2, z3, r1, eq_self, Nat.le_refl, Nat.lt_irrefl, some_if, Option.bind_some, Option.bind_none, Option.some.injEq, ↓reduceIte, reduceCtorEq, Bool.false_eq_true, Bool.true_eq_false, not_true_eq_false, not_false_eq_true, cmb0, cmb1, Nat.reduceAdd, Nat.reduceMul, Nat.reduceSub, Nat.add_zero, Bool.not_eq_true, Bool.not_eq_false, Nat.reduceEqDiff, Nat.reduceLeDiff, Nat.reduceLT, Int32.reduceLT, Int32.reduceLE, iin_nI, iin_lit, iin_m1, tn_nI, tn_lit, nI_lm, nI_ml, nI_al, nI_la, nI_add, pk_mul, nI_le_l, nI_l_le, nI_lt_l, nI_l_lt, nI_eq_l, nI_l_eq, nI_eqP, nI_leP, nI_ltP, nI_m1, m1_nI, nI_ll, m1_l, l_m1]
    · simp (disch := omega) only [fn_265, ↓LMb L1, ↓mBoxb L1 M1 I.2.1, ↓mWhob L1 M1 I.1, ↓mThingb L1 M1 I.1, ↓mAheadb L1 M1 I.2.1, LM L1, hpq, d1, h, r2 x L1, eq_self, Nat.le_refl, Nat.lt_irrefl, some_if, Option.bind_some, Option.bind_none, Option.some.injEq, ↓reduceIte, reduceCtorEq, Bool.false_eq_true, Bool.true_eq_false, not_true_eq_false, not_false_eq_true, cmb0, cmb1, Nat.reduceAdd, Nat.reduceMul, Nat.reduceSub, Nat.add_zero, Bool.not_eq_true, Bool.not_eq_false, Nat.reduceEqDiff, Nat.reduceLeDiff, Nat.reduceLT, Int32.reduceLT, Int32.reduceLE, iin_nI, iin_lit, iin_m1, tn_nI, tn_lit, nI_lm, nI_ml, nI_al, nI_la, nI_add, pk_mul, nI_le_l, nI_l_le, nI_lt_l, nI_l_lt, nI_eq_l, nI_l_eq, nI_eqP, nI_leP, nI_ltP, nI_m1, m1_nI, nI_ll, m1_l, l_m1]
  have z1 : ¬ nI a < 0 := nI_pos (by omega)
  have z2 : ¬ 9999 < nI a := nI_nlt (a := 9999) (b := a) (by omega) (by omega)
  have hc : fn_170 2 (nI b) (nI p) (nI q) (nI a) w = fn_170_78 2 (nI b) (nI p) (nI q) (nI a) w := by
    simp (disch := omega) only [fn_170, ↓LCb L, ↓LStb L, ↓LVb L hv, ↓hasBb L V I.2.1, ↓hasTb L hv C.2.1 I.1, ↓hasPb L hv C.2.1 I.1, ↓c146b L V I.2.1, LC L, LSt L, LV L hv, hpq, z1, z2, eq_self, Nat.le_refl, Nat.lt_irrefl, some_if, Option.bind_some, Option.bind_none, Option.some.injEq, ↓reduceIte, reduceCtorEq, Bool.false_eq_true, Bool.true_eq_false, not_true_eq_false, not_false_eq_true, cmb0, cmb1, Nat.reduceAdd, Nat.reduceMul, Nat.reduceSub, Nat.add_zero, Bool.not_eq_true, Bool.not_eq_false, Nat.reduceEqDiff, Nat.reduceLeDiff, Nat.reduceLT, Int32.reduceLT, Int32.reduceLE, iin_nI, iin_lit, iin_m1, tn_nI, tn_lit, nI_lm, nI_ml, nI_al, nI_la, nI_add, pk_mul, nI_le_l, nI_l_le, nI_lt_l, nI_l_lt, nI_eq_l, nI_l_eq, nI_eqP, nI_leP, nI_ltP, nI_m1, m1_nI, nI_ll, m1_l, l_m1]
  have ful := fulK L V I.2.1
  by_cases h3 : nK s = 40
  · refine ok_ref (r := -1) g 1 (by omega) ?_ (fun x L1 M1 _ => ?_)
    · rw [hc]
      simp (disch := omega) only [fn_170_78, ↓LCb L, ↓LStb L, LC L, LSt L, ful, h3, c140 L, decide_true, eq_self, Nat.le_refl, Nat.lt_irrefl, some_if, Option.bind_some, Option.bind_none, Option.some.injEq, ↓reduceIte, reduceCtorEq, Bool.false_eq_true, Bool.true_eq_false, not_true_eq_false, not_false_eq_true, cmb0, cmb1, Nat.reduceAdd, Nat.reduceMul, Nat.reduceSub, Nat.add_zero, Bool.not_eq_true, Bool.not_eq_false, Nat.reduceEqDiff, Nat.reduceLeDiff, Nat.reduceLT, Int32.reduceLT, Int32.reduceLE, iin_nI, iin_lit, iin_m1, tn_nI, tn_lit, nI_lm, nI_ml, nI_al, nI_la, nI_add, pk_mul, nI_le_l, nI_l_le, nI_lt_l, nI_l_lt, nI_eq_l, nI_l_eq, nI_eqP, nI_leP, nI_ltP, nI_m1, m1_nI, nI_ll, m1_l, l_m1]
    · simp (disch := omega) only [fn_265, fn_265_48, ↓LMb L1, ↓mBoxb L1 M1 I.2.1, ↓mWhob L1 M1 I.1, ↓mThingb L1 M1 I.1, ↓mAheadb L1 M1 I.2.1, LM L1, RM M1, hK.1, hpq, d1, h3, m199 L1, eq_self, Nat.le_refl, Nat.lt_irrefl, some_if, Option.bind_some, Option.bind_none, Option.some.injEq, ↓reduceIte, reduceCtorEq, Bool.false_eq_true, Bool.true_eq_false, not_true_eq_false, not_false_eq_true, cmb0, cmb1, Nat.reduceAdd, Nat.reduceMul, Nat.reduceSub, Nat.add_zero, Bool.not_eq_true, Bool.not_eq_false, Nat.reduceEqDiff, Nat.reduceLeDiff, Nat.reduceLT, Int32.reduceLT, Int32.reduceLE, iin_nI, iin_lit, iin_m1, tn_nI, tn_lit, nI_lm, nI_ml, nI_al, nI_la, nI_add, pk_mul, nI_le_l, nI_l_le, nI_lt_l, nI_l_lt, nI_eq_l, nI_l_eq, nI_eqP, nI_leP, nI_ltP, nI_m1, m1_nI, nI_ll, m1_l, l_m1]
  have h4 : nK s < 40 := by omega
  have hch : chK s (cm_up (cm_up (cm_up (cm_up (cm_up s 130 (nK s) (nI b)) 131 (nK s) (nI p)) 132 (nK s) (nI q)) 133 (nK s) (nI a)) 96 58 (nI (nK s + 1))) (nI b) (nI p) (nI q) (nI a) := by
    refine ⟨fun a' j h1 h2 => ?_, u_eq, ?_, ?_, ?_, ?_⟩
    · rw [u_if, if_neg h1, u_if, if_neg (by omega), u_if, if_neg (by omega), u_if, if_neg (by omega), u_if, if_neg (by omega)]
    · simp (disch := omega) only [u_ne, u_eq]
    · simp (disch := omega) only [u_ne, u_eq]
    · simp (disch := omega) only [u_ne, u_eq]
    · simp (disch := omega) only [u_ne, u_eq]
  refine ok_ex (r := nI (nK s + 1)) g ⟨_, ?_, ?_, StC_addK V h4 hch, fun a' ha' j => ?_, rfl⟩ (fun x L1 M1 => ?_) (fun a' j h => ?_) (InvS_addK I.2.1 h4 hch ⟨b, hb, rfl⟩ ⟨p, hp, rfl⟩ ⟨q, hq, rfl⟩ ⟨a, ha, rfl⟩)
  · rw [hc]
    simp (disch := omega) only [fn_170_78, fn_170_97, ↓LCb L, ↓LStb L, LC L, LSt L, ful, h3, c107 L V I.2.1 h4, decide_false, eq_self, Nat.le_refl, Nat.lt_irrefl, some_if, Option.bind_some, Option.bind_none, Option.some.injEq, ↓reduceIte, reduceCtorEq, Bool.false_eq_true, Bool.true_eq_false, not_true_eq_false, not_false_eq_true, cmb0, cmb1, Nat.reduceAdd, Nat.reduceMul, Nat.reduceSub, Nat.add_zero, Bool.not_eq_true, Bool.not_eq_false, Nat.reduceEqDiff, Nat.reduceLeDiff, Nat.reduceLT, Int32.reduceLT, Int32.reduceLE, iin_nI, iin_lit, iin_m1, tn_nI, tn_lit, nI_lm, nI_ml, nI_al, nI_la, nI_add, pk_mul, nI_le_l, nI_l_le, nI_lt_l, nI_l_lt, nI_eq_l, nI_l_eq, nI_eqP, nI_leP, nI_ltP, nI_m1, m1_nI, nI_ll, m1_l, l_m1]
  · exact L
  · simp (disch := omega) only [I_ne]
  · have e58 : cm_I x 96 58 = nI (nK s) := ((RM M1).1.2.2.2.2.2.2.2.2.2.2.2.2.2.1).trans hK.1
    refine ⟨_, ?_, ?_, ((((M1.up).up).up).up).up, fun a' ha' j => ?_, rfl⟩
    · simp (disch := omega) only [fn_265, fn_265_48, fn_265_64, ↓LMb L1, ↓mBoxb L1 M1 I.2.1, ↓mWhob L1 M1 I.1, ↓mThingb L1 M1 I.1, ↓mAheadb L1 M1 I.2.1, LM L1, I_ne, I_eq, sh_sI, R_sI, ga_sI, e58, hpq, d1, h3, RM M1, cm_w2, Nat.reduceLeDiff, Nat.reduceLT, decide_true, Bool.and_self, Bool.and_true, eq_self, Nat.le_refl, Nat.lt_irrefl, some_if, Option.bind_some, Option.bind_none, Option.some.injEq, ↓reduceIte, reduceCtorEq, Bool.false_eq_true, Bool.true_eq_false, not_true_eq_false, not_false_eq_true, cmb0, cmb1, Nat.reduceAdd, Nat.reduceMul, Nat.reduceSub, Nat.add_zero, Bool.not_eq_true, Bool.not_eq_false, Nat.reduceEqDiff, Nat.reduceLeDiff, Nat.reduceLT, Int32.reduceLT, Int32.reduceLE, iin_nI, iin_lit, iin_m1, tn_nI, tn_lit, nI_lm, nI_ml, nI_al, nI_la, nI_add, pk_mul, nI_le_l, nI_l_le, nI_lt_l, nI_l_lt, nI_eq_l, nI_l_eq, nI_eqP, nI_leP, nI_ltP, nI_m1, m1_nI, nI_ll, m1_l, l_m1]
    · exact L1
    · simp (disch := omega) only [I_ne]
  · refine hch.1 a' j (fun e => ?_) (fun e => ?_)
    · rw [e.1, e.2] at h; cases h
    · rcases (show a' = 130 ∨ a' = 131 ∨ a' = 132 ∨ a' = 133 by omega) with rfl | rfl | rfl | rfl <;> cases h
end LOAN
