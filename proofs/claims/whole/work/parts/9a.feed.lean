/-! the tape: feed; what else changes outside villages and states -/
def bsh (k : Nat) : Int32 := match k with
  | 0 => 24
  | 1 => 16
  | 2 => 8
  | 3 => 0
  | _ => -8
/-- a byte of a number -/
def fby (i : Int32) (k : Nat) : Int32 := vp_nar .byte ((Int32.toInt8 (i >>> ((bsh k) &&& 31))).toInt32)
section FEED
variable {v c c' u n m p q d A : Nat} {w w' w'' x y : cm_W} {s s' : St}
theorem G_oth (g : GG v c w s) (Ly : Lay v c' y) (RM' : RelM y s') (hs : ∀ a k, (a = 112 ∨ a = 97 ∨ a = 96 ∧ (k = 9 ∨ k = 12)) ∨ s' a k = s a k)
    (h1 : cm_I y 2 1 = s' 96 9 ∧ cm_I y 2 4 = s' 96 12 ∧ cm_I y 2 7 = cm_I w 2 7 ∧ (∀ k, k < 3 → cm_I y 42 k = s' 97 k) ∧ ∀ k, k < nA s' → cm_I y 3 k = s' 112 k)
    (hv' : ∀ a, v ≤ a → a < v + 10 → ∀ j, cm_I y a j = cm_I w a j) (h30 : ∀ a, 30 ≤ a → a < 41 → ∀ j, cm_I y a j = cm_I w a j) (h63 : ∀ a, 63 ≤ a → a < 96 → ∀ j, cm_I y a j = cm_I w a j)
    (hd : cm_I y (30 - v + 2) 0 = 4 ∧ cm_I y (30 - v + 5) 0 = 3 ∧ cm_I y (30 - v + 8) 0 = 3)
    (hz : cm_L y 30 7 = cm_L w 30 7 ∧ cm_L y 96 71 = cm_L w 96 71 ∧ (∀ i, i < 3 → cm_L y (63 + 11 * i) 7 = cm_L w (63 + 11 * i) 7) ∧ ∀ i, cm_L y 142 i = cm_L w 142 i)
    (hA : s' 96 9 = nI (nA s') ∧ nA s' ≤ 900) : GG v c' y s' := by
  obtain ⟨L, M, C, Z, I⟩ := g
  have hv := L.1
  have ne : ∀ a k, a ≠ 112 → a ≠ 97 → (a ≠ 96 ∨ k ≠ 9 ∧ k ≠ 12) → s' a k = s a k := fun a k h1 h2 h3 => (hs a k).resolve_left (by omega)
  have sas : ∀ a k, sa a k = true → s' a k = s a k := fun a k h => by
    refine ne a k (fun e => ?_) (fun e => ?_) ?_
    · rw [e] at h; cases h
    · rw [e] at h; cases h
    · by_cases e : a = 96
      · refine Or.inr ⟨fun e2 => ?_, fun e2 => ?_⟩
        · rw [e, e2] at h; cases h
        · rw [e, e2] at h; cases h
      · exact Or.inl e
  have nG' : nG s' = nG s := by unfold nG; rw [ne 96 73 (by omega) (by omega) (by omega)]
  have nP' : nP s' = nP s := by unfold nP; rw [ne 96 2 (by omega) (by omega) (by omega)]
  have nT' : nT s' = nT s := by unfold nT; rw [ne 96 1 (by omega) (by omega) (by omega)]
  have im1 : ∀ j a k, sa a k = true → ims s' j a k = ims s j a k := fun j a k h => by
    unfold ims
    unfold sa at h
    by_cases e : a = 96
    · rw [if_pos e] at h
      rw [if_pos e, if_pos e]
      cases e2 : imf k with
      | some o => exact ne 140 _ (by omega) (by omega) (by omega)
      | none => rw [e2] at h; cases h
    · rw [if_neg e] at h
      rw [if_neg e, if_neg e]
      cases e2 : imo a with
      | some o => exact ne 140 _ (by omega) (by omega) (by omega)
      | none => rw [e2] at h; cases h
  have imP : ∀ j, nP (ims s' j) = nP (ims s j) := fun j => by rw [nP_ims, nP_ims, nP']
  have imT : ∀ j, nT (ims s' j) = nT (ims s j) := fun j => by rw [nT_ims, nT_ims, nT']
  obtain ⟨C1, C2, C3, C4, C5, C6⟩ := C
  refine ⟨Ly, RM', ⟨⟨h1.1, h1.2.1, ?_, h1.2.2.2.1, h1.2.2.2.2⟩, ?_, ?_, fun i hi => ?_, fun i hi hi3 => ?_, hd⟩, ⟨?_, fun i hi => ?_⟩, ?_, ?_, hA, ?_, fun i hi => ?_⟩
  · rw [h1.2.2.1, ne 96 73 (by omega) (by omega) (by omega)]; exact C1.2.2.1
  · exact C2.cg2 hv hv' (fun k hk => ne 96 k (by omega) (by omega) (by omega)) (fun a h1 h2 h3 k => (hs a k).resolve_left (by omega))
  · exact C3.cg (fun a h1 h2 j => h30 a h1 (by omega) j) sas (ne 96 2 (by omega) (by omega) (by omega))
  · rw [h63 _ (by omega) (by omega), h63 _ (by omega) (by omega), h63 _ (by omega) (by omega), h63 _ (by omega) (by omega)]
    exact C4 i hi
  · rw [nG'] at hi
    exact (C5 i hi hi3).cg (fun a h1 h2 j => h63 a (by omega) (by omega) j) (im1 i) (by rw [ims_n (a := 96) (k := 2) rfl, ims_n (a := 96) (k := 2) rfl]; exact ne 96 2 (by omega) (by omega) (by omega))
  · rw [hz.1, hz.2.1]; exact Z.1
  · rw [nG'] at hi
    have := I.2.2.2.1.2
    rw [hz.2.2.1 i (by omega), hz.2.2.2 i]; exact Z.2 i hi
  · exact I.1.cg2 (fun k hk => ne 96 k (by omega) (by omega) (by omega)) (fun a h1 h2 h3 k => (hs a k).resolve_left (by omega))
  · exact I.2.1.cg (fun a k _ _ _ h => sas a k h) nP' nT'
  · rw [nG', ne 96 73 (by omega) (by omega) (by omega)]; exact I.2.2.2.1
  · rw [nG'] at hi
    exact (I.2.2.2.2 i hi).cg (fun a k _ _ _ h => im1 i a k h) (imP i) (imT i)
theorem fby_u (i : Int32) {k : Nat} (hk : k < 4) : vp_nar .byte ((Int32.toInt8 ((i.toUInt32 >>> ((bsh k).toUInt32 &&& Int32.toUInt32 31)).toInt32)).toInt32) = fby i k := by
  have e : ∀ (x : BitVec 32) (j : Nat), j ≤ 24 → (x >>> j).signExtend 8 = (x.sshiftRight j).signExtend 8 := fun x j hj => by
    apply BitVec.eq_of_getLsbD_eq
    intro t ht
    rw [BitVec.getLsbD_signExtend, BitVec.getLsbD_signExtend, if_pos (show t < 32 by omega), if_pos (show t < 32 by omega), BitVec.getLsbD_ushiftRight, BitVec.getLsbD_sshiftRight]
    rw [if_pos (show j + t < 32 by omega)]
    have : decide (32 ≤ t) = false := decide_eq_false (by omega)
    simp [this]
  unfold fby
  refine congrArg (fun z : Int8 => vp_nar .byte z.toInt32) ?_
  refine Int8.toBitVec_inj.mp ?_
  show ((i.toUInt32 >>> ((bsh k).toUInt32 &&& Int32.toUInt32 31)).toBitVec).signExtend 8 = ((i >>> ((bsh k) &&& 31)).toBitVec).signExtend 8
  rw [UInt32.toBitVec_shiftRight, Int32.toBitVec_shiftRight]
  have h1 : ∀ k : Fin 4, ((((bsh k.1).toUInt32 &&& Int32.toUInt32 31)).toBitVec % 32).toNat = 24 - 8 * k.1 := by decide +kernel
  have h2 : ∀ k : Fin 4, ((bsh k.1 &&& 31).toBitVec.smod 32).toNat = 24 - 8 * k.1 := by decide +kernel
  show (i.toBitVec >>> (((bsh k).toUInt32 &&& Int32.toUInt32 31).toBitVec % 32).toNat).signExtend 8 = (i.toBitVec.sshiftRight ((bsh k &&& 31).toBitVec.smod 32).toNat).signExtend 8
  rw [h1 ⟨k, hk⟩, h2 ⟨k, hk⟩]
  exact e _ _ (by omega)
/-- four bytes onto the class's tape -/
theorem c138 (L : Lay v c w) (i : Int32) (hA : A + 4 ≤ 900) (e1 : cm_I w 2 1 = nI A) : ∃ y, fn_138 2 i w = some y ∧ Lay v c y ∧ cm_L y = cm_L w ∧ cm_I y 2 1 = nI (A + 4) ∧ (∀ k, k < 4 → cm_I y 3 (A + k) = fby i k) ∧ (∀ j, j < A → cm_I y 3 j = cm_I w 3 j) ∧ ∀ a j, a ≠ 3 → (a ≠ 2 ∨ j ≠ 1) → cm_I y a j = cm_I w a j := by
  refine up_0 (fun N k y => fn_138_3 N 2 i (bsh k) y) 4 (fun k y => Lay v c y ∧ cm_L y = cm_L w ∧ cm_I y 2 1 = nI (A + k) ∧ (∀ t, t < k → cm_I y 3 (A + t) = fby i t) ∧ (∀ j, j < A → cm_I y 3 j = cm_I w 3 j) ∧ ∀ a j, a ≠ 3 → (a ≠ 2 ∨ j ≠ 1) → cm_I y a j = cm_I w a j) (fun o => ∃ y, o = some y ∧ Lay v c y ∧ cm_L y = cm_L w ∧ cm_I y 2 1 = nI (A + 4) ∧ (∀ k, k < 4 → cm_I y 3 (A + k) = fby i k) ∧ (∀ j, j < A → cm_I y 3 j = cm_I w 3 j) ∧ ∀ a j, a ≠ 3 → (a ≠ 2 ∨ j ≠ 1) → cm_I y a j = cm_I w a j) w (by omega) ⟨L, rfl, e1, fun t h => by omega, fun _ _ => rfl, fun _ _ _ _ => rfl⟩ (fun N k y hk hy => Or.inr ?_) (fun N y hy => ?_)
  · obtain ⟨LL, z, q1, q2, q3, q4⟩ := hy
    have b1 : ∀ k : Fin 4, ¬ bsh k.1 < 0 ∧ bsh k.1 + (-8) = bsh (k.1 + 1) := by decide +kernel
    obtain ⟨b1, b2⟩ := b1 ⟨k, hk⟩
    have b1 : ¬ bsh k < 0 := b1
    have b2 : bsh k + (-8) = bsh (k + 1) := b2
    have fb := fby_u i hk
    have nk : ¬ 900 ≤ A + k := by omega
    refine ⟨cm_sI (cm_sI y 3 (A + k) (fby i k)) 2 1 (nI (A + k + 1)), ⟨LL, z, I_eq, fun t ht => ?_, fun j hj => ?_, fun a j h1 h2 => ?_⟩, ?_⟩
    · rw [I_ne (by omega)]
      by_cases e : t = k
      · subst e; rw [I_eq]
      · rw [I_nk (by omega)]; exact q2 t (by omega)
    · rw [I_ne (by omega), I_nk (by omega)]; exact q3 j hj
    · rw [I_if, if_neg (by omega), I_ne h1]; exact q4 a j h1 h2
    · show fn_138_3 (N + 1) 2 i (bsh k) y = fn_138_3 N 2 i (bsh (k + 1)) _
      rw [fn_138_3, fb, b2, if_neg b1]
      generalize bsh (k + 1) = B
      simp (disch := omega) only [↓LCb LL, LC LL, q1, nk, I_ne, cm_w2, Nat.reduceLeDiff, Nat.reduceLT, decide_true, Bool.and_self, Bool.and_true, eq_self, Nat.le_refl, Nat.lt_irrefl, some_if, Option.bind_some, Option.bind_none, Option.some.injEq, ↓reduceIte, reduceCtorEq, Bool.false_eq_true, Bool.true_eq_false, not_true_eq_false, not_false_eq_true, cmb0, cmb1, Nat.reduceAdd, Nat.reduceMul, Nat.reduceSub, Nat.add_zero, Bool.not_eq_true, Bool.not_eq_false, Nat.reduceEqDiff, Nat.reduceLeDiff, Nat.reduceLT, Int32.reduceLT, Int32.reduceLE, iin_nI, iin_lit, iin_m1, tn_nI, tn_lit, nI_lm, nI_ml, nI_al, nI_la, nI_add, pk_mul, nI_le_l, nI_l_le, nI_lt_l, nI_l_lt, nI_eq_l, nI_l_eq, nI_eqP, nI_leP, nI_ltP, nI_m1, m1_nI, nI_ll, m1_l, l_m1]
  · obtain ⟨LL, z, q⟩ := hy
    refine ⟨y, ?_, LL, z, q⟩
    show fn_138_3 (N + 1) 2 i (-8) y = some y
    rw [fn_138_3, if_pos (by decide)]
/-- four bytes onto the reference's -/
theorem m200 (L : Lay v c w) (i : Int32) (hA : A + 4 ≤ 900) (e1 : cm_I w 96 9 = nI A) : ∃ y, fn_200 96 i w = some y ∧ Lay v c y ∧ cm_L y = cm_L w ∧ cm_I y 96 9 = nI (A + 4) ∧ (∀ k, k < 4 → cm_I y 112 (A + k) = fby i k) ∧ (∀ j, j < A → cm_I y 112 j = cm_I w 112 j) ∧ ∀ a j, a ≠ 112 → (a ≠ 96 ∨ j ≠ 9) → cm_I y a j = cm_I w a j := by
  refine up_0 (fun N k y => fn_200_3 N 96 i (bsh k) y) 4 (fun k y => Lay v c y ∧ cm_L y = cm_L w ∧ cm_I y 96 9 = nI (A + k) ∧ (∀ t, t < k → cm_I y 112 (A + t) = fby i t) ∧ (∀ j, j < A → cm_I y 112 j = cm_I w 112 j) ∧ ∀ a j, a ≠ 112 → (a ≠ 96 ∨ j ≠ 9) → cm_I y a j = cm_I w a j) (fun o => ∃ y, o = some y ∧ Lay v c y ∧ cm_L y = cm_L w ∧ cm_I y 96 9 = nI (A + 4) ∧ (∀ k, k < 4 → cm_I y 112 (A + k) = fby i k) ∧ (∀ j, j < A → cm_I y 112 j = cm_I w 112 j) ∧ ∀ a j, a ≠ 112 → (a ≠ 96 ∨ j ≠ 9) → cm_I y a j = cm_I w a j) w (by omega) ⟨L, rfl, e1, fun t h => by omega, fun _ _ => rfl, fun _ _ _ _ => rfl⟩ (fun N k y hk hy => Or.inr ?_) (fun N y hy => ?_)
  · obtain ⟨LL, z, q1, q2, q3, q4⟩ := hy
    have b1 : ∀ k : Fin 4, ¬ bsh k.1 < 0 ∧ bsh k.1 + (-8) = bsh (k.1 + 1) := by decide +kernel
    obtain ⟨b1, b2⟩ := b1 ⟨k, hk⟩
    have b1 : ¬ bsh k < 0 := b1
    have b2 : bsh k + (-8) = bsh (k + 1) := b2
    have fb : vp_nar .byte ((Int32.toInt8 (i >>> ((bsh k) &&& 31))).toInt32) = fby i k := rfl
    refine ⟨cm_sI (cm_sI y 112 (A + k) (fby i k)) 96 9 (nI (A + k + 1)), ⟨LL, z, I_eq, fun t ht => ?_, fun j hj => ?_, fun a j h1 h2 => ?_⟩, ?_⟩
    · rw [I_ne (by omega)]
      by_cases e : t = k
      · subst e; rw [I_eq]
      · rw [I_nk (by omega)]; exact q2 t (by omega)
    · rw [I_ne (by omega), I_nk (by omega)]; exact q3 j hj
    · rw [I_if, if_neg (by omega), I_ne h1]; exact q4 a j h1 h2
    · show fn_200_3 (N + 1) 96 i (bsh k) y = fn_200_3 N 96 i (bsh (k + 1)) _
      rw [fn_200_3, fb, b2, if_neg b1]
      generalize bsh (k + 1) = B
      simp (disch := omega) only [↓LMb LL, LM LL, q1, I_ne, cm_w2, Nat.reduceLeDiff, Nat.reduceLT, decide_true, Bool.and_self, Bool.and_true, eq_self, Nat.le_refl, Nat.lt_irrefl, some_if, Option.bind_some, Option.bind_none, Option.some.injEq, ↓reduceIte, reduceCtorEq, Bool.false_eq_true, Bool.true_eq_false, not_true_eq_false, not_false_eq_true, cmb0, cmb1, Nat.reduceAdd, Nat.reduceMul, Nat.reduceSub, Nat.add_zero, Bool.not_eq_true, Bool.not_eq_false, Nat.reduceEqDiff, Nat.reduceLeDiff, Nat.reduceLT, Int32.reduceLT, Int32.reduceLE, iin_nI, iin_lit, iin_m1, tn_nI, tn_lit, nI_lm, nI_ml, nI_al, nI_la, nI_add, pk_mul, nI_le_l, nI_l_le, nI_lt_l, nI_l_lt, nI_eq_l, nI_l_eq, nI_eqP, nI_leP, nI_ltP, nI_m1, m1_nI, nI_ll, m1_l, l_m1]
  · obtain ⟨LL, z, q⟩ := hy
    refine ⟨y, ?_, LL, z, q⟩
    show fn_200_3 (N + 1) 96 i (-8) y = some y
    rw [fn_200_3, if_pos (by decide)]
/-- of five numbers -/
def fb5 (i1 i2 i3 i4 i5 : Int32) (k : Nat) : Int32 := if k < 4 then fby i1 k else if k < 8 then fby i2 (k - 4) else if k < 12 then fby i3 (k - 8) else if k < 16 then fby i4 (k - 12) else fby i5 (k - 16)
theorem w_feed (g : GG v c w s) (i1 i2 i3 i4 i5 : Int32) : OKW (fn_139 2 i1 i2 i3 i4 i5) (fn_201 96 i1 i2 i3 i4 i5) w := by
  obtain ⟨L, M, C, Z, I⟩ := id g
  have hv := L.1
  have hA := I.2.2.1
  have e1 : cm_I w 2 1 = nI (nA s) := C.1.1.trans hA.1
  by_cases h : nA s + 20 ≤ 900
  rotate_left
  · refine ok_bad g ?_ (fun x L1 M1 => ?_)
    · simp (disch := omega) only [fn_139, LC L, e1, h, eq_self, Nat.le_refl, Nat.lt_irrefl, some_if, Option.bind_some, Option.bind_none, Option.some.injEq, ↓reduceIte, reduceCtorEq, Bool.false_eq_true, Bool.true_eq_false, not_true_eq_false, not_false_eq_true, cmb0, cmb1, Nat.reduceAdd, Nat.reduceMul, Nat.reduceSub, Nat.add_zero, Bool.not_eq_true, Bool.not_eq_false, Nat.reduceEqDiff, Nat.reduceLeDiff, Nat.reduceLT, Int32.reduceLT, Int32.reduceLE, iin_nI, iin_lit, iin_m1, tn_nI, tn_lit, nI_lm, nI_ml, nI_al, nI_la, nI_add, pk_mul, nI_le_l, nI_l_le, nI_lt_l, nI_l_lt, nI_eq_l, nI_l_eq, nI_eqP, nI_leP, nI_ltP, nI_m1, m1_nI, nI_ll, m1_l, l_m1]
    · simp (disch := omega) only [fn_201, LM L1, RM M1, hA.1, h, eq_self, Nat.le_refl, Nat.lt_irrefl, some_if, Option.bind_some, Option.bind_none, Option.some.injEq, ↓reduceIte, reduceCtorEq, Bool.false_eq_true, Bool.true_eq_false, not_true_eq_false, not_false_eq_true, cmb0, cmb1, Nat.reduceAdd, Nat.reduceMul, Nat.reduceSub, Nat.add_zero, Bool.not_eq_true, Bool.not_eq_false, Nat.reduceEqDiff, Nat.reduceLeDiff, Nat.reduceLT, Int32.reduceLT, Int32.reduceLE, iin_nI, iin_lit, iin_m1, tn_nI, tn_lit, nI_lm, nI_ml, nI_al, nI_la, nI_add, pk_mul, nI_le_l, nI_l_le, nI_lt_l, nI_l_lt, nI_eq_l, nI_l_eq, nI_eqP, nI_leP, nI_ltP, nI_m1, m1_nI, nI_ll, m1_l, l_m1]
  generalize eA : nA s = A at *
  obtain ⟨x1, a1, L1, z1, p1, t1, u1, f1⟩ := c138 L i1 (A := A) (by omega) e1
  obtain ⟨x2, a2, L2, z2, p2, t2, u2, f2⟩ := c138 L1 i2 (by omega) p1
  obtain ⟨x3, a3, L3, z3, p3, t3, u3, f3⟩ := c138 L2 i3 (by omega) p2
  obtain ⟨x4, a4, L4, z4, p4, t4, u4, f4⟩ := c138 L3 i4 (by omega) p3
  obtain ⟨x, a5, L5, z5, p5, t5, u5, f5⟩ := c138 L4 i5 (by omega) p4
  have cc : fn_139 2 i1 i2 i3 i4 i5 w = some (nI (A + 20), x) := by
    have le : nI A + 20 ≤ (900 : Int32) := by
      rw [show nI A + 20 = nI (A + 20) from nI_add A 20]
      exact nI_le (b := 900) h (by decide)
    rw [fn_139, if_pos (LC L).1, e1, if_pos le, fn_139_15, if_pos (LC L).1, bd a1, if_pos (LC L1).1, bd a2, if_pos (LC L2).1, bd a3, if_pos (LC L3).1, bd a4, if_pos (LC L4).1, bd a5, if_pos (LC L5).1, p5]
  have fx : ∀ a j, a ≠ 3 → (a ≠ 2 ∨ j ≠ 1) → cm_I x a j = cm_I w a j := fun a j h1 h2 => by
    rw [f5 a j h1 h2, f4 a j h1 h2, f3 a j h1 h2, f2 a j h1 h2, f1 a j h1 h2]
  have zx : cm_L x = cm_L w := by rw [z5, z4, z3, z2, z1]
  have ux : ∀ j, j < A → cm_I x 3 j = cm_I w 3 j := fun j hj => by
    rw [u5 j (by omega), u4 j (by omega), u3 j (by omega), u2 j (by omega), u1 j hj]
  have tx : ∀ k, k < 20 → cm_I x 3 (A + k) = fb5 i1 i2 i3 i4 i5 k := fun k hk => by
    unfold fb5
    by_cases q1 : k < 4
    · rw [if_pos q1, u5 _ (by omega), u4 _ (by omega), u3 _ (by omega), u2 _ (by omega), t1 k q1]
    · rw [if_neg q1]
      by_cases q2 : k < 8
      · rw [if_pos q2, show A + k = A + 4 + (k - 4) by omega, u5 _ (by omega), u4 _ (by omega), u3 _ (by omega), t2 _ (by omega)]
      · rw [if_neg q2]
        by_cases q3 : k < 12
        · rw [if_pos q3, show A + k = A + 4 + 4 + (k - 8) by omega, u5 _ (by omega), u4 _ (by omega), t3 _ (by omega)]
        · rw [if_neg q3]
          by_cases q4 : k < 16
          · rw [if_pos q4, show A + k = A + 4 + 4 + 4 + (k - 12) by omega, u5 _ (by omega), t4 _ (by omega)]
          · rw [if_neg q4, show A + k = A + 4 + 4 + 4 + 4 + (k - 16) by omega, t5 _ (by omega)]
  have Mx : RelM x s := M.fr fun a ha j => fx a j (by omega) (by omega)
  have e9 : cm_I x 96 9 = nI A := (Mx 96 9 rfl).trans hA.1
  obtain ⟨y1, b1, K1, zz1, pp1, tt1, uu1, ff1⟩ := m200 L5 i1 (A := A) (by omega) e9
  obtain ⟨y2, b2, K2, zz2, pp2, tt2, uu2, ff2⟩ := m200 K1 i2 (by omega) pp1
  obtain ⟨y3, b3, K3, zz3, pp3, tt3, uu3, ff3⟩ := m200 K2 i3 (by omega) pp2
  obtain ⟨y4, b4, K4, zz4, pp4, tt4, uu4, ff4⟩ := m200 K3 i4 (by omega) pp3
  obtain ⟨y, b5, K5, zz5, pp5, tt5, uu5, ff5⟩ := m200 K4 i5 (by omega) pp4
  have mm : fn_201 96 i1 i2 i3 i4 i5 x = some (nI (A + 20), y) := by
    have le : nI A + 20 ≤ (900 : Int32) := by
      rw [show nI A + 20 = nI (A + 20) from nI_add A 20]
      exact nI_le (b := 900) h (by decide)
    rw [fn_201, if_pos (LM L5).1, e9, if_pos le, fn_201_15, if_pos (LM L5).1, bd b1, if_pos (LM K1).1, bd b2, if_pos (LM K2).1, bd b3, if_pos (LM K3).1, bd b4, if_pos (LM K4).1, bd b5, if_pos (LM K5).1, pp5]
  have fy : ∀ a j, a ≠ 112 → (a ≠ 96 ∨ j ≠ 9) → cm_I y a j = cm_I x a j := fun a j h1 h2 => by
    rw [ff5 a j h1 h2, ff4 a j h1 h2, ff3 a j h1 h2, ff2 a j h1 h2, ff1 a j h1 h2]
  have zy : cm_L y = cm_L w := by rw [zz5, zz4, zz3, zz2, zz1, zx]
  have uy : ∀ j, j < A → cm_I y 112 j = cm_I x 112 j := fun j hj => by
    rw [uu5 j (by omega), uu4 j (by omega), uu3 j (by omega), uu2 j (by omega), uu1 j hj]
  have ty : ∀ k, k < 20 → cm_I y 112 (A + k) = fb5 i1 i2 i3 i4 i5 k := fun k hk => by
    unfold fb5
    by_cases q1 : k < 4
    · rw [if_pos q1, uu5 _ (by omega), uu4 _ (by omega), uu3 _ (by omega), uu2 _ (by omega), tt1 k q1]
    · rw [if_neg q1]
      by_cases q2 : k < 8
      · rw [if_pos q2, show A + k = A + 4 + (k - 4) by omega, uu5 _ (by omega), uu4 _ (by omega), uu3 _ (by omega), tt2 _ (by omega)]
      · rw [if_neg q2]
        by_cases q3 : k < 12
        · rw [if_pos q3, show A + k = A + 4 + 4 + (k - 8) by omega, uu5 _ (by omega), uu4 _ (by omega), tt3 _ (by omega)]
        · rw [if_neg q3]
          by_cases q4 : k < 16
          · rw [if_pos q4, show A + k = A + 4 + 4 + 4 + (k - 12) by omega, uu5 _ (by omega), tt4 _ (by omega)]
          · rw [if_neg q4, show A + k = A + 4 + 4 + 4 + 4 + (k - 16) by omega, tt5 _ (by omega)]
  refine ⟨nI (A + 20), x, y, v, c, fun a k => if a = 112 ∨ a = 96 ∧ k = 9 then cm_I y a k else s a k, cc, mm, ?_⟩
  generalize hs : (fun a k => if a = 112 ∨ a = 96 ∧ k = 9 then cm_I y a k else s a k : St) = s'
  have sn : ∀ a k, ¬ (a = 112 ∨ a = 96 ∧ k = 9) → s' a k = s a k := fun a k h => by rw [← hs]; exact if_neg h
  have sy : ∀ a k, (a = 112 ∨ a = 96 ∧ k = 9) → s' a k = cm_I y a k := fun a k h => by rw [← hs]; exact if_pos h
  have s9 : s' 96 9 = nI (A + 20) := (sy 96 9 (Or.inr ⟨rfl, rfl⟩)).trans pp5
  have nA' : nA s' = A + 20 := by unfold nA; rw [s9]; exact tn_nI (by omega)
  have RM' : RelM y s' := fun a k hk => by
    by_cases z : a = 112 ∨ a = 96 ∧ k = 9
    · rw [sy a k z]
    · rw [sn a k z, fy a k (by omega) (by omega)]
      exact Mx a k hk
  have fw : ∀ a, a < 96 → a ≠ 2 → a ≠ 3 → ∀ j, cm_I y a j = cm_I w a j := fun a h1 h2 h3 j => by
    rw [fy a j (by omega) (by omega), fx a j h3 (by omega)]
  have f2 : ∀ j, j ≠ 1 → cm_I y 2 j = cm_I w 2 j := fun j hj => by
    rw [fy 2 j (by omega) (by omega), fx 2 j (by omega) (by omega)]
  refine G_oth g K5 RM' (fun a k => ?_) ⟨?_, ?_, f2 7 (by omega), fun k hk => ?_, fun k hk => ?_⟩ (fun a h1 h2 j => fw a (by omega) (by omega) (by omega) j) (fun a h1 h2 j => fw a (by omega) (by omega) (by omega) j) (fun a h1 h2 j => fw a (by omega) (by omega) (by omega) j) ?_ ?_ ?_
  · by_cases z : a = 112 ∨ a = 96 ∧ k = 9
    · exact Or.inl (by omega)
    · exact Or.inr (sn a k z)
  · rw [s9, fy 2 1 (by omega) (by omega)]; exact p5
  · rw [f2 4 (by omega), sn 96 12 (by omega)]; exact C.1.2.1
  · rw [fw 42 (by omega) (by omega) (by omega), sn 97 k (by omega)]; exact C.1.2.2.2.1 k hk
  · rw [nA'] at hk
    rw [sy 112 k (Or.inl rfl), fy 3 k (by omega) (by omega)]
    by_cases q : k < A
    · rw [ux k q, uy k q, Mx 112 k (decide_eq_true (show k < 900 by omega))]
      exact C.1.2.2.2.2 k (by rw [eA]; exact q)
    · have := tx (k - A) (by omega)
      rw [show A + (k - A) = k by omega] at this
      rw [this]
      have := ty (k - A) (by omega)
      rw [show A + (k - A) = k by omega] at this
      rw [this]
  · rw [fw _ (by omega) (by omega) (by omega), fw _ (by omega) (by omega) (by omega), fw _ (by omega) (by omega) (by omega)]
    exact C.2.2.2.2.2
  · rw [zy]; exact ⟨rfl, rfl, fun _ _ => rfl, fun _ => rfl⟩
  · rw [nA', s9]; exact ⟨rfl, h⟩
end FEED
