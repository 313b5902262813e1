/-! the class adds a THING, one of the PEOPLE, a pair -/
/-- the village's tables: where, where the cells are, width, cells, most rows -/
def TB (d e W N m : Nat) : Prop := d = 2 ∧ e = 3 ∧ W = 4 ∧ N = 32 ∧ m = 8 ∨ d = 5 ∧ e = 6 ∧ W = 3 ∧ N = 36 ∧ m = 12 ∨ d = 8 ∧ e = 9 ∧ W = 3 ∧ N = 18 ∧ m = 6
section ADDS
variable {v c u n q k p t P Q d e W N m r : Nat} {b : Nat → Int32} {w w' w0 x x' x0 y z : cm_W} {f : Int32} {s : St}
theorem tv (L : Lay v c w) (hu : u = 10 ∨ u = 20) (hd : TB d e W N m) : cm_sh w (u + d) = some (.inl 7) ∧ cm_R w (u + d) 1 = some (u + e) ∧ (∀ i, cm_ga w .int (u + e) i = cm_iin i N) ∧ cm_al w (u + e) = some N ∧ W * m = N := by
  rcases hd with ⟨rfl, rfl, rfl, rfl, rfl⟩ | ⟨rfl, rfl, rfl, rfl, rfl⟩ | ⟨rfl, rfl, rfl, rfl, rfl⟩ <;> rcases hu with rfl | rfl <;> exact ⟨(L.sh (by decide) (by decide)).trans rfl, L.R rfl, ga_of ((L.sh (by decide) (by decide)).trans rfl), al_of ((L.sh (by decide) (by decide)).trans rfl), rfl⟩
theorem tS (L : Lay v c z) (hu : u = 10 ∨ u = 20) (hd : TB d e W N m) (h0 : cm_I z (u + d) 0 = nI W) (hn : cm_I z (u + d) 2 = nI r) (hr : r ≤ m) {k j : Nat} (hk : k < r) (hj : j < W) {i : Int32} : fn_72 (u + d) (nI k) (nI j) i z = some (cm_sI z (u + e) (W * k + j) i) := by
  obtain ⟨t1, t2, t3, t4, t5⟩ := tv L hu hd
  have hm : W * r ≤ N := by rw [← t5]; exact Nat.mul_le_mul_left W hr
  have bd : N ≤ 2100 ∧ W < 100 ∧ m ≤ 2100 ∧ u + e < u + 10 := by
    rcases hd with ⟨rfl, rfl, rfl, rfl, rfl⟩ | ⟨rfl, rfl, rfl, rfl, rfl⟩ | ⟨rfl, rfl, rfl, rfl, rfl⟩ <;> omega
  exact tset t1 t2 t3 h0 hn hm bd.1 bd.2.1 (w2v hu _ (by omega) bd.2.2.2).1 hk (by omega) hj
theorem tF (L : Lay v c z) (hu : u = 10 ∨ u = 20) (hd : TB d e W N m) (h0 : cm_I z (u + d) 0 = nI W) (hn : cm_I z (u + d) 2 = nI r) (hr : r ≤ m) : fn_64 z (u + d) = some (decide (r = m)) := by
  obtain ⟨t1, t2, t3, t4, t5⟩ := tv L hu hd
  have bd : W * (m + 1) < 10000 ∧ 0 < W := by
    rcases hd with ⟨rfl, rfl, rfl, rfl, rfl⟩ | ⟨rfl, rfl, rfl, rfl, rfl⟩ | ⟨rfl, rfl, rfl, rfl, rfl⟩ <;> omega
  exact full_in t1 t2 (by rw [t4, t5]) h0 hn hr bd.1 bd.2
theorem tA (L : Lay v c z) (hu : u = 10 ∨ u = 20) (hd : TB d e W N m) (h0 : cm_I z (u + d) 0 = nI W) (hn : cm_I z (u + d) 2 = nI r) (hr : r < m) : fn_71 (u + d) z = some (nI r, cm_sI z (u + d) 2 (nI (r + 1))) := by
  have bd : u + d < u + 10 := by
    rcases hd with ⟨rfl, rfl, rfl, rfl, rfl⟩ | ⟨rfl, rfl, rfl, rfl, rfl⟩ | ⟨rfl, rfl, rfl, rfl, rfl⟩ <;> omega
  refine tapp (tv L hu hd).1 ?_ hn (w2v hu _ (by omega) bd).1
  rw [tF L hu hd h0 hn (by omega), decide_eq_false (by omega)]
theorem add73 (L : Lay v c w) (hu : u = 10 ∨ u = 20) (h0 : cm_I w (u + 2) 0 = 4) (h2 : cm_I w (u + 2) 2 = nI t) (ht : t < 8) (J : Int64) (i3 i4 i5 i6 : Int32) : fn_73 u J i3 i4 i5 i6 w = some (cm_sI (cm_sI (cm_sI (cm_sI (cm_sL (cm_sI w (u + 2) 2 (nI (t + 1))) (u + 1) t J) (u + 3) (4 * t + 0) i3) (u + 3) (4 * t + 1) i4) (u + 3) (4 * t + 2) i5) (u + 3) (4 * t + 3) i6) := by
  have TBt : TB 2 3 4 32 8 := Or.inl ⟨rfl, rfl, rfl, rfl, rfl⟩
  have A := tA L hu TBt h0 h2 ht
  generalize hw1 : cm_sI w (u + 2) 2 (nI (t + 1)) = w1 at *
  have L1 : Lay v c w1 := by rw [← hw1]; exact L
  have a0 : cm_I w1 (u + 2) 0 = 4 := by rw [← hw1, I_nk (by omega)]; exact h0
  have a2 : cm_I w1 (u + 2) 2 = nI (t + 1) := by rw [← hw1, I_eq]
  have g1 : cm_ga w1 .long (u + 1) (nI t) = true := by
    rw [(LV L1 hu).2.2.2.2.2.2.2.1]
    exact iin_nI ht (by decide)
  generalize hw2 : cm_sL w1 (u + 1) t J = w2
  have L2 : Lay v c w2 := by rw [← hw2]; exact L1.sL (by omega)
  have b0 : cm_I w2 (u + 2) 0 = 4 := by rw [← hw2]; exact a0
  have b2 : cm_I w2 (u + 2) 2 = nI (t + 1) := by rw [← hw2]; exact a2
  have s1 : fn_72 (u + 2) (nI t) (0 : Int32) i3 w2 = some (cm_sI w2 (u + 3) (4 * t + 0) i3) := tS L2 hu TBt b0 b2 (by omega) (by omega) (j := 0) (by omega)
  generalize hw3 : cm_sI w2 (u + 3) (4 * t + 0) i3 = w3 at *
  have L3 : Lay v c w3 := by rw [← hw3]; exact L2
  have c0 : cm_I w3 (u + 2) 0 = 4 := by rw [← hw3, I_ne (by omega)]; exact b0
  have c2 : cm_I w3 (u + 2) 2 = nI (t + 1) := by rw [← hw3, I_ne (by omega)]; exact b2
  have s2 : fn_72 (u + 2) (nI t) (1 : Int32) i4 w3 = some (cm_sI w3 (u + 3) (4 * t + 1) i4) := tS L3 hu TBt c0 c2 (by omega) (by omega) (j := 1) (by omega)
  generalize hw4 : cm_sI w3 (u + 3) (4 * t + 1) i4 = w4 at *
  have L4 : Lay v c w4 := by rw [← hw4]; exact L3
  have d0 : cm_I w4 (u + 2) 0 = 4 := by rw [← hw4, I_ne (by omega)]; exact c0
  have d2 : cm_I w4 (u + 2) 2 = nI (t + 1) := by rw [← hw4, I_ne (by omega)]; exact c2
  have s3 : fn_72 (u + 2) (nI t) (2 : Int32) i5 w4 = some (cm_sI w4 (u + 3) (4 * t + 2) i5) := tS L4 hu TBt d0 d2 (by omega) (by omega) (j := 2) (by omega)
  generalize hw5 : cm_sI w4 (u + 3) (4 * t + 2) i5 = w5 at *
  have L5 : Lay v c w5 := by rw [← hw5]; exact L4
  have e0 : cm_I w5 (u + 2) 0 = 4 := by rw [← hw5, I_ne (by omega)]; exact d0
  have e2 : cm_I w5 (u + 2) 2 = nI (t + 1) := by rw [← hw5, I_ne (by omega)]; exact d2
  have s4 : fn_72 (u + 2) (nI t) (3 : Int32) i6 w5 = some (cm_sI w5 (u + 3) (4 * t + 3) i6) := tS L5 hu TBt e0 e2 (by omega) (by omega) (j := 3) (by omega)
  have w21 := (w2v hu (u + 1) (by omega) (by omega)).1
  have n0 : ¬ nI t < 0 := nI_pos (by omega)
  have n8 : nI t < (8 : Int32) := nI_lt (b := 8) ht (by decide)
  have e22 : fn_73_22 u J i3 i4 i5 i6 (nI t) w1 = some (cm_sI w5 (u + 3) (4 * t + 3) i6) := by
    rw [fn_73_22, if_pos (LV L1 hu).1, bd (LV L1 hu).2.1, if_pos g1, if_pos w21, tn_nI (by omega), hw2]
    rw [bd (LV L2 hu).2.2.1, if_pos (tv L1 hu TBt).1, bd s1, if_pos (LV L3 hu).1, bd (LV L3 hu).2.2.1, if_pos (tv L3 hu TBt).1, bd s2, if_pos (LV L4 hu).1, bd (LV L4 hu).2.2.1, if_pos (tv L4 hu TBt).1, bd s3, if_pos (LV L5 hu).1, bd (LV L5 hu).2.2.1, if_pos (tv L5 hu TBt).1, bd s4]
  rw [fn_73, if_pos (LV L hu).1, bd (LV L hu).2.2.1, if_pos (tv L hu TBt).1, bd A]
  show (if nI t < 0 then some w1 else if nI t < (8 : Int32) then fn_73_22 u J i3 i4 i5 i6 (nI t) w1 else some w1) = _
  rw [if_neg n0, if_pos n8, e22]
theorem add75 (L : Lay v c w) (hu : u = 10 ∨ u = 20) (h0 : cm_I w (u + 5) 0 = 3) (h2 : cm_I w (u + 5) 2 = nI t) (ht : t < 12) (J : Int64) (i3 i4 : Int32) : fn_75 u J i3 i4 w = some (cm_sI (cm_sI (cm_sI (cm_sL (cm_sI w (u + 5) 2 (nI (t + 1))) (u + 4) t J) (u + 6) (3 * t + 0) i3) (u + 6) (3 * t + 1) i4) (u + 6) (3 * t + 2) 0) := by
  have TBt : TB 5 6 3 36 12 := Or.inr (Or.inl ⟨rfl, rfl, rfl, rfl, rfl⟩)
  have A := tA L hu TBt h0 h2 ht
  generalize hw1 : cm_sI w (u + 5) 2 (nI (t + 1)) = w1 at *
  have L1 : Lay v c w1 := by rw [← hw1]; exact L
  have a0 : cm_I w1 (u + 5) 0 = 3 := by rw [← hw1, I_nk (by omega)]; exact h0
  have a2 : cm_I w1 (u + 5) 2 = nI (t + 1) := by rw [← hw1, I_eq]
  have g1 : cm_ga w1 .long (u + 4) (nI t) = true := by
    have hs1 : cm_sh w1 (u + 4) = some (.inr (.long, 12)) := by
      rcases hu with e | e <;> rw [e] <;> exact (L1.sh (by decide) (by decide)).trans rfl
    rw [ga_of hs1]
    exact iin_nI ht (by decide)
  generalize hw2 : cm_sL w1 (u + 4) t J = w2
  have L2 : Lay v c w2 := by rw [← hw2]; exact L1.sL (by omega)
  have b0 : cm_I w2 (u + 5) 0 = 3 := by rw [← hw2]; exact a0
  have b2 : cm_I w2 (u + 5) 2 = nI (t + 1) := by rw [← hw2]; exact a2
  have s1 : fn_72 (u + 5) (nI t) (0 : Int32) i3 w2 = some (cm_sI w2 (u + 6) (3 * t + 0) i3) := tS L2 hu TBt b0 b2 (by omega) (by omega) (j := 0) (by omega)
  generalize hw3 : cm_sI w2 (u + 6) (3 * t + 0) i3 = w3 at *
  have L3 : Lay v c w3 := by rw [← hw3]; exact L2
  have c0 : cm_I w3 (u + 5) 0 = 3 := by rw [← hw3, I_ne (by omega)]; exact b0
  have c2 : cm_I w3 (u + 5) 2 = nI (t + 1) := by rw [← hw3, I_ne (by omega)]; exact b2
  have s2 : fn_72 (u + 5) (nI t) (1 : Int32) i4 w3 = some (cm_sI w3 (u + 6) (3 * t + 1) i4) := tS L3 hu TBt c0 c2 (by omega) (by omega) (j := 1) (by omega)
  generalize hw4 : cm_sI w3 (u + 6) (3 * t + 1) i4 = w4 at *
  have L4 : Lay v c w4 := by rw [← hw4]; exact L3
  have d0 : cm_I w4 (u + 5) 0 = 3 := by rw [← hw4, I_ne (by omega)]; exact c0
  have d2 : cm_I w4 (u + 5) 2 = nI (t + 1) := by rw [← hw4, I_ne (by omega)]; exact c2
  have s3 : fn_72 (u + 5) (nI t) (2 : Int32) (0 : Int32) w4 = some (cm_sI w4 (u + 6) (3 * t + 2) 0) := tS L4 hu TBt d0 d2 (by omega) (by omega) (j := 2) (by omega)
  have w21 := (w2v hu (u + 4) (by omega) (by omega)).1
  have n0 : ¬ nI t < 0 := nI_pos (by omega)
  have n8 : nI t < (12 : Int32) := nI_lt (b := 12) ht (by decide)
  have e22 : fn_75_22 u J i3 i4 (nI t) w1 = some (cm_sI w4 (u + 6) (3 * t + 2) 0) := by
    rw [fn_75_22, if_pos (LV L1 hu).1, bd (LV L1 hu).2.2.2.1, if_pos g1, if_pos w21, tn_nI (by omega), hw2]
    rw [bd (LV L2 hu).2.2.2.2.1, if_pos (tv L1 hu TBt).1, bd s1, if_pos (LV L3 hu).1, bd (LV L3 hu).2.2.2.2.1, if_pos (tv L3 hu TBt).1, bd s2, if_pos (LV L4 hu).1, bd (LV L4 hu).2.2.2.2.1, if_pos (tv L4 hu TBt).1, bd s3]
  rw [fn_75, if_pos (LV L hu).1, bd (LV L hu).2.2.2.2.1, if_pos (tv L hu TBt).1, bd A]
  show (if nI t < 0 then some w1 else if nI t < (12 : Int32) then fn_75_22 u J i3 i4 (nI t) w1 else some w1) = _
  rw [if_neg n0, if_pos n8, e22]
theorem add81 (L : Lay v c w) (hu : u = 10 ∨ u = 20) (h0 : cm_I w (u + 8) 0 = 3) (h2 : cm_I w (u + 8) 2 = nI t) (ht : t < 6) (i1 i2 i3 : Int32) : fn_81 u i1 i2 i3 w = some (cm_sI (cm_sI (cm_sI (cm_sI w (u + 8) 2 (nI (t + 1))) (u + 9) (3 * t + 0) i1) (u + 9) (3 * t + 1) i2) (u + 9) (3 * t + 2) i3) := by
  have TBt : TB 8 9 3 18 6 := Or.inr (Or.inr ⟨rfl, rfl, rfl, rfl, rfl⟩)
  have A := tA L hu TBt h0 h2 ht
  generalize hw2 : cm_sI w (u + 8) 2 (nI (t + 1)) = w2 at *
  have L2 : Lay v c w2 := by rw [← hw2]; exact L
  have b0 : cm_I w2 (u + 8) 0 = 3 := by rw [← hw2, I_nk (by omega)]; exact h0
  have b2 : cm_I w2 (u + 8) 2 = nI (t + 1) := by rw [← hw2, I_eq]
  have s1 : fn_72 (u + 8) (nI t) (0 : Int32) i1 w2 = some (cm_sI w2 (u + 9) (3 * t + 0) i1) := tS L2 hu TBt b0 b2 (by omega) (by omega) (j := 0) (by omega)
  generalize hw3 : cm_sI w2 (u + 9) (3 * t + 0) i1 = w3 at *
  have L3 : Lay v c w3 := by rw [← hw3]; exact L2
  have c0 : cm_I w3 (u + 8) 0 = 3 := by rw [← hw3, I_ne (by omega)]; exact b0
  have c2 : cm_I w3 (u + 8) 2 = nI (t + 1) := by rw [← hw3, I_ne (by omega)]; exact b2
  have s2 : fn_72 (u + 8) (nI t) (1 : Int32) i2 w3 = some (cm_sI w3 (u + 9) (3 * t + 1) i2) := tS L3 hu TBt c0 c2 (by omega) (by omega) (j := 1) (by omega)
  generalize hw4 : cm_sI w3 (u + 9) (3 * t + 1) i2 = w4 at *
  have L4 : Lay v c w4 := by rw [← hw4]; exact L3
  have d0 : cm_I w4 (u + 8) 0 = 3 := by rw [← hw4, I_ne (by omega)]; exact c0
  have d2 : cm_I w4 (u + 8) 2 = nI (t + 1) := by rw [← hw4, I_ne (by omega)]; exact c2
  have s3 : fn_72 (u + 8) (nI t) (2 : Int32) i3 w4 = some (cm_sI w4 (u + 9) (3 * t + 2) i3) := tS L4 hu TBt d0 d2 (by omega) (by omega) (j := 2) (by omega)
  rw [fn_81, if_pos (LV L hu).1, bd (LV L hu).2.2.2.2.2.2.1, if_pos (tv L hu TBt).1, bd A]
  show (if cm_sh w2 u = some (.inl 9) then (cm_R w2 u 5).bind fun r8 => (if cm_sh w2 r8 = some (.inl 7) then (fn_72 r8 (nI t) (0 : Int32) i1 w2).bind fun w11 => (if cm_sh w11 u = some (.inl 9) then (cm_R w11 u 5).bind fun r14 => (if cm_sh w11 r14 = some (.inl 7) then (fn_72 r14 (nI t) (1 : Int32) i2 w11).bind fun w17 => (if cm_sh w17 u = some (.inl 9) then (cm_R w17 u 5).bind fun r20 => (if cm_sh w17 r20 = some (.inl 7) then (fn_72 r20 (nI t) (2 : Int32) i3 w17).bind fun w23 => some w23 else none) else none) else none) else none) else none) else none) = _
  rw [if_pos (LV L2 hu).1, bd (LV L2 hu).2.2.2.2.2.2.1, if_pos (tv L2 hu TBt).1, bd s1, if_pos (LV L3 hu).1, bd (LV L3 hu).2.2.2.2.2.2.1, if_pos (tv L3 hu TBt).1, bd s2, if_pos (LV L4 hu).1, bd (LV L4 hu).2.2.2.2.2.2.1, if_pos (tv L4 hu TBt).1, bd s3]
/-- a share -/
theorem shr77 (L : Lay v c w) (hu : u = 10 ∨ u = 20) (h2 : cm_I w (u + 5) 2 = nI P) (hP : P ≤ 12) (i1 : Int32) {j : Nat} (hj : j < 8) (i3 : Int32) : fn_77 u i1 (nI j) i3 w = some (if cm_iin i1 P = true then cm_sI w (u + 7) (8 * tn i1 + j) i3 else w) := by
  have TBt : TB 5 6 3 36 12 := Or.inr (Or.inl ⟨rfl, rfl, rfl, rfl, rfl⟩)
  have hs := has_ok (tv L hu TBt).1 h2 (by omega) i1
  have w27 := (w2v hu (u + 7) (by omega) (by omega)).1
  have hj' : ¬ 8 ≤ j := by omega
  rcases iin_cs i1 (n := P) (by omega) with h | ⟨k, hk, rfl⟩
  · rw [h, if_neg (by decide)]
    simp (disch := omega) only [fn_77, ↓LVb L hu, LV L hu, hs, h, eq_self, Nat.le_refl, Nat.lt_irrefl, some_if, Option.bind_some, Option.bind_none, Option.some.injEq, ↓reduceIte, reduceCtorEq, Bool.false_eq_true, Bool.true_eq_false, not_true_eq_false, not_false_eq_true, cmb0, cmb1, Nat.reduceAdd, Nat.reduceMul, Nat.reduceSub, Nat.add_zero, Bool.not_eq_true, Bool.not_eq_false, Nat.reduceEqDiff, Nat.reduceLeDiff, Nat.reduceLT, Int32.reduceLT, Int32.reduceLE, iin_nI, iin_lit, iin_m1, tn_nI, tn_lit, nI_lm, nI_ml, nI_al, nI_la, nI_add, pk_mul, nI_le_l, nI_l_le, nI_lt_l, nI_l_lt, nI_eq_l, nI_l_eq, nI_eqP, nI_leP, nI_ltP, nI_m1, m1_nI, nI_ll, m1_l, l_m1]
  · have h := iin_nI hk (show P ≤ 2147483648 by omega)
    rw [h, if_pos rfl, tn_nIe (by omega)]
    simp (disch := omega) only [fn_77, ↓LVb L hu, LV L hu, hs, h, hj', w27, Nat.not_lt_zero, eq_self, Nat.le_refl, Nat.lt_irrefl, some_if, Option.bind_some, Option.bind_none, Option.some.injEq, ↓reduceIte, reduceCtorEq, Bool.false_eq_true, Bool.true_eq_false, not_true_eq_false, not_false_eq_true, cmb0, cmb1, Nat.reduceAdd, Nat.reduceMul, Nat.reduceSub, Nat.add_zero, Bool.not_eq_true, Bool.not_eq_false, Nat.reduceEqDiff, Nat.reduceLeDiff, Nat.reduceLT, Int32.reduceLT, Int32.reduceLE, iin_nI, iin_lit, iin_m1, tn_nI, tn_lit, nI_lm, nI_ml, nI_al, nI_la, nI_add, pk_mul, nI_le_l, nI_l_le, nI_lt_l, nI_l_lt, nI_eq_l, nI_l_eq, nI_eqP, nI_leP, nI_ltP, nI_m1, m1_nI, nI_ll, m1_l, l_m1]
end ADDS
