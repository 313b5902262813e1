/-! the reference takes a village over; the class begins its state anew -/
section OVER2
variable {v c u n m q k p t P Q i j : Nat} {b : Nat → Int32} {w w' w0 x x' x0 y z : cm_W} {s : St}
theorem over219 (L : Lay v c x) (h13 : cm_I x 96 13 = nI t) (ht : t ≤ 8) (h14 : cm_I x 96 14 = nI P) (hP : P ≤ 12) (h15 : cm_I x 96 15 = nI Q) (hQ : Q ≤ 6) : ∃ y, fn_219 96 x = some y ∧ Lay v c y ∧ (∀ a j, (a < 96 ∨ a = 97 ∨ a = 96 ∧ (j = 9 ∨ j = 12)) → cm_I y a j = cm_I x a j) ∧ cm_L y = cm_L x ∧ (cm_I y 96 1 = nI t ∧ cm_I y 96 2 = nI P ∧ cm_I y 96 3 = nI Q ∧ cm_I y 96 4 = cm_I x 96 16 ∧ cm_I y 96 5 = cm_I x 96 17 ∧ cm_I y 96 6 = cm_I x 96 18 ∧ cm_I y 96 7 = cm_I x 96 19) ∧ (cm_I y 96 8 = 0 ∧ cm_I y 96 38 = 0 ∧ cm_I y 96 39 = 0 ∧ cm_I y 96 51 = 0 ∧ cm_I y 96 58 = 0 ∧ cm_I y 96 73 = 0) ∧ (∀ j, j < t → ∀ c, c < 4 → cm_I y (100 + c) j = cm_I x (100 + c) (8 + j)) ∧ (∀ e, e < P → (cm_I y 104 e = cm_I x 104 (12 + e) ∧ cm_I y 105 e = cm_I x 105 (12 + e) ∧ cm_I y 111 e = cm_I x 105 (12 + e)) ∧ ∀ i, i < 8 → cm_I y 107 (8 * e + i) = if cm_I x 106 (12 + e) = 1 then cm_I x 107 (8 * (12 + e) + i) else if i < t then 1 else 0) ∧ ∀ j, j < Q → ∀ c, c < 3 → cm_I y (108 + c) j = cm_I x (108 + c) (6 + j) := by
  have L0 : Lay v c (cm_sI (cm_sI (cm_sI (cm_sI (cm_sI (cm_sI (cm_sI x 96 1 (nI t)) 96 2 (nI P)) 96 3 (nI Q)) 96 4 (cm_I x 96 16)) 96 5 (cm_I x 96 17)) 96 6 (cm_I x 96 18)) 96 7 (cm_I x 96 19)) := L
  have e0 : fn_219 96 x = fn_219_58 cm_N 96 (nI 0) (cm_sI (cm_sI (cm_sI (cm_sI (cm_sI (cm_sI (cm_sI x 96 1 (nI t)) 96 2 (nI P)) 96 3 (nI Q)) 96 4 (cm_I x 96 16)) 96 5 (cm_I x 96 17)) 96 6 (cm_I x 96 18)) 96 7 (cm_I x 96 19)) := by
    simp (disch := omega) only [fn_219, LM L, sh_sI, I_nk, h13, h14, h15, cm_w2, Nat.reduceLeDiff, Nat.reduceLT, decide_true, Bool.and_self, Bool.and_true, eq_self, Nat.le_refl, Nat.lt_irrefl, some_if, Option.bind_some, Option.bind_none, Option.some.injEq, ↓reduceIte, reduceCtorEq, Bool.false_eq_true, Bool.true_eq_false, not_true_eq_false, not_false_eq_true, cmb0, cmb1, Nat.reduceAdd, Nat.reduceMul, Nat.reduceSub, Nat.add_zero, Bool.not_eq_true, Bool.not_eq_false, Nat.reduceEqDiff, Nat.reduceLeDiff, Nat.reduceLT, Int32.reduceLT, Int32.reduceLE, iin_nI, iin_lit, iin_m1, tn_nI, tn_lit, nI_lm, nI_ml, nI_al, nI_la, nI_add, pk_mul, nI_le_l, nI_l_le, nI_lt_l, nI_l_lt, nI_eq_l, nI_l_eq, nI_eqP, nI_leP, nI_ltP, nI_m1, m1_nI, nI_ll, m1_l, l_m1]
    rfl
  generalize hz : cm_sI (cm_sI (cm_sI (cm_sI (cm_sI (cm_sI (cm_sI x 96 1 (nI t)) 96 2 (nI P)) 96 3 (nI Q)) 96 4 (cm_I x 96 16)) 96 5 (cm_I x 96 17)) 96 6 (cm_I x 96 18)) 96 7 (cm_I x 96 19) = z0 at e0 L0
  have zf : ∀ a j, (a ≠ 96 ∨ j < 1 ∨ 7 < j) → cm_I z0 a j = cm_I x a j := fun a j h => by
    rw [← hz, I_if, if_neg (by omega), I_if, if_neg (by omega), I_if, if_neg (by omega), I_if, if_neg (by omega), I_if, if_neg (by omega), I_if, if_neg (by omega), I_if, if_neg (by omega)]
  have q1 : cm_I z0 96 1 = nI t := by rw [← hz]; rfl
  have q2 : cm_I z0 96 2 = nI P := by rw [← hz]; rfl
  have q3 : cm_I z0 96 3 = nI Q := by rw [← hz]; rfl
  have q4 : cm_I z0 96 4 = cm_I x 96 16 := by rw [← hz]; rfl
  have q5 : cm_I z0 96 5 = cm_I x 96 17 := by rw [← hz]; rfl
  have q6 : cm_I z0 96 6 = cm_I x 96 18 := by rw [← hz]; rfl
  have q7 : cm_I z0 96 7 = cm_I x 96 19 := by rw [← hz]; rfl
  have zL : cm_L z0 = cm_L x := by rw [← hz]; rfl
  obtain ⟨z1, a1, a2, a3, a4, a5⟩ := ov_things ht t 0 (by omega) z0 cm_N (by unfold cm_N; omega) L0 q1
  have f1 : ∀ a j, (a < 100 ∨ 103 < a ∨ 8 ≤ j) → cm_I z1 a j = cm_I z0 a j := fun a j h => a3 a j (by omega)
  obtain ⟨z2, b1, b2, b3, b4, b5⟩ := ov_people ht hP P 0 (by omega) z1 cm_N (by unfold cm_N; omega) a2 (by rw [f1 _ _ (by omega)]; exact q1) (by rw [f1 _ _ (by omega)]; exact q2)
  have f2 : ∀ a j, ((a < 104 ∨ a = 106 ∨ a = 108 ∨ a = 109 ∨ a = 110 ∨ 111 < a) ∨ a ≠ 107 ∧ 12 ≤ j ∨ a = 107 ∧ 96 ≤ j) → cm_I z2 a j = cm_I z1 a j := fun a j h => b3 a j (by omega)
  obtain ⟨z3, c1, c2, c3, c4, c5⟩ := ov_pairs hQ Q 0 (by omega) z2 cm_N (by unfold cm_N; omega) b2 (by rw [f2 _ _ (by omega), f1 _ _ (by omega)]; exact q3)
  have f3 : ∀ a j, (a < 108 ∨ 110 < a ∨ 6 ≤ j) → cm_I z3 a j = cm_I z2 a j := fun a j h => c3 a j (by omega)
  have e : fn_219 96 x = some (cm_sI (cm_sI (cm_sI (cm_sI (cm_sI (cm_sI z3 96 8 (0 : Int32)) 96 38 (0 : Int32)) 96 39 (0 : Int32)) 96 51 (0 : Int32)) 96 58 (0 : Int32)) 96 73 (0 : Int32)) := by
    rw [e0, a1, fn_219_132, show (0 : Int32) = nI 0 from rfl, b1, fn_219_261, show (0 : Int32) = nI 0 from rfl, c1, fn_219_322, if_pos (LM c2).1, if_pos (show cm_w2 96 143 96 = true from rfl)]
    rfl
  have L4 : Lay v c (cm_sI (cm_sI (cm_sI (cm_sI (cm_sI (cm_sI z3 96 8 (0 : Int32)) 96 38 (0 : Int32)) 96 39 (0 : Int32)) 96 51 (0 : Int32)) 96 58 (0 : Int32)) 96 73 (0 : Int32)) := c2
  generalize hy : cm_sI (cm_sI (cm_sI (cm_sI (cm_sI (cm_sI z3 96 8 (0 : Int32)) 96 38 (0 : Int32)) 96 39 (0 : Int32)) 96 51 (0 : Int32)) 96 58 (0 : Int32)) 96 73 (0 : Int32) = y at e L4
  have yf : ∀ a j, (a ≠ 96 ∨ j ≠ 8 ∧ j ≠ 38 ∧ j ≠ 39 ∧ j ≠ 51 ∧ j ≠ 58 ∧ j ≠ 73) → cm_I y a j = cm_I z3 a j := fun a j h => by
    rw [← hy, I_if, if_neg (by omega), I_if, if_neg (by omega), I_if, if_neg (by omega), I_if, if_neg (by omega), I_if, if_neg (by omega), I_if, if_neg (by omega)]
  have y96 : ∀ j, j ≠ 8 ∧ j ≠ 38 ∧ j ≠ 39 ∧ j ≠ 51 ∧ j ≠ 58 ∧ j ≠ 73 → cm_I y 96 j = cm_I z0 96 j := fun j h => by
    rw [yf _ _ (by omega), f3 _ _ (by omega), f2 _ _ (by omega), f1 _ _ (by omega)]
  refine ⟨y, e, L4, fun a j h => ?_, ?_, ⟨?_, ?_, ?_, ?_, ?_, ?_, ?_⟩, ⟨?_, ?_, ?_, ?_, ?_, ?_⟩, fun j hj c hc => ?_, fun e he => ⟨⟨?_, ?_, ?_⟩, fun i hi => ?_⟩, fun j hj c hc => ?_⟩
  · rw [yf _ _ (by omega), f3 _ _ (by omega), f2 _ _ (by omega), f1 _ _ (by omega), zf _ _ (by omega)]
  · rw [← hy]
    show cm_L z3 = _
    rw [c4, b4, a4, zL]
  · rw [y96 _ (by omega), q1]
  · rw [y96 _ (by omega), q2]
  · rw [y96 _ (by omega), q3]
  · rw [y96 _ (by omega), q4]
  · rw [y96 _ (by omega), q5]
  · rw [y96 _ (by omega), q6]
  · rw [y96 _ (by omega), q7]
  · rw [← hy]; rfl
  · rw [← hy]; rfl
  · rw [← hy]; rfl
  · rw [← hy]; rfl
  · rw [← hy]; rfl
  · rw [← hy]; rfl
  · rw [yf _ _ (by omega), f3 _ _ (by omega), f2 _ _ (by omega), a5 j (by omega) hj c hc, zf _ _ (by omega)]
  · rw [yf _ _ (by omega), f3 _ _ (by omega), (b5 e (by omega) he).1.1, f1 _ _ (by omega), zf _ _ (by omega)]
  · rw [yf _ _ (by omega), f3 _ _ (by omega), (b5 e (by omega) he).1.2.1, f1 _ _ (by omega), zf _ _ (by omega)]
  · rw [yf _ _ (by omega), f3 _ _ (by omega), (b5 e (by omega) he).1.2.2, f1 _ _ (by omega), zf _ _ (by omega)]
  · rw [yf _ _ (by omega), f3 _ _ (by omega), (b5 e (by omega) he).2 i hi, f1 106 _ (by omega), zf 106 _ (by omega), f1 107 _ (by omega), zf 107 _ (by omega)]
  · rw [yf _ _ (by omega), c5 j (by omega) hj c hc, f2 _ _ (by omega), f1 _ _ (by omega), zf _ _ (by omega)]
theorem beg95l (hu : u = 10 ∨ u = 20) (hP : P ≤ 12) : ∀ d k, k + d = 12 → ∀ (w : cm_W) N, d < N → Lay v c w → cm_I w (u + 5) 2 = nI P → cm_I w (u + 5) 0 = 3 → ∃ y, fn_95_39 N 30 u (nI k) w = some y ∧ Lay v c y ∧ (∀ a j, (a ≠ 40 ∨ j < k) → cm_I y a j = cm_I w a j) ∧ cm_L y = cm_L w ∧ ∀ j, k ≤ j → j < P → cm_I y 40 j = cm_I w (u + 6) (3 * j + 1) := by
  have TBp : TB 5 6 3 36 12 := Or.inr (Or.inl ⟨rfl, rfl, rfl, rfl, rfl⟩)
  intro d
  induction d with
  | zero =>
    intro k hk w N hN L h2 h0
    obtain ⟨N, rfl⟩ : ∃ a, N = a + 1 := ⟨N - 1, by omega⟩
    refine ⟨w, ?_, L, fun _ _ _ => rfl, rfl, fun j h1 h2 => by omega⟩
    rw [fn_95_39, if_pos (by rw [nI_le_l (n := 12) (by decide) (by omega)]; show 12 ≤ k; omega)]
  | succ d ih =>
    intro k hk w N hN L h2 h0
    obtain ⟨N, rfl⟩ : ∃ a, N = a + 1 := ⟨N - 1, by omega⟩
    obtain ⟨t1, t2, t3, t4, t5⟩ := tv L hu TBp
    obtain ⟨i0, g1, g2⟩ : ∃ i0, fn_1 w (u + 5) (nI k) 1 = some i0 ∧ (k < P → i0 = cm_I w (u + 6) (3 * k + 1)) := by
      by_cases z : k < P
      · exact ⟨_, get_in (W := 3) (n := P) (N := 36) t1 t2 t3 h0 h2 (by omega) (by omega) (by omega) z (by omega) (c := 1) (by omega), fun _ => rfl⟩
      · have : cm_iin (nI k) P = false := by
          rcases iin_cs (nI k) (n := P) (by omega) with h | ⟨e, he, h⟩
          · exact h
          · have := (nI_eq (a := k) (b := e) (by omega) (by omega)).mp h
            omega
        exact ⟨_, get_out t1 h2 this (by omega), fun h => absurd h z⟩
    have g40 : cm_ga w .int 40 (nI k) = true := by
      rw [ga_of (n := 12) ((L.sh (a := 40) (by decide) (by decide)).trans rfl)]
      exact iin_nI (by omega) (by decide)
    obtain ⟨y, a1, a2, a3, a4, a5⟩ := ih (k + 1) (by omega) (cm_sI w 40 k i0) N (by omega) L (by rw [I_ne (by omega)]; exact h2) (by rw [I_ne (by omega)]; exact h0)
    refine ⟨y, ?_, a2, fun a j h => ?_, a4, fun j h1 h2 => ?_⟩
    · rw [fn_95_39, if_neg (by rw [nI_le_l (n := 12) (by decide) (by omega)]; show ¬ 12 ≤ k; omega), if_pos (show cm_sh w 30 = some (.inl 6) from (L.sh (a := 30) (by decide) (by decide)).trans rfl), bd (show cm_R w 30 5 = some 40 from L.R rfl), if_pos (LV L hu).1, bd (LV L hu).2.2.2.2.1, if_pos t1, bd g1, if_pos g40, if_pos (show cm_w2 30 41 40 = true from rfl), tn_nI (by omega), show nI k + (1 : Int32) = nI (k + 1) from nI_1 k]
      exact a1
    · rw [a3 a j (by omega), I_if, if_neg (by omega)]
    · by_cases e : j = k
      · subst e
        rw [a3 _ _ (by omega), I_eq, g2 h2]
      · rw [a5 j (by omega) h2, I_ne (by omega)]
theorem beg95 (L : Lay v c w) (hu : u = 10 ∨ u = 20) (h2 : cm_I w (u + 5) 2 = nI P) (hP : P ≤ 12) (h0 : cm_I w (u + 5) 0 = 3) : ∃ y, fn_95 30 u w = some y ∧ Lay v c y ∧ (∀ a j, (a < 30 ∨ 41 ≤ a ∨ j = 0 ∧ a < 40) → cm_I y a j = cm_I w a j) ∧ cm_L y = cm_L w ∧ (cm_I y 31 2 = 0 ∧ cm_I y 33 2 = 0 ∧ cm_I y 35 2 = 0 ∧ cm_I y 37 2 = 0 ∧ cm_I y 30 6 = 0) ∧ ∀ j, j < P → cm_I y 40 j = cm_I w (u + 6) (3 * j + 1) := by
  have L1 : Lay v c (cm_sI (cm_sI (cm_sI (cm_sI (cm_sI w 31 2 (0 : Int32)) 33 2 (0 : Int32)) 35 2 (0 : Int32)) 37 2 (0 : Int32)) 30 6 (0 : Int32)) := L
  have e : fn_95 30 u w = fn_95_39 cm_N 30 u (nI 0) (cm_sI (cm_sI (cm_sI (cm_sI (cm_sI w 31 2 (0 : Int32)) 33 2 (0 : Int32)) 35 2 (0 : Int32)) 37 2 (0 : Int32)) 30 6 (0 : Int32)) := by
    rw [fn_95, if_pos (show cm_sh w 30 = some (.inl 6) from (L.sh (a := 30) (by decide) (by decide)).trans rfl), bd (show cm_R w 30 0 = some 31 from L.R rfl), if_pos (show cm_sh w 31 = some (.inl 7) from (L.sh (a := 31) (by decide) (by decide)).trans rfl), if_pos (show cm_w2 30 41 31 = true from rfl), bd (show cm_R (cm_sI w 31 2 0) 30 1 = some 33 from L.R rfl), if_pos (show cm_sh w 33 = some (.inl 7) from (L.sh (a := 33) (by decide) (by decide)).trans rfl), if_pos (show cm_w2 30 41 33 = true from rfl), bd (show cm_R (cm_sI (cm_sI w 31 2 0) 33 2 0) 30 2 = some 35 from L.R rfl), if_pos (show cm_sh w 35 = some (.inl 7) from (L.sh (a := 35) (by decide) (by decide)).trans rfl), if_pos (show cm_w2 30 41 35 = true from rfl), bd (show cm_R (cm_sI (cm_sI (cm_sI w 31 2 0) 33 2 0) 35 2 0) 30 3 = some 37 from L.R rfl), if_pos (show cm_sh w 37 = some (.inl 7) from (L.sh (a := 37) (by decide) (by decide)).trans rfl), if_pos (show cm_w2 30 41 37 = true from rfl), if_pos (show cm_w2 30 41 30 = true from rfl)]
    rfl
  generalize hz : cm_sI (cm_sI (cm_sI (cm_sI (cm_sI w 31 2 (0 : Int32)) 33 2 (0 : Int32)) 35 2 (0 : Int32)) 37 2 (0 : Int32)) 30 6 (0 : Int32) = z at e L1
  have zf : ∀ a j, (a < 30 ∨ 41 ≤ a ∨ j = 0) → cm_I z a j = cm_I w a j := fun a j h => by
    rw [← hz, I_if, if_neg (by omega), I_if, if_neg (by omega), I_if, if_neg (by omega), I_if, if_neg (by omega), I_if, if_neg (by omega)]
  obtain ⟨y, a1, a2, a3, a4, a5⟩ := beg95l hu hP 12 0 rfl z cm_N (by unfold cm_N; omega) L1 (by rw [zf _ _ (by omega)]; exact h2) (by rw [zf _ _ (by omega)]; exact h0)
  refine ⟨y, by rw [e]; exact a1, a2, fun a j h => ?_, ?_, ⟨?_, ?_, ?_, ?_, ?_⟩, fun j hj => ?_⟩
  · rw [a3 _ _ (by omega), zf _ _ (by omega)]
  · rw [a4, ← hz]; rfl
  · rw [a3 _ _ (by omega), ← hz]; rfl
  · rw [a3 _ _ (by omega), ← hz]; rfl
  · rw [a3 _ _ (by omega), ← hz]; rfl
  · rw [a3 _ _ (by omega), ← hz]; rfl
  · rw [a3 _ _ (by omega), ← hz]; rfl
  · rw [a5 j (by omega) hj, zf _ _ (by omega)]
end OVER2
