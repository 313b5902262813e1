/-! name: what the names are worth, as a fraction in lowest terms -/
/-- Euclid's steps -/
def gs (x y : Nat) : Nat → Nat × Nat
  | 0 => (x, y)
  | k + 1 => if (gs x y k).2 = 0 then gs x y k else ((gs x y k).2, (gs x y k).1 % (gs x y k).2)
def rp0 (s : St) (m : Nat) : Int32 := rp (mkt s 0 (-1) (-1) m)
section NAME
variable {v c u n m l p q d : Nat} {w w' : cm_W} {s s' : St} {M : Mk}
theorem gs_sp (x y : Nat) (h0 : 0 < y) : ∀ k, (gs x y k).2 + k ≤ y ∨ ((gs x y k).2 = 0 ∧ 0 < (gs x y k).1) := by
  intro k
  induction k with
  | zero => exact Or.inl (Nat.le_refl _)
  | succ k ih =>
    have st : gs x y (k + 1) = if (gs x y k).2 = 0 then gs x y k else ((gs x y k).2, (gs x y k).1 % (gs x y k).2) := rfl
    by_cases z : (gs x y k).2 = 0
    · rw [if_pos z] at st
      rw [st]
      rcases ih with ih | ih
      · by_cases zz : 0 < (gs x y k).1
        · exact Or.inr ⟨z, zz⟩
        · exfalso
          -- the first is never 0
          have pos : ∀ k, 0 < (gs x y k).1 ∨ (k = 0 ∧ (gs x y k).2 = y) := by
            intro k
            induction k with
            | zero => exact Or.inr ⟨rfl, rfl⟩
            | succ k ih =>
              have st : gs x y (k + 1) = if (gs x y k).2 = 0 then gs x y k else ((gs x y k).2, (gs x y k).1 % (gs x y k).2) := rfl
              by_cases z : (gs x y k).2 = 0
              · rw [if_pos z] at st
                rw [st]
                rcases ih with ih | ⟨-, ih⟩
                · exact Or.inl ih
                · omega
              · rw [if_neg z] at st
                rw [st]
                exact Or.inl (Nat.pos_of_ne_zero z)
          rcases pos k with h | ⟨h, h2⟩
          · exact zz h
          · omega
      · exact Or.inr ih
    · rw [if_neg z] at st
      rw [st]
      rcases ih with ih | ih
      · have := Nat.mod_lt (gs x y k).1 (Nat.pos_of_ne_zero z)
        refine Or.inl ?_
        show (gs x y k).1 % (gs x y k).2 + (k + 1) ≤ y
        omega
      · exact absurd ih.1 z
theorem gs_b (x y : Nat) : ∀ k, (gs x y k).1 ≤ x + y ∧ (gs x y k).2 ≤ y := by
  intro k
  induction k with
  | zero => exact ⟨Nat.le_add_right _ _, Nat.le_refl _⟩
  | succ k ih =>
    have st : gs x y (k + 1) = if (gs x y k).2 = 0 then gs x y k else ((gs x y k).2, (gs x y k).1 % (gs x y k).2) := rfl
    by_cases z : (gs x y k).2 = 0
    · rw [if_pos z] at st
      rw [st]; exact ih
    · rw [if_neg z] at st
      rw [st]
      have := Nat.mod_lt (gs x y k).1 (Nat.pos_of_ne_zero z)
      exact ⟨show (gs x y k).2 ≤ x + y by omega, show (gs x y k).1 % (gs x y k).2 ≤ y by omega⟩
theorem gs_st {x y k : Nat} (z : (gs x y k).2 = 0) : ∀ j, gs x y (k + j) = gs x y k := by
  intro j
  induction j with
  | zero => rfl
  | succ j ih =>
    have st : gs x y (k + j + 1) = if (gs x y (k + j)).2 = 0 then gs x y (k + j) else ((gs x y (k + j)).2, (gs x y (k + j)).1 % (gs x y (k + j)).2) := rfl
    rw [ih, if_pos z] at st
    exact st
theorem rem_n {a b : Nat} (ha : a < 2147483648) (h0 : 0 < b) (hb : b < 2147483648) : nI a - nI a / nI b * nI b = nI (a % b) := by
  rw [pk_div (by omega) h0 (by omega), pk_mul]
  have h := Nat.div_add_mod a b
  rw [Nat.mul_comm] at h
  rw [pk_sub (by omega)]
  congr 1
  omega
theorem gcd_ok {x y : Nat} (hx : x < 10000) (h0 : 0 < y) (hy : y ≤ 10) : ∃ G, 0 < G ∧ G ≤ x + y ∧ (∀ w, fn_185 w (nI x) (nI y) = some (nI G)) ∧ ∀ w i3 i5 i6, fn_291_82 cm_N i3 i5 i6 (nI x) (nI y) w = fn_291_105 i3 i5 i6 (nI G) w := by
  obtain ⟨K, hK⟩ : ∃ K, K = 11 := ⟨_, rfl⟩
  have eK : (gs x y K).2 = 0 ∧ 0 < (gs x y K).1 := by
    rcases gs_sp x y h0 K with h | h
    · omega
    · exact h
  have bK := gs_b x y K
  have le : ∀ k, k < K → (gs x y k).2 = 0 → gs x y K = gs x y k := fun k hk z => by
    have e := gs_st z (K - k)
    rw [show k + (K - k) = K by omega] at e
    exact e
  have stp : ∀ k, ¬ (gs x y k).2 = 0 → gs x y (k + 1) = ((gs x y k).2, (gs x y k).1 % (gs x y k).2) := fun k z => if_neg z
  have b := gs_b x y
  have s0 : gs x y 0 = (x, y) := rfl
  generalize gs x y = f at *
  generalize hG : (f K).1 = G at *
  refine ⟨G, eK.2, bK.1, fun w => ?_, fun w i3 i5 i6 => ?_⟩
  · have fin : (if (1 : Int32) < nI G then nI G else 1) = nI G := by
      by_cases q : G = 1
      · rw [q]; rfl
      · exact if_pos (show nI 1 < nI G from (nI_ltI (by omega) (by omega)).mpr (by omega))
    have e34 : fn_185_34 w (nI G) = some (nI G) := congrArg some fin
    refine up_0 (fun n k (a : Int32 × Int32) => fn_185_7 w n a.1 a.2 (nI k)) K (fun k a => a = (nI (f k).1, nI (f k).2)) (fun o => o = some (nI G)) (nI x, nI y) (by omega) (by rw [s0]) (fun n k a hk ha => ?_) (fun n a ha => ?_)
    · subst ha
      dsimp only
      have k100 : ¬ 100 ≤ k := by omega
      have bk := b k
      by_cases z : (f k).2 = 0
      · refine Or.inl ?_
        have e := le k hk z
        rw [e] at hG
        rw [hG]
        simp (disch := omega) only [fn_185_7, e34, k100, z, eq_self, Nat.le_refl, Nat.lt_irrefl, some_if, Option.bind_some, Option.bind_none, Option.some.injEq, ↓reduceIte, reduceCtorEq, Bool.false_eq_true, Bool.true_eq_false, not_true_eq_false, not_false_eq_true, cmb0, cmb1, Nat.reduceAdd, Nat.reduceMul, Nat.reduceSub, Nat.add_zero, Bool.not_eq_true, Bool.not_eq_false, Nat.reduceEqDiff, Nat.reduceLeDiff, Nat.reduceLT, Int32.reduceLT, Int32.reduceLE, iin_nI, iin_lit, iin_m1, tn_nI, tn_lit, nI_lm, nI_ml, nI_al, nI_la, nI_add, pk_mul, nI_le_l, nI_l_le, nI_lt_l, nI_l_lt, nI_eq_l, nI_l_eq, nI_eqP, nI_leP, nI_ltP, nI_m1, m1_nI, nI_ll, m1_l, l_m1]
      · refine Or.inr ⟨_, rfl, ?_⟩
        rw [stp k z]
        have r := rem_n (a := (f k).1) (b := (f k).2) (by omega) (by omega) (by omega)
        simp (disch := omega) only [fn_185_7, k100, z, r, eq_self, Nat.le_refl, Nat.lt_irrefl, some_if, Option.bind_some, Option.bind_none, Option.some.injEq, ↓reduceIte, reduceCtorEq, Bool.false_eq_true, Bool.true_eq_false, not_true_eq_false, not_false_eq_true, cmb0, cmb1, Nat.reduceAdd, Nat.reduceMul, Nat.reduceSub, Nat.add_zero, Bool.not_eq_true, Bool.not_eq_false, Nat.reduceEqDiff, Nat.reduceLeDiff, Nat.reduceLT, Int32.reduceLT, Int32.reduceLE, iin_nI, iin_lit, iin_m1, tn_nI, tn_lit, nI_lm, nI_ml, nI_al, nI_la, nI_add, pk_mul, nI_le_l, nI_l_le, nI_lt_l, nI_l_lt, nI_eq_l, nI_l_eq, nI_eqP, nI_leP, nI_ltP, nI_m1, m1_nI, nI_ll, m1_l, l_m1]
    · subst ha
      dsimp only
      rw [eK.1, hG]
      have k100 : ¬ 100 ≤ K := by omega
      simp (disch := omega) only [fn_185_7, e34, k100, eq_self, Nat.le_refl, Nat.lt_irrefl, some_if, Option.bind_some, Option.bind_none, Option.some.injEq, ↓reduceIte, reduceCtorEq, Bool.false_eq_true, Bool.true_eq_false, not_true_eq_false, not_false_eq_true, cmb0, cmb1, Nat.reduceAdd, Nat.reduceMul, Nat.reduceSub, Nat.add_zero, Bool.not_eq_true, Bool.not_eq_false, Nat.reduceEqDiff, Nat.reduceLeDiff, Nat.reduceLT, Int32.reduceLT, Int32.reduceLE, iin_nI, iin_lit, iin_m1, tn_nI, tn_lit, nI_lm, nI_ml, nI_al, nI_la, nI_add, pk_mul, nI_le_l, nI_l_le, nI_lt_l, nI_l_lt, nI_eq_l, nI_l_eq, nI_eqP, nI_leP, nI_ltP, nI_m1, m1_nI, nI_ll, m1_l, l_m1]
  · refine up_0 (fun n (_ : Nat) (a : Int32 × Int32) => fn_291_82 n i3 i5 i6 a.1 a.2 w) K (fun k a => a = (nI (f k).1, nI (f k).2)) (fun o => o = fn_291_105 i3 i5 i6 (nI G) w) (nI x, nI y) (by omega) (by rw [s0]) (fun n k a hk ha => ?_) (fun n a ha => ?_)
    · subst ha
      dsimp only
      have bk := b k
      by_cases z : (f k).2 = 0
      · refine Or.inl ?_
        have e := le k hk z
        rw [e] at hG
        rw [hG]
        simp (disch := omega) only [fn_291_82, z, eq_self, Nat.le_refl, Nat.lt_irrefl, some_if, Option.bind_some, Option.bind_none, Option.some.injEq, ↓reduceIte, reduceCtorEq, Bool.false_eq_true, Bool.true_eq_false, not_true_eq_false, not_false_eq_true, cmb0, cmb1, Nat.reduceAdd, Nat.reduceMul, Nat.reduceSub, Nat.add_zero, Bool.not_eq_true, Bool.not_eq_false, Nat.reduceEqDiff, Nat.reduceLeDiff, Nat.reduceLT, Int32.reduceLT, Int32.reduceLE, iin_nI, iin_lit, iin_m1, tn_nI, tn_lit, nI_lm, nI_ml, nI_al, nI_la, nI_add, pk_mul, nI_le_l, nI_l_le, nI_lt_l, nI_l_lt, nI_eq_l, nI_l_eq, nI_eqP, nI_leP, nI_ltP, nI_m1, m1_nI, nI_ll, m1_l, l_m1]
      · refine Or.inr ⟨_, rfl, ?_⟩
        rw [stp k z]
        have z1 : ¬ (f k).2 ≤ 0 := by omega
        have r := rem_n (a := (f k).1) (b := (f k).2) (by omega) (by omega) (by omega)
        simp (disch := omega) only [fn_291_82, z, z1, r, eq_self, Nat.le_refl, Nat.lt_irrefl, some_if, Option.bind_some, Option.bind_none, Option.some.injEq, ↓reduceIte, reduceCtorEq, Bool.false_eq_true, Bool.true_eq_false, not_true_eq_false, not_false_eq_true, cmb0, cmb1, Nat.reduceAdd, Nat.reduceMul, Nat.reduceSub, Nat.add_zero, Bool.not_eq_true, Bool.not_eq_false, Nat.reduceEqDiff, Nat.reduceLeDiff, Nat.reduceLT, Int32.reduceLT, Int32.reduceLE, iin_nI, iin_lit, iin_m1, tn_nI, tn_lit, nI_lm, nI_ml, nI_al, nI_la, nI_add, pk_mul, nI_le_l, nI_l_le, nI_lt_l, nI_l_lt, nI_eq_l, nI_l_eq, nI_eqP, nI_leP, nI_ltP, nI_m1, m1_nI, nI_ll, m1_l, l_m1]
    · subst ha
      dsimp only
      rw [eK.1, hG]
      simp (disch := omega) only [fn_291_82, eq_self, Nat.le_refl, Nat.lt_irrefl, some_if, Option.bind_some, Option.bind_none, Option.some.injEq, ↓reduceIte, reduceCtorEq, Bool.false_eq_true, Bool.true_eq_false, not_true_eq_false, not_false_eq_true, cmb0, cmb1, Nat.reduceAdd, Nat.reduceMul, Nat.reduceSub, Nat.add_zero, Bool.not_eq_true, Bool.not_eq_false, Nat.reduceEqDiff, Nat.reduceLeDiff, Nat.reduceLT, Int32.reduceLT, Int32.reduceLE, iin_nI, iin_lit, iin_m1, tn_nI, tn_lit, nI_lm, nI_ml, nI_al, nI_la, nI_add, pk_mul, nI_le_l, nI_l_le, nI_lt_l, nI_l_lt, nI_eq_l, nI_l_eq, nI_eqP, nI_leP, nI_ltP, nI_m1, m1_nI, nI_ll, m1_l, l_m1]
end NAME
