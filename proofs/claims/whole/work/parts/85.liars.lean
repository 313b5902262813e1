/-! liars -/
def liS (M : Mk) (T : Nat) (x : Int32) (f : Nat → Nat) (n : Nat) : Nat := sgm (fun t => if exf T x t = true then f t else 0) n
def liA (M : Mk) (T : Nat) (x : Int32) (n : Nat) : Nat := liS M T x (fun t => M.D t * M.U t) n
def liB (M : Mk) (T : Nat) (x : Int32) (n : Nat) : Nat := liS M T x M.D n
def liOk (M : Mk) (T : Nat) (x th : Int32) : Nat → Bool
  | 0 => true
  | t + 1 => liOk M T x th t && (decide (M.D t = 0) || decide (t + 1 = T) || (bit x t != decide (th ≤ nI (M.U t))))
def liT (M : Mk) (T : Nat) (x : Int32) (d : Nat) : Int32 := nI (liA M T x M.n / liB M T x M.n) - nI d
def liC (M : Mk) (T : Nat) (d : Nat) (x : Int32) : Bool := liOk M T x (liT M T x d) M.n
def liM (M : Mk) (T : Nat) : Nat → Int32
  | 0 => 0
  | k + 1 => liM M T k ||| ((1 : Int32) <<< (nI (M.lst (exf T (liM M T k)) M.n - 1) &&& 31))
def liP (M : Mk) (T d : Nat) : Nat → Int32
  | 0 => -1
  | k + 1 => if liC M T d (liM M T k) then liM M T k else liP M T d k
section LIARS
variable {v c u n m l p q d : Nat} {w w' : cm_W} {s s' : St} {M : Mk}
theorem bit_or {x : Int32} {j t : Nat} (hj : j < 8) (ht : t < 8) : bit (x ||| ((1 : Int32) <<< (nI j &&& 31))) t = (bit x t || decide (t = j)) := by
  unfold bit
  rw [Int32.toBitVec_or, BitVec.getLsbD_or, bt2 hj ht]
theorem liB_pos (O : M.Ok) (T0 : M.top M.n ≠ 0) (x : Int32) : 0 < liB M (M.top M.n) x M.n := by
  rcases top_sp (M := M) M.n with ⟨h, -⟩ | ⟨-, t1, t2⟩
  · exact absurd h T0
  have tl := top_le (M := M) M.n
  refine sgm_pos M.n (M.top M.n - 1) (by omega) ?_
  show 0 < if exf (M.top M.n) x (M.top M.n - 1) = true then M.D (M.top M.n - 1) else 0
  rw [if_pos]
  · omega
  · unfold exf
    rw [decide_eq_true (by omega)]; rfl
theorem liB_le (hD : ∀ t, M.D t ≤ 99) (T : Nat) (x : Int32) (n : Nat) : liB M T x n ≤ 99 * n := sgm_bd _ _ fun t _ => by
  have := hD t
  show (if exf T x t = true then M.D t else 0) ≤ _
  split <;> omega
theorem liA_le (O : M.Ok) (hD : ∀ t, M.D t ≤ 99) (T : Nat) (x : Int32) (n : Nat) (hn : n ≤ M.n) : liA M T x n ≤ 98901 * n := sgm_bd _ _ fun t ht => by
  have h := hD t
  have h2 := (O.1 t (by omega)).2.1
  show (if exf T x t = true then M.D t * M.U t else 0) ≤ _
  split
  · exact Nat.mul_le_mul h (show M.U t ≤ 999 by omega)
  · omega
theorem c91 (L : Lay v c w) (K : SayC w M) (O : M.Ok) (hD : ∀ t, M.D t ≤ 99) (T0 : M.top M.n ≠ 0) (x : Int32) : fn_91 w 55 x = some (nI (liA M (M.top M.n) x M.n / liB M (M.top M.n) x M.n)) := by
  have hn := O.2.2.1
  have tl := top_le (M := M) M.n
  have et := K.2.2
  have a8 : liA M (M.top M.n) x 8 = liA M (M.top M.n) x M.n := sgm8 O fun k hk => by
    show (if exf (M.top M.n) x k = true then M.D k * M.U k else 0) = 0
    rw [O.D0 hk, Nat.zero_mul]; split <;> rfl
  have b8 : liB M (M.top M.n) x 8 = liB M (M.top M.n) x M.n := sgm8 O fun k hk => by rw [O.D0 hk]; split <;> rfl
  refine up_0 (fun n k (a : Int64 × Int64) => fn_91_8 w n 55 x a.1 a.2 (nI k)) 8 (fun k a => a = (lN (liB M (M.top M.n) x k), lN (liA M (M.top M.n) x k))) (fun o => o = _) ((0 : Int64), (0 : Int64)) (by omega) rfl (fun n k a hk ha => Or.inr ⟨_, rfl, ?_⟩) (fun n a ha => ?_)
  · subst ha
    dsimp only
    have hk' : ¬ 8 ≤ k := by omega
    have eq1 := enc_eq (k := k) (T := M.top M.n) (by omega) (by omega)
    have b6 := bt1 x (k := k) hk
    have e7 := K.1 k hk
    have hd := hD k
    have sA : liA M (M.top M.n) x (k + 1) = liA M (M.top M.n) x k + if exf (M.top M.n) x k = true then M.D k * M.U k else 0 := rfl
    have sB : liB M (M.top M.n) x (k + 1) = liB M (M.top M.n) x k + if exf (M.top M.n) x k = true then M.D k else 0 := rfl
    have add : fn_91_34 w (fn_91_8 w n) 55 x (lN (liB M (M.top M.n) x k)) (lN (liA M (M.top M.n) x k)) (nI k) = fn_91_8 w n 55 x (lN (liB M (M.top M.n) x k + M.D k)) (lN (liA M (M.top M.n) x k + M.D k * M.U k)) (nI (k + 1)) := by
      by_cases kn : k < M.n
      · have u := K.2.1 k kn
        have o := O.1 k kn
        simp (disch := omega) only [fn_91_34, fn_91_67, ↓LCb L, LC L, e7, u, nI_l, lN_mul, lN_add, eq_self, Nat.le_refl, Nat.lt_irrefl, some_if, Option.bind_some, Option.bind_none, Option.some.injEq, ↓reduceIte, reduceCtorEq, Bool.false_eq_true, Bool.true_eq_false, not_true_eq_false, not_false_eq_true, cmb0, cmb1, Nat.reduceAdd, Nat.reduceMul, Nat.reduceSub, Nat.add_zero, Bool.not_eq_true, Bool.not_eq_false, Nat.reduceEqDiff, Nat.reduceLeDiff, Nat.reduceLT, Int32.reduceLT, Int32.reduceLE, iin_nI, iin_lit, iin_m1, tn_nI, tn_lit, nI_lm, nI_ml, nI_al, nI_la, nI_add, pk_mul, nI_le_l, nI_l_le, nI_lt_l, nI_l_lt, nI_eq_l, nI_l_eq, nI_eqP, nI_leP, nI_ltP, nI_m1, m1_nI, nI_ll, m1_l, l_m1]
      · have d0 := O.D0 (t := k) (by omega)
        have l0 : ∀ x : Int64, lN 0 * x = 0 := fun x => Int64.zero_mul
        have l1 : (nI 0).toInt64 = lN 0 := rfl
        have l2 : ∀ x : Int64, x + lN 0 = x := fun x => Int64.add_zero x
        rw [d0] at e7 ⊢
        rw [Nat.zero_mul]
        simp (disch := omega) only [fn_91_34, fn_91_67, ↓LCb L, LC L, e7, l1, l0, l2, Int64.add_zero, eq_self, Nat.le_refl, Nat.lt_irrefl, some_if, Option.bind_some, Option.bind_none, Option.some.injEq, ↓reduceIte, reduceCtorEq, Bool.false_eq_true, Bool.true_eq_false, not_true_eq_false, not_false_eq_true, cmb0, cmb1, Nat.reduceAdd, Nat.reduceMul, Nat.reduceSub, Nat.add_zero, Bool.not_eq_true, Bool.not_eq_false, Nat.reduceEqDiff, Nat.reduceLeDiff, Nat.reduceLT, Int32.reduceLT, Int32.reduceLE, iin_nI, iin_lit, iin_m1, tn_nI, tn_lit, nI_lm, nI_ml, nI_al, nI_la, nI_add, pk_mul, nI_le_l, nI_l_le, nI_lt_l, nI_l_lt, nI_eq_l, nI_l_eq, nI_eqP, nI_leP, nI_ltP, nI_m1, m1_nI, nI_ll, m1_l, l_m1]
    rw [sA, sB]
    by_cases z1 : k + 1 = M.top M.n
    · have ee : exf (M.top M.n) x k = true := by unfold exf; rw [decide_eq_true z1]; rfl
      rw [if_pos ee, if_pos ee, ← add]
      simp (disch := omega) only [fn_91_8, hk', LC L, et, eq1, z1, eq_self, Nat.le_refl, Nat.lt_irrefl, some_if, Option.bind_some, Option.bind_none, Option.some.injEq, ↓reduceIte, reduceCtorEq, Bool.false_eq_true, Bool.true_eq_false, not_true_eq_false, not_false_eq_true, cmb0, cmb1, Nat.reduceAdd, Nat.reduceMul, Nat.reduceSub, Nat.add_zero, Bool.not_eq_true, Bool.not_eq_false, Nat.reduceEqDiff, Nat.reduceLeDiff, Nat.reduceLT, Int32.reduceLT, Int32.reduceLE, iin_nI, iin_lit, iin_m1, tn_nI, tn_lit, nI_lm, nI_ml, nI_al, nI_la, nI_add, pk_mul, nI_le_l, nI_l_le, nI_lt_l, nI_l_lt, nI_eq_l, nI_l_eq, nI_eqP, nI_leP, nI_ltP, nI_m1, m1_nI, nI_ll, m1_l, l_m1]
    · cases z2 : bit x k
      · have ee : ¬ exf (M.top M.n) x k = true := by unfold exf; rw [decide_eq_false z1, z2]; decide
        rw [if_neg ee, if_neg ee]
        unfold bit at z2
        rw [z2] at b6
        have b7 : ¬ ((x >>> (nI k &&& 31)) &&& (1 : Int32) = 1) := fun h => by have := b6.mp h; cases this
        simp (disch := omega) only [fn_91_8, fn_91_67, hk', LC L, et, eq1, z1, b7, eq_self, Nat.le_refl, Nat.lt_irrefl, some_if, Option.bind_some, Option.bind_none, Option.some.injEq, ↓reduceIte, reduceCtorEq, Bool.false_eq_true, Bool.true_eq_false, not_true_eq_false, not_false_eq_true, cmb0, cmb1, Nat.reduceAdd, Nat.reduceMul, Nat.reduceSub, Nat.add_zero, Bool.not_eq_true, Bool.not_eq_false, Nat.reduceEqDiff, Nat.reduceLeDiff, Nat.reduceLT, Int32.reduceLT, Int32.reduceLE, iin_nI, iin_lit, iin_m1, tn_nI, tn_lit, nI_lm, nI_ml, nI_al, nI_la, nI_add, pk_mul, nI_le_l, nI_l_le, nI_lt_l, nI_l_lt, nI_eq_l, nI_l_eq, nI_eqP, nI_leP, nI_ltP, nI_m1, m1_nI, nI_ll, m1_l, l_m1]
      · have ee : exf (M.top M.n) x k = true := by unfold exf; rw [z2, Bool.or_true]
        rw [if_pos ee, if_pos ee, ← add]
        unfold bit at z2
        have b7 := b6.mpr z2
        simp (disch := omega) only [fn_91_8, hk', LC L, et, eq1, z1, b7, eq_self, Nat.le_refl, Nat.lt_irrefl, some_if, Option.bind_some, Option.bind_none, Option.some.injEq, ↓reduceIte, reduceCtorEq, Bool.false_eq_true, Bool.true_eq_false, not_true_eq_false, not_false_eq_true, cmb0, cmb1, Nat.reduceAdd, Nat.reduceMul, Nat.reduceSub, Nat.add_zero, Bool.not_eq_true, Bool.not_eq_false, Nat.reduceEqDiff, Nat.reduceLeDiff, Nat.reduceLT, Int32.reduceLT, Int32.reduceLE, iin_nI, iin_lit, iin_m1, tn_nI, tn_lit, nI_lm, nI_ml, nI_al, nI_la, nI_add, pk_mul, nI_le_l, nI_l_le, nI_lt_l, nI_l_lt, nI_eq_l, nI_l_eq, nI_eqP, nI_leP, nI_ltP, nI_m1, m1_nI, nI_ll, m1_l, l_m1]
  · subst ha
    dsimp only
    rw [a8, b8]
    have bp := liB_pos O T0 x
    have bl := liB_le hD (M.top M.n) x M.n
    have al := liA_le O hD (M.top M.n) x M.n (Nat.le_refl _)
    have nz : ¬ liB M (M.top M.n) x M.n = 0 := by omega
    simp (disch := omega) only [fn_91_8, fn_91_73, lgc_le, lle0, leq0, nz, pk_lDiv, lN_i, eq_self, Nat.le_refl, Nat.lt_irrefl, some_if, Option.bind_some, Option.bind_none, Option.some.injEq, ↓reduceIte, reduceCtorEq, Bool.false_eq_true, Bool.true_eq_false, not_true_eq_false, not_false_eq_true, cmb0, cmb1, Nat.reduceAdd, Nat.reduceMul, Nat.reduceSub, Nat.add_zero, Bool.not_eq_true, Bool.not_eq_false, Nat.reduceEqDiff, Nat.reduceLeDiff, Nat.reduceLT, Int32.reduceLT, Int32.reduceLE, iin_nI, iin_lit, iin_m1, tn_nI, tn_lit, nI_lm, nI_ml, nI_al, nI_la, nI_add, pk_mul, nI_le_l, nI_l_le, nI_lt_l, nI_l_lt, nI_eq_l, nI_l_eq, nI_eqP, nI_leP, nI_ltP, nI_m1, m1_nI, nI_ll, m1_l, l_m1]
theorem liOk_ext (O : M.Ok) (T : Nat) (x th : Int32) : liOk M T x th 8 = liOk M T x th M.n := by
  have : ∀ k, liOk M T x th (M.n + k) = liOk M T x th M.n := by
    intro k
    induction k with
    | zero => rfl
    | succ k ih =>
      show (liOk M T x th (M.n + k) && _) = _
      rw [ih, O.D0 (t := M.n.add k) (Nat.le_add_right _ _)]
      simp
  have h := this (8 - M.n)
  rw [show M.n + (8 - M.n) = 8 by have := O.2.2.1; omega] at h
  exact h
theorem c92 (L : Lay v c w) (K : SayC w M) (O : M.Ok) (hD : ∀ t, M.D t ≤ 99) (T0 : M.top M.n ≠ 0) (x : Int32) : fn_92 w 55 x (nI d) = some (liC M (M.top M.n) d x) := by
  have hn := O.2.2.1
  have tl := top_le (M := M) M.n
  have et := K.2.2
  have e0 : fn_92 w 55 x (nI d) = fn_92_11 w cm_N 55 x (liT M (M.top M.n) x d) 0 := by
    unfold liT
    simp (disch := omega) only [fn_92, LC L, c91 L K O hD T0 x, eq_self, Nat.le_refl, Nat.lt_irrefl, some_if, Option.bind_some, Option.bind_none, Option.some.injEq, ↓reduceIte, reduceCtorEq, Bool.false_eq_true, Bool.true_eq_false, not_true_eq_false, not_false_eq_true, cmb0, cmb1, Nat.reduceAdd, Nat.reduceMul, Nat.reduceSub, Nat.add_zero, Bool.not_eq_true, Bool.not_eq_false, Nat.reduceEqDiff, Nat.reduceLeDiff, Nat.reduceLT, Int32.reduceLT, Int32.reduceLE, iin_nI, iin_lit, iin_m1, tn_nI, tn_lit, nI_lm, nI_ml, nI_al, nI_la, nI_add, pk_mul, nI_le_l, nI_l_le, nI_lt_l, nI_l_lt, nI_eq_l, nI_l_eq, nI_eqP, nI_leP, nI_ltP, nI_m1, m1_nI, nI_ll, m1_l, l_m1]
  rw [e0]
  unfold liC
  generalize liT M (M.top M.n) x d = th
  rw [← liOk_ext O]
  -- once bad, bad
  have bad : ∀ j k, liOk M (M.top M.n) x th k = false → liOk M (M.top M.n) x th (k + j) = false := by
    intro j
    induction j with
    | zero => intro k h; exact h
    | succ j ih => intro k h; show (liOk M (M.top M.n) x th (k + j) && _) = false; rw [ih k h, Bool.false_and]
  refine up_0 (fun n k (a : Unit) => fn_92_11 w n 55 x th (nI k)) 8 (fun k _ => liOk M (M.top M.n) x th k = true) (fun o => o = some (liOk M (M.top M.n) x th 8)) () (by omega) rfl (fun n k a hk ha => ?_) (fun n a ha => ?_)
  · have hk' : ¬ 8 ≤ k := by omega
    have eq1 := enc_eq (k := k) (T := M.top M.n) (by omega) (by omega)
    have b6 := bt1 x (k := k) hk
    have e7 := K.1 k hk
    have hd := hD k
    have st : liOk M (M.top M.n) x th (k + 1) = (liOk M (M.top M.n) x th k && (decide (M.D k = 0) || decide (k + 1 = M.top M.n) || (bit x k != decide (th ≤ nI (M.U k))))) := rfl
    rw [ha, Bool.true_and] at st
    have b7 : ((x >>> (nI k &&& 31)) &&& (1 : Int32) = 1) = (bit x k = true) := propext b6
    by_cases d0 : M.D k = 0
    · rw [decide_eq_true d0, Bool.true_or, Bool.true_or] at st
      refine Or.inr ⟨(), st, ?_⟩
      cases z : bit x k <;> simp (disch := omega) only [fn_92_11, fn_92_32, fn_92_77, hk', ↓LCb L, LC L, b7, z, e7, d0, eq_self, Nat.le_refl, Nat.lt_irrefl, some_if, Option.bind_some, Option.bind_none, Option.some.injEq, ↓reduceIte, reduceCtorEq, Bool.false_eq_true, Bool.true_eq_false, not_true_eq_false, not_false_eq_true, cmb0, cmb1, Nat.reduceAdd, Nat.reduceMul, Nat.reduceSub, Nat.add_zero, Bool.not_eq_true, Bool.not_eq_false, Nat.reduceEqDiff, Nat.reduceLeDiff, Nat.reduceLT, Int32.reduceLT, Int32.reduceLE, iin_nI, iin_lit, iin_m1, tn_nI, tn_lit, nI_lm, nI_ml, nI_al, nI_la, nI_add, pk_mul, nI_le_l, nI_l_le, nI_lt_l, nI_l_lt, nI_eq_l, nI_l_eq, nI_eqP, nI_leP, nI_ltP, nI_m1, m1_nI, nI_ll, m1_l, l_m1]
    have dp : ¬ M.D k ≤ 0 := by omega
    by_cases z1 : k + 1 = M.top M.n
    · rw [decide_eq_true z1, Bool.or_true, Bool.true_or] at st
      refine Or.inr ⟨(), st, ?_⟩
      cases z : bit x k <;> simp (disch := omega) only [fn_92_11, fn_92_32, fn_92_77, hk', ↓LCb L, LC L, b7, z, e7, dp, et, eq1, z1, eq_self, Nat.le_refl, Nat.lt_irrefl, some_if, Option.bind_some, Option.bind_none, Option.some.injEq, ↓reduceIte, reduceCtorEq, Bool.false_eq_true, Bool.true_eq_false, not_true_eq_false, not_false_eq_true, cmb0, cmb1, Nat.reduceAdd, Nat.reduceMul, Nat.reduceSub, Nat.add_zero, Bool.not_eq_true, Bool.not_eq_false, Nat.reduceEqDiff, Nat.reduceLeDiff, Nat.reduceLT, Int32.reduceLT, Int32.reduceLE, iin_nI, iin_lit, iin_m1, tn_nI, tn_lit, nI_lm, nI_ml, nI_al, nI_la, nI_add, pk_mul, nI_le_l, nI_l_le, nI_lt_l, nI_l_lt, nI_eq_l, nI_l_eq, nI_eqP, nI_leP, nI_ltP, nI_m1, m1_nI, nI_ll, m1_l, l_m1]
    have kn : k < M.n := by
      rcases Nat.lt_or_ge k M.n with h | h
      · exact h
      · exact absurd (O.D0 h) d0
    have u := K.2.1 k kn
    rw [decide_eq_false d0, decide_eq_false z1, Bool.false_or, Bool.false_or] at st
    have e8 : liOk M (M.top M.n) x th (k + 1) = false → liOk M (M.top M.n) x th 8 = false := fun h => by
      have := bad (8 - (k + 1)) (k + 1) h
      rw [show k + 1 + (8 - (k + 1)) = 8 by omega] at this
      exact this
    cases z : bit x k <;> by_cases t : th ≤ nI (M.U k)
    · rw [z, decide_eq_true t] at st
      refine Or.inr ⟨(), st, ?_⟩
      simp (disch := omega) only [fn_92_11, fn_92_32, fn_92_77, hk', ↓LCb L, LC L, b7, z, e7, dp, et, eq1, z1, u, t, eq_self, Nat.le_refl, Nat.lt_irrefl, some_if, Option.bind_some, Option.bind_none, Option.some.injEq, ↓reduceIte, reduceCtorEq, Bool.false_eq_true, Bool.true_eq_false, not_true_eq_false, not_false_eq_true, cmb0, cmb1, Nat.reduceAdd, Nat.reduceMul, Nat.reduceSub, Nat.add_zero, Bool.not_eq_true, Bool.not_eq_false, Nat.reduceEqDiff, Nat.reduceLeDiff, Nat.reduceLT, Int32.reduceLT, Int32.reduceLE, iin_nI, iin_lit, iin_m1, tn_nI, tn_lit, nI_lm, nI_ml, nI_al, nI_la, nI_add, pk_mul, nI_le_l, nI_l_le, nI_lt_l, nI_l_lt, nI_eq_l, nI_l_eq, nI_eqP, nI_leP, nI_ltP, nI_m1, m1_nI, nI_ll, m1_l, l_m1]
    · rw [z, decide_eq_false t] at st
      refine Or.inl ?_
      show fn_92_11 w (n + 1) 55 x th (nI k) = _
      rw [e8 st]
      simp (disch := omega) only [fn_92_11, fn_92_32, fn_92_77, hk', ↓LCb L, LC L, b7, z, e7, dp, et, eq1, z1, u, t, eq_self, Nat.le_refl, Nat.lt_irrefl, some_if, Option.bind_some, Option.bind_none, Option.some.injEq, ↓reduceIte, reduceCtorEq, Bool.false_eq_true, Bool.true_eq_false, not_true_eq_false, not_false_eq_true, cmb0, cmb1, Nat.reduceAdd, Nat.reduceMul, Nat.reduceSub, Nat.add_zero, Bool.not_eq_true, Bool.not_eq_false, Nat.reduceEqDiff, Nat.reduceLeDiff, Nat.reduceLT, Int32.reduceLT, Int32.reduceLE, iin_nI, iin_lit, iin_m1, tn_nI, tn_lit, nI_lm, nI_ml, nI_al, nI_la, nI_add, pk_mul, nI_le_l, nI_l_le, nI_lt_l, nI_l_lt, nI_eq_l, nI_l_eq, nI_eqP, nI_leP, nI_ltP, nI_m1, m1_nI, nI_ll, m1_l, l_m1]
    · rw [z, decide_eq_true t] at st
      refine Or.inl ?_
      show fn_92_11 w (n + 1) 55 x th (nI k) = _
      rw [e8 st]
      simp (disch := omega) only [fn_92_11, fn_92_32, fn_92_77, hk', ↓LCb L, LC L, b7, z, e7, dp, et, eq1, z1, u, t, eq_self, Nat.le_refl, Nat.lt_irrefl, some_if, Option.bind_some, Option.bind_none, Option.some.injEq, ↓reduceIte, reduceCtorEq, Bool.false_eq_true, Bool.true_eq_false, not_true_eq_false, not_false_eq_true, cmb0, cmb1, Nat.reduceAdd, Nat.reduceMul, Nat.reduceSub, Nat.add_zero, Bool.not_eq_true, Bool.not_eq_false, Nat.reduceEqDiff, Nat.reduceLeDiff, Nat.reduceLT, Int32.reduceLT, Int32.reduceLE, iin_nI, iin_lit, iin_m1, tn_nI, tn_lit, nI_lm, nI_ml, nI_al, nI_la, nI_add, pk_mul, nI_le_l, nI_l_le, nI_lt_l, nI_l_lt, nI_eq_l, nI_l_eq, nI_eqP, nI_leP, nI_ltP, nI_m1, m1_nI, nI_ll, m1_l, l_m1]
    · rw [z, decide_eq_false t] at st
      refine Or.inr ⟨(), st, ?_⟩
      simp (disch := omega) only [fn_92_11, fn_92_32, fn_92_77, hk', ↓LCb L, LC L, b7, z, e7, dp, et, eq1, z1, u, t, eq_self, Nat.le_refl, Nat.lt_irrefl, some_if, Option.bind_some, Option.bind_none, Option.some.injEq, ↓reduceIte, reduceCtorEq, Bool.false_eq_true, Bool.true_eq_false, not_true_eq_false, not_false_eq_true, cmb0, cmb1, Nat.reduceAdd, Nat.reduceMul, Nat.reduceSub, Nat.add_zero, Bool.not_eq_true, Bool.not_eq_false, Nat.reduceEqDiff, Nat.reduceLeDiff, Nat.reduceLT, Int32.reduceLT, Int32.reduceLE, iin_nI, iin_lit, iin_m1, tn_nI, tn_lit, nI_lm, nI_ml, nI_al, nI_la, nI_add, pk_mul, nI_le_l, nI_l_le, nI_lt_l, nI_l_lt, nI_eq_l, nI_l_eq, nI_eqP, nI_leP, nI_ltP, nI_m1, m1_nI, nI_ll, m1_l, l_m1]
  · show fn_92_11 w (n + 1) 55 x th (nI 8) = _
    rw [ha]
    simp (disch := omega) only [fn_92_11, eq_self, Nat.le_refl, Nat.lt_irrefl, some_if, Option.bind_some, Option.bind_none, Option.some.injEq, ↓reduceIte, reduceCtorEq, Bool.false_eq_true, Bool.true_eq_false, not_true_eq_false, not_false_eq_true, cmb0, cmb1, Nat.reduceAdd, Nat.reduceMul, Nat.reduceSub, Nat.add_zero, Bool.not_eq_true, Bool.not_eq_false, Nat.reduceEqDiff, Nat.reduceLeDiff, Nat.reduceLT, Int32.reduceLT, Int32.reduceLE, iin_nI, iin_lit, iin_m1, tn_nI, tn_lit, nI_lm, nI_ml, nI_al, nI_la, nI_add, pk_mul, nI_le_l, nI_l_le, nI_lt_l, nI_l_lt, nI_eq_l, nI_l_eq, nI_eqP, nI_leP, nI_ltP, nI_m1, m1_nI, nI_ll, m1_l, l_m1]
end LIARS
