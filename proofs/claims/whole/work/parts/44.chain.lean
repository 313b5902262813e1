/-! boxes in boxes: the outermost, whose hands, what lies within -/
def tn (x : Int32) : Nat := x.toNatClampNeg
def outN (s : St) : Nat → Nat → Nat
  | 0, b => b
  | n + 1, b => if s 117 b = -1 then b else outN s n (tn (s 117 b))
def ob (s : St) (b : Nat) : Nat := outN s 40 b
def ho (s : St) (b : Nat) : Int32 := s 116 (ob s b)
def wiN (s : St) : Nat → Nat → Nat → Bool
  | 0, b, o => decide (b = o)
  | n + 1, b, o => if b = o then true else if s 117 b = -1 then false else wiN s n (tn (s 117 b)) o
def wi (s : St) (b o : Nat) : Bool := wiN s 40 b o
theorem fup_cnt_le {p : Nat → Prop} [DecidablePred p] (n : Nat) : fup (fun b a => if p b then a else a + 1) 0 n ≤ n := fup_inv (fun k a => a ≤ k) (Nat.le_refl 0) n fun k x _ h => by
  by_cases hp : p k
  · rw [if_pos hp]; omega
  · rw [if_neg hp]; omega
theorem fup_cnt_le2 {p : Nat → Prop} [DecidablePred p] (n : Nat) : fup (fun b a => if p b then a + 1 else a) 0 n ≤ n := fup_inv (fun k a => a ≤ k) (Nat.le_refl 0) n fun k x _ h => by
  by_cases hp : p k
  · rw [if_pos hp]; omega
  · rw [if_neg hp]; omega
theorem fup_cnt_lt {p : Nat → Prop} [DecidablePred p] (n b : Nat) (hb : b < n) (hp : p b) : fup (fun b a => if p b then a else a + 1) 0 n < n := by
  have := fup_inv (f := fun b a => if p b then a else a + 1) (a := 0) (fun k a => a ≤ k ∧ (b < k → a < k)) ⟨Nat.le_refl 0, fun h => absurd h (by omega)⟩ n fun k x _ h => by
    show (if p k then x else x + 1) ≤ k + 1 ∧ (b < k + 1 → (if p k then x else x + 1) < k + 1)
    by_cases hpk : p k
    · rw [if_pos hpk]; exact ⟨by omega, fun _ => by omega⟩
    · rw [if_neg hpk]
      refine ⟨by omega, fun h1 => ?_⟩
      have : b ≠ k := fun e => hpk (e ▸ hp)
      have := h.2 (by omega)
      omega
  exact this.2 hb
section CHAIN
variable {v c u : Nat} {w : cm_W} {s : St}
/-- one step outward -/
theorem in_cs (I : InvS s) {b : Nat} (hb : b < nB s) : s 117 b = -1 ∨ ∃ e, e < nB s ∧ s 117 b = nI e ∧ tn (nI e) = e := by
  have hB := I.2.1
  rcases (I.2.2.2.2.2.1 b hb).2.2.2.1 with h | ⟨e, he, h⟩
  · exact Or.inl h
  · exact Or.inr ⟨e, he, h, nI_clamp (by omega)⟩
/-- a measure of depth, below 40 -/
theorem dep (I : InvS s) : ∃ d : Nat → Nat, ∀ b, b < nB s → d b < 40 ∧ ∀ e, e < nB s → s 117 b = nI e → d e < d b := by
  have hB := I.2.1
  obtain ⟨d, hd⟩ := I.2.2.2.2.2.2.1
  -- an outermost box is there
  have h1 : ∀ n b, b < nB s → d b ≤ n → ∃ o, o < nB s ∧ s 117 o = -1 := by
    intro n
    induction n with
    | zero =>
      intro b hb h0
      rcases in_cs I hb with h | ⟨e, he, h, -⟩
      · exact ⟨b, hb, h⟩
      · have := (hd b hb).2 e he h; omega
    | succ n ih =>
      intro b hb h0
      rcases in_cs I hb with h | ⟨e, he, h, -⟩
      · exact ⟨b, hb, h⟩
      · have := (hd b hb).2 e he h
        exact ih e he (by omega)
  refine ⟨d, fun b hb => ⟨?_, (hd b hb).2⟩⟩
  obtain ⟨o, ho, h⟩ := h1 (d b) b hb (Nat.le_refl _)
  have h2 : nIn s < nB s := fup_cnt_lt (p := fun b => s 117 b = -1) (nB s) o ho h
  have := (hd b hb).1
  omega
theorem outN_ok (I : InvS s) {d : Nat → Nat} (hd : ∀ b, b < nB s → d b < 40 ∧ ∀ e, e < nB s → s 117 b = nI e → d e < d b) : ∀ n b, b < nB s → d b ≤ n → outN s n b < nB s ∧ s 117 (outN s n b) = -1 := by
  intro n
  induction n with
  | zero =>
    intro b hb h0
    rcases in_cs I hb with h | ⟨e, he, h, -⟩
    · exact ⟨hb, h⟩
    · have := (hd b hb).2 e he h; omega
  | succ n ih =>
    intro b hb h0
    unfold outN
    rcases in_cs I hb with h | ⟨e, he, h, h2⟩
    · rw [if_pos h]; exact ⟨hb, h⟩
    · have := (hd b hb).2 e he h
      have hB := I.2.1
      rw [h, h2, if_neg (by rw [nI_m1 (by omega)]; exact id)]
      exact ih e he (by omega)
theorem ob_lt (I : InvS s) {b : Nat} (hb : b < nB s) : ob s b < nB s := by
  obtain ⟨d, hd⟩ := dep I
  exact (outN_ok I hd 40 b hb (by have := (hd b hb).1; omega)).1
theorem ob_top (I : InvS s) {b : Nat} (hb : b < nB s) : s 117 (ob s b) = -1 := by
  obtain ⟨d, hd⟩ := dep I
  exact (outN_ok I hd 40 b hb (by have := (hd b hb).1; omega)).2
theorem ob_self {b : Nat} (h : s 117 b = -1) : ob s b = b := by
  unfold ob outN
  rw [if_pos h]
theorem ho_rg (I : InvS s) {b : Nat} (hb : b < nB s) : rg (ho s b) (nP s) := (I.2.2.2.2.2.1 _ (ob_lt I hb)).2.2.1
theorem m230 (L : Lay v c w) (M : RelM w s) (I : InvS s) {b : Nat} (hb : b < nB s) : fn_230 w 96 (nI b) = some (nI (ob s b)) := by
  have hB := I.2.1
  obtain ⟨d, hd⟩ := dep I
  have key : ∀ n b m, b < nB s → d b ≤ n → n < m → fn_230_2 w m 96 (nI b) = some (nI (outN s n b)) := by
    intro n
    induction n with
    | zero =>
      intro b m hb h0 hm
      obtain ⟨m, rfl⟩ : ∃ k, m = k + 1 := ⟨m - 1, by omega⟩
      rcases in_cs I hb with h | ⟨e, he, h, -⟩
      · simp (disch := omega) only [fn_230_2, LM L, RM M, h, some_if, Option.bind_some, Option.bind_none, Option.some.injEq, ↓reduceIte, reduceCtorEq, Bool.false_eq_true, Bool.true_eq_false, not_true_eq_false, not_false_eq_true, cmb0, cmb1, Nat.reduceAdd, Nat.reduceMul, Nat.reduceSub, Nat.add_zero, Bool.not_eq_true, Bool.not_eq_false, Nat.reduceEqDiff, Nat.reduceLeDiff, Nat.reduceLT, Int32.reduceLT, Int32.reduceLE, iin_nI, iin_lit, iin_m1, tn_nI, tn_lit, nI_lm, nI_ml, nI_al, nI_la, nI_add, pk_mul, nI_le_l, nI_l_le, nI_lt_l, nI_l_lt, nI_eq_l, nI_l_eq, nI_eqP, nI_leP, nI_ltP, nI_m1, m1_nI, nI_ll, m1_l, l_m1]
        rfl
      · have := (hd b hb).2 e he h; omega
    | succ n ih =>
      intro b m hb h0 hm
      obtain ⟨m, rfl⟩ : ∃ k, m = k + 1 := ⟨m - 1, by omega⟩
      unfold outN
      rcases in_cs I hb with h | ⟨e, he, h, h2⟩
      · simp (disch := omega) only [fn_230_2, LM L, RM M, h, some_if, Option.bind_some, Option.bind_none, Option.some.injEq, ↓reduceIte, reduceCtorEq, Bool.false_eq_true, Bool.true_eq_false, not_true_eq_false, not_false_eq_true, cmb0, cmb1, Nat.reduceAdd, Nat.reduceMul, Nat.reduceSub, Nat.add_zero, Bool.not_eq_true, Bool.not_eq_false, Nat.reduceEqDiff, Nat.reduceLeDiff, Nat.reduceLT, Int32.reduceLT, Int32.reduceLE, iin_nI, iin_lit, iin_m1, tn_nI, tn_lit, nI_lm, nI_ml, nI_al, nI_la, nI_add, pk_mul, nI_le_l, nI_l_le, nI_lt_l, nI_l_lt, nI_eq_l, nI_l_eq, nI_eqP, nI_leP, nI_ltP, nI_m1, m1_nI, nI_ll, m1_l, l_m1]
      · have := (hd b hb).2 e he h
        simp (disch := omega) only [fn_230_2, LM L, RM M, h2, h, some_if, Option.bind_some, Option.bind_none, Option.some.injEq, ↓reduceIte, reduceCtorEq, Bool.false_eq_true, Bool.true_eq_false, not_true_eq_false, not_false_eq_true, cmb0, cmb1, Nat.reduceAdd, Nat.reduceMul, Nat.reduceSub, Nat.add_zero, Bool.not_eq_true, Bool.not_eq_false, Nat.reduceEqDiff, Nat.reduceLeDiff, Nat.reduceLT, Int32.reduceLT, Int32.reduceLE, iin_nI, iin_lit, iin_m1, tn_nI, tn_lit, nI_lm, nI_ml, nI_al, nI_la, nI_add, pk_mul, nI_le_l, nI_l_le, nI_lt_l, nI_l_lt, nI_eq_l, nI_l_eq, nI_eqP, nI_leP, nI_ltP, nI_m1, m1_nI, nI_ll, m1_l, l_m1]
        exact ih e m he (by omega) (by omega)
  exact key 40 b cm_N hb (by have := (hd b hb).1; omega) (by unfold cm_N; omega)
theorem m231 (L : Lay v c w) (M : RelM w s) (I : InvS s) {b : Nat} (hb : b < nB s) : fn_231 w 96 (nI b) = some (ho s b) := by
  have hB := I.2.1
  have := ob_lt I hb
  unfold fn_231 ho
  simp (disch := omega) only [LM L, RM M, m230 L M I hb, some_if, Option.bind_some, Option.bind_none, Option.some.injEq, ↓reduceIte, reduceCtorEq, Bool.false_eq_true, Bool.true_eq_false, not_true_eq_false, not_false_eq_true, cmb0, cmb1, Nat.reduceAdd, Nat.reduceMul, Nat.reduceSub, Nat.add_zero, Bool.not_eq_true, Bool.not_eq_false, Nat.reduceEqDiff, Nat.reduceLeDiff, Nat.reduceLT, Int32.reduceLT, Int32.reduceLE, iin_nI, iin_lit, iin_m1, tn_nI, tn_lit, nI_lm, nI_ml, nI_al, nI_la, nI_add, pk_mul, nI_le_l, nI_l_le, nI_lt_l, nI_l_lt, nI_eq_l, nI_l_eq, nI_eqP, nI_leP, nI_ltP, nI_m1, m1_nI, nI_ll, m1_l, l_m1]
theorem c16 (L : Lay v c w) (V : StC w 30 s) (I : InvS s) {b : Nat} (hb : b < nB s) : fn_16 w 30 (nI b) = some (nI (ob s b)) := by
  have hB := I.2.1
  obtain ⟨d, hd⟩ := dep I
  have key : ∀ n b m k, b < nB s → d b ≤ n → n < m → k + n = 40 → fn_16_4 w m 30 (nI b) (nI k) = some (nI (outN s n b)) := by
    intro n
    induction n with
    | zero =>
      intro b m k hb h0 hm hk
      obtain ⟨m, rfl⟩ : ∃ k, m = k + 1 := ⟨m - 1, by omega⟩
      simp (disch := omega) only [fn_16_4, some_if, Option.bind_some, Option.bind_none, Option.some.injEq, ↓reduceIte, reduceCtorEq, Bool.false_eq_true, Bool.true_eq_false, not_true_eq_false, not_false_eq_true, cmb0, cmb1, Nat.reduceAdd, Nat.reduceMul, Nat.reduceSub, Nat.add_zero, Bool.not_eq_true, Bool.not_eq_false, Nat.reduceEqDiff, Nat.reduceLeDiff, Nat.reduceLT, Int32.reduceLT, Int32.reduceLE, iin_nI, iin_lit, iin_m1, tn_nI, tn_lit, nI_lm, nI_ml, nI_al, nI_la, nI_add, pk_mul, nI_le_l, nI_l_le, nI_lt_l, nI_l_lt, nI_eq_l, nI_l_eq, nI_eqP, nI_leP, nI_ltP, nI_m1, m1_nI, nI_ll, m1_l, l_m1]
      rw [if_pos (by omega)]; rfl
    | succ n ih =>
      intro b m k hb h0 hm hk
      obtain ⟨m, rfl⟩ : ∃ k, m = k + 1 := ⟨m - 1, by omega⟩
      unfold outN
      rcases in_cs I hb with h | ⟨e, he, h, h2⟩
      · simp (disch := omega) only [fn_16_4, LSt L, getB L V I hb, h, some_if, Option.bind_some, Option.bind_none, Option.some.injEq, ↓reduceIte, reduceCtorEq, Bool.false_eq_true, Bool.true_eq_false, not_true_eq_false, not_false_eq_true, cmb0, cmb1, Nat.reduceAdd, Nat.reduceMul, Nat.reduceSub, Nat.add_zero, Bool.not_eq_true, Bool.not_eq_false, Nat.reduceEqDiff, Nat.reduceLeDiff, Nat.reduceLT, Int32.reduceLT, Int32.reduceLE, iin_nI, iin_lit, iin_m1, tn_nI, tn_lit, nI_lm, nI_ml, nI_al, nI_la, nI_add, pk_mul, nI_le_l, nI_l_le, nI_lt_l, nI_l_lt, nI_eq_l, nI_l_eq, nI_eqP, nI_leP, nI_ltP, nI_m1, m1_nI, nI_ll, m1_l, l_m1]
        rw [if_neg (by omega)]
      · have := (hd b hb).2 e he h
        simp (disch := omega) only [fn_16_4, LSt L, getB L V I hb, h2, h, some_if, Option.bind_some, Option.bind_none, Option.some.injEq, ↓reduceIte, reduceCtorEq, Bool.false_eq_true, Bool.true_eq_false, not_true_eq_false, not_false_eq_true, cmb0, cmb1, Nat.reduceAdd, Nat.reduceMul, Nat.reduceSub, Nat.add_zero, Bool.not_eq_true, Bool.not_eq_false, Nat.reduceEqDiff, Nat.reduceLeDiff, Nat.reduceLT, Int32.reduceLT, Int32.reduceLE, iin_nI, iin_lit, iin_m1, tn_nI, tn_lit, nI_lm, nI_ml, nI_al, nI_la, nI_add, pk_mul, nI_le_l, nI_l_le, nI_lt_l, nI_l_lt, nI_eq_l, nI_l_eq, nI_eqP, nI_leP, nI_ltP, nI_m1, m1_nI, nI_ll, m1_l, l_m1]
        rw [if_neg (by omega)]
        exact ih e m (k + 1) he (by omega) (by omega) (by omega)
  exact key 40 b cm_N 0 hb (by have := (hd b hb).1; omega) (by unfold cm_N; omega) rfl
theorem c17 (L : Lay v c w) (V : StC w 30 s) (I : InvS s) {b : Nat} (hb : b < nB s) : fn_17 w 30 (nI b) = some (ho s b) := by
  have := ob_lt I hb
  unfold fn_17 ho
  simp (disch := omega) only [LSt L, c16 L V I hb, getB L V I (ob_lt I hb), some_if, Option.bind_some, Option.bind_none, Option.some.injEq, ↓reduceIte, reduceCtorEq, Bool.false_eq_true, Bool.true_eq_false, not_true_eq_false, not_false_eq_true, cmb0, cmb1, Nat.reduceAdd, Nat.reduceMul, Nat.reduceSub, Nat.add_zero, Bool.not_eq_true, Bool.not_eq_false, Nat.reduceEqDiff, Nat.reduceLeDiff, Nat.reduceLT, Int32.reduceLT, Int32.reduceLE, iin_nI, iin_lit, iin_m1, tn_nI, tn_lit, nI_lm, nI_ml, nI_al, nI_la, nI_add, pk_mul, nI_le_l, nI_l_le, nI_lt_l, nI_l_lt, nI_eq_l, nI_l_eq, nI_eqP, nI_leP, nI_ltP, nI_m1, m1_nI, nI_ll, m1_l, l_m1]
theorem c17o (L : Lay v c w) (V : StC w 30 s) (I : InvS s) {i : Int32} (hi : cm_iin i (nB s) = false) : fn_17 w 30 i = some (-1) := by
  have h1 : ∀ m, fn_16_4 w (m + 1) 30 i 0 = some i := by
    intro m
    rw [fn_16_4]
    simp (disch := omega) only [LSt L, getBo L V I hi, some_if, Option.bind_some, Option.bind_none, Option.some.injEq, ↓reduceIte, reduceCtorEq, Bool.false_eq_true, Bool.true_eq_false, not_true_eq_false, not_false_eq_true, cmb0, cmb1, Nat.reduceAdd, Nat.reduceMul, Nat.reduceSub, Nat.add_zero, Bool.not_eq_true, Bool.not_eq_false, Nat.reduceEqDiff, Nat.reduceLeDiff, Nat.reduceLT, Int32.reduceLT, Int32.reduceLE, iin_nI, iin_lit, iin_m1, tn_nI, tn_lit, nI_lm, nI_ml, nI_al, nI_la, nI_add, pk_mul, nI_le_l, nI_l_le, nI_lt_l, nI_l_lt, nI_eq_l, nI_l_eq, nI_eqP, nI_leP, nI_ltP, nI_m1, m1_nI, nI_ll, m1_l, l_m1]
  have h0 : fn_16 w 30 i = some i := h1 99999
  unfold fn_17
  simp (disch := omega) only [LSt L, h0, getBo L V I hi, some_if, Option.bind_some, Option.bind_none, Option.some.injEq, ↓reduceIte, reduceCtorEq, Bool.false_eq_true, Bool.true_eq_false, not_true_eq_false, not_false_eq_true, cmb0, cmb1, Nat.reduceAdd, Nat.reduceMul, Nat.reduceSub, Nat.add_zero, Bool.not_eq_true, Bool.not_eq_false, Nat.reduceEqDiff, Nat.reduceLeDiff, Nat.reduceLT, Int32.reduceLT, Int32.reduceLE, iin_nI, iin_lit, iin_m1, tn_nI, tn_lit, nI_lm, nI_ml, nI_al, nI_la, nI_add, pk_mul, nI_le_l, nI_l_le, nI_lt_l, nI_l_lt, nI_eq_l, nI_l_eq, nI_eqP, nI_leP, nI_ltP, nI_m1, m1_nI, nI_ll, m1_l, l_m1]
theorem wi_c (L : Lay v c w) (V : StC w 30 s) (I : InvS s) {b o : Nat} (hb : b < nB s) (ho : o < nB s) : fn_115 w 30 (nI b) (nI o) = some (wi s b o) := by
  have hB := I.2.1
  obtain ⟨d, hd⟩ := dep I
  have out : ∀ m k, k ≤ 40 → fn_115_5 w (m + 1) 30 (nI o) (-1) (nI k) = some false := by
    intro m k hk
    simp (disch := omega) only [fn_115_5, fn_115_38, LSt L, some_if, Option.bind_some, Option.bind_none, Option.some.injEq, ↓reduceIte, reduceCtorEq, Bool.false_eq_true, Bool.true_eq_false, not_true_eq_false, not_false_eq_true, cmb0, cmb1, Nat.reduceAdd, Nat.reduceMul, Nat.reduceSub, Nat.add_zero, Bool.not_eq_true, Bool.not_eq_false, Nat.reduceEqDiff, Nat.reduceLeDiff, Nat.reduceLT, Int32.reduceLT, Int32.reduceLE, iin_nI, iin_lit, iin_m1, tn_nI, tn_lit, nI_lm, nI_ml, nI_al, nI_la, nI_add, pk_mul, nI_le_l, nI_l_le, nI_lt_l, nI_l_lt, nI_eq_l, nI_l_eq, nI_eqP, nI_leP, nI_ltP, nI_m1, m1_nI, nI_ll, m1_l, l_m1]
    by_cases h : 40 ≤ k
    · rw [if_pos h]
    · rw [if_neg h]
  have key : ∀ n b m k, b < nB s → d b < n → n < m → k + n = 40 → fn_115_5 w m 30 (nI o) (nI b) (nI k) = some (wiN s n b o) := by
    intro n
    induction n with
    | zero => intro b m k hb h0; omega
    | succ n ih =>
      intro b m k hb h0 hm hk
      obtain ⟨m, rfl⟩ : ∃ k, m = k + 1 := ⟨m - 1, by omega⟩
      unfold wiN
      by_cases hbo : b = o
      · subst hbo
        simp (disch := omega) only [fn_115_5, fn_115_38, some_if, Option.bind_some, Option.bind_none, Option.some.injEq, ↓reduceIte, reduceCtorEq, Bool.false_eq_true, Bool.true_eq_false, not_true_eq_false, not_false_eq_true, cmb0, cmb1, Nat.reduceAdd, Nat.reduceMul, Nat.reduceSub, Nat.add_zero, Bool.not_eq_true, Bool.not_eq_false, Nat.reduceEqDiff, Nat.reduceLeDiff, Nat.reduceLT, Int32.reduceLT, Int32.reduceLE, iin_nI, iin_lit, iin_m1, tn_nI, tn_lit, nI_lm, nI_ml, nI_al, nI_la, nI_add, pk_mul, nI_le_l, nI_l_le, nI_lt_l, nI_l_lt, nI_eq_l, nI_l_eq, nI_eqP, nI_leP, nI_ltP, nI_m1, m1_nI, nI_ll, m1_l, l_m1]
        rw [if_neg (by omega)]
      · rcases in_cs I hb with h | ⟨e, he, h, h2⟩
        · simp (disch := omega) only [fn_115_5, fn_115_38, LSt L, getB L V I hb, h, hbo, some_if, Option.bind_some, Option.bind_none, Option.some.injEq, ↓reduceIte, reduceCtorEq, Bool.false_eq_true, Bool.true_eq_false, not_true_eq_false, not_false_eq_true, cmb0, cmb1, Nat.reduceAdd, Nat.reduceMul, Nat.reduceSub, Nat.add_zero, Bool.not_eq_true, Bool.not_eq_false, Nat.reduceEqDiff, Nat.reduceLeDiff, Nat.reduceLT, Int32.reduceLT, Int32.reduceLE, iin_nI, iin_lit, iin_m1, tn_nI, tn_lit, nI_lm, nI_ml, nI_al, nI_la, nI_add, pk_mul, nI_le_l, nI_l_le, nI_lt_l, nI_l_lt, nI_eq_l, nI_l_eq, nI_eqP, nI_leP, nI_ltP, nI_m1, m1_nI, nI_ll, m1_l, l_m1]
          rw [if_neg (by omega)]
          obtain ⟨m, rfl⟩ : ∃ k, m = k + 1 := ⟨m - 1, by omega⟩
          exact out m (k + 1) (by omega)
        · have := (hd b hb).2 e he h
          simp (disch := omega) only [fn_115_5, fn_115_38, LSt L, getB L V I hb, h2, h, hbo, some_if, Option.bind_some, Option.bind_none, Option.some.injEq, ↓reduceIte, reduceCtorEq, Bool.false_eq_true, Bool.true_eq_false, not_true_eq_false, not_false_eq_true, cmb0, cmb1, Nat.reduceAdd, Nat.reduceMul, Nat.reduceSub, Nat.add_zero, Bool.not_eq_true, Bool.not_eq_false, Nat.reduceEqDiff, Nat.reduceLeDiff, Nat.reduceLT, Int32.reduceLT, Int32.reduceLE, iin_nI, iin_lit, iin_m1, tn_nI, tn_lit, nI_lm, nI_ml, nI_al, nI_la, nI_add, pk_mul, nI_le_l, nI_l_le, nI_lt_l, nI_l_lt, nI_eq_l, nI_l_eq, nI_eqP, nI_leP, nI_ltP, nI_m1, m1_nI, nI_ll, m1_l, l_m1]
          rw [if_neg (by omega)]
          exact ih e m (k + 1) he (by omega) (by omega) (by omega)
  exact key 40 b cm_N 0 hb (hd b hb).1 (by unfold cm_N; omega) rfl
theorem wi_m (L : Lay v c w) (M : RelM w s) (I : InvS s) {b o : Nat} (hb : b < nB s) (ho : o < nB s) : fn_262 w 96 (nI b) (nI o) = some (wi s b o) := by
  have hB := I.2.1
  obtain ⟨d, hd⟩ := dep I
  have out : ∀ m, fn_262_2 w (m + 1) 96 (nI o) (-1) = some false := by
    intro m
    simp (disch := omega) only [fn_262_2, fn_262_22, some_if, Option.bind_some, Option.bind_none, Option.some.injEq, ↓reduceIte, reduceCtorEq, Bool.false_eq_true, Bool.true_eq_false, not_true_eq_false, not_false_eq_true, cmb0, cmb1, Nat.reduceAdd, Nat.reduceMul, Nat.reduceSub, Nat.add_zero, Bool.not_eq_true, Bool.not_eq_false, Nat.reduceEqDiff, Nat.reduceLeDiff, Nat.reduceLT, Int32.reduceLT, Int32.reduceLE, iin_nI, iin_lit, iin_m1, tn_nI, tn_lit, nI_lm, nI_ml, nI_al, nI_la, nI_add, pk_mul, nI_le_l, nI_l_le, nI_lt_l, nI_l_lt, nI_eq_l, nI_l_eq, nI_eqP, nI_leP, nI_ltP, nI_m1, m1_nI, nI_ll, m1_l, l_m1]
  have key : ∀ n b m, b < nB s → d b < n → n < m → fn_262_2 w m 96 (nI o) (nI b) = some (wiN s n b o) := by
    intro n
    induction n with
    | zero => intro b m hb h0; omega
    | succ n ih =>
      intro b m hb h0 hm
      obtain ⟨m, rfl⟩ : ∃ k, m = k + 1 := ⟨m - 1, by omega⟩
      unfold wiN
      by_cases hbo : b = o
      · subst hbo
        simp (disch := omega) only [fn_262_2, fn_262_22, some_if, Option.bind_some, Option.bind_none, Option.some.injEq, ↓reduceIte, reduceCtorEq, Bool.false_eq_true, Bool.true_eq_false, not_true_eq_false, not_false_eq_true, cmb0, cmb1, Nat.reduceAdd, Nat.reduceMul, Nat.reduceSub, Nat.add_zero, Bool.not_eq_true, Bool.not_eq_false, Nat.reduceEqDiff, Nat.reduceLeDiff, Nat.reduceLT, Int32.reduceLT, Int32.reduceLE, iin_nI, iin_lit, iin_m1, tn_nI, tn_lit, nI_lm, nI_ml, nI_al, nI_la, nI_add, pk_mul, nI_le_l, nI_l_le, nI_lt_l, nI_l_lt, nI_eq_l, nI_l_eq, nI_eqP, nI_leP, nI_ltP, nI_m1, m1_nI, nI_ll, m1_l, l_m1]
      · rcases in_cs I hb with h | ⟨e, he, h, h2⟩
        · simp (disch := omega) only [fn_262_2, LM L, RM M, h, hbo, some_if, Option.bind_some, Option.bind_none, Option.some.injEq, ↓reduceIte, reduceCtorEq, Bool.false_eq_true, Bool.true_eq_false, not_true_eq_false, not_false_eq_true, cmb0, cmb1, Nat.reduceAdd, Nat.reduceMul, Nat.reduceSub, Nat.add_zero, Bool.not_eq_true, Bool.not_eq_false, Nat.reduceEqDiff, Nat.reduceLeDiff, Nat.reduceLT, Int32.reduceLT, Int32.reduceLE, iin_nI, iin_lit, iin_m1, tn_nI, tn_lit, nI_lm, nI_ml, nI_al, nI_la, nI_add, pk_mul, nI_le_l, nI_l_le, nI_lt_l, nI_l_lt, nI_eq_l, nI_l_eq, nI_eqP, nI_leP, nI_ltP, nI_m1, m1_nI, nI_ll, m1_l, l_m1]
          obtain ⟨m, rfl⟩ : ∃ k, m = k + 1 := ⟨m - 1, by omega⟩
          exact out m
        · have := (hd b hb).2 e he h
          simp (disch := omega) only [fn_262_2, LM L, RM M, h2, h, hbo, some_if, Option.bind_some, Option.bind_none, Option.some.injEq, ↓reduceIte, reduceCtorEq, Bool.false_eq_true, Bool.true_eq_false, not_true_eq_false, not_false_eq_true, cmb0, cmb1, Nat.reduceAdd, Nat.reduceMul, Nat.reduceSub, Nat.add_zero, Bool.not_eq_true, Bool.not_eq_false, Nat.reduceEqDiff, Nat.reduceLeDiff, Nat.reduceLT, Int32.reduceLT, Int32.reduceLE, iin_nI, iin_lit, iin_m1, tn_nI, tn_lit, nI_lm, nI_ml, nI_al, nI_la, nI_add, pk_mul, nI_le_l, nI_l_le, nI_lt_l, nI_l_lt, nI_eq_l, nI_l_eq, nI_eqP, nI_leP, nI_ltP, nI_m1, m1_nI, nI_ll, m1_l, l_m1]
          exact ih e m he (by omega) (by omega)
  exact key 40 b cm_N hb (hd b hb).1 (by unfold cm_N; omega)
theorem c108 (L : Lay v c w) (V : StC w 30 s) (I : InvS s) (i : Int32) : fn_108 w 30 i = some (cm_iin i (nB s) && decide (s 117 (tn i) = -1)) := by
  have hB := I.2.1
  unfold fn_108
  rcases iin_cs i (n := nB s) (by omega) with h | ⟨b, hb, rfl⟩
  · simp (disch := omega) only [LSt L, hasB L V I, h, some_if, Option.bind_some, Option.bind_none, Option.some.injEq, ↓reduceIte, reduceCtorEq, Bool.false_eq_true, Bool.true_eq_false, not_true_eq_false, not_false_eq_true, cmb0, cmb1, Nat.reduceAdd, Nat.reduceMul, Nat.reduceSub, Nat.add_zero, Bool.not_eq_true, Bool.not_eq_false, Nat.reduceEqDiff, Nat.reduceLeDiff, Nat.reduceLT, Int32.reduceLT, Int32.reduceLE, iin_nI, iin_lit, iin_m1, tn_nI, tn_lit, nI_lm, nI_ml, nI_al, nI_la, nI_add, pk_mul, nI_le_l, nI_l_le, nI_lt_l, nI_l_lt, nI_eq_l, nI_l_eq, nI_eqP, nI_leP, nI_ltP, nI_m1, m1_nI, nI_ll, m1_l, l_m1]
    rfl
  · have e : tn (nI b) = b := nI_clamp (by omega)
    simp (disch := omega) only [LSt L, hasB L V I, getB L V I hb, e, some_if, Option.bind_some, Option.bind_none, Option.some.injEq, ↓reduceIte, reduceCtorEq, Bool.false_eq_true, Bool.true_eq_false, not_true_eq_false, not_false_eq_true, cmb0, cmb1, Nat.reduceAdd, Nat.reduceMul, Nat.reduceSub, Nat.add_zero, Bool.not_eq_true, Bool.not_eq_false, Nat.reduceEqDiff, Nat.reduceLeDiff, Nat.reduceLT, Int32.reduceLT, Int32.reduceLE, iin_nI, iin_lit, iin_m1, tn_nI, tn_lit, nI_lm, nI_ml, nI_al, nI_la, nI_add, pk_mul, nI_le_l, nI_l_le, nI_lt_l, nI_l_lt, nI_eq_l, nI_l_eq, nI_eqP, nI_leP, nI_ltP, nI_m1, m1_nI, nI_ll, m1_l, l_m1]
    by_cases h : s 117 b = -1
    · simp [h]
    · simp [h]
end CHAIN
