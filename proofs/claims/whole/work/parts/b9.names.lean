/-! names: the class finds them, the reference finds them; signs -/
section NAMES
variable {v c u n m q k p t : Nat} {b : Nat → Int32} {w w' w'' x y z : cm_W} {f : Int32}
theorem fnd_cg {g h : Nat → Int64} {X : Int64} : ∀ d k, (∀ j, k ≤ j → j < k + d → g j = h j) → fnd g X d k = fnd h X d k := by
  intro d
  induction d with
  | zero => intro k _; rfl
  | succ d ih =>
    intro k hj
    show (if g k = X then nI k else fnd g X d (k + 1)) = if h k = X then nI k else fnd h X d (k + 1)
    rw [hj k (Nat.le_refl _) (by omega), ih (k + 1) (fun j h1 h2 => hj j (by omega) (by omega))]
theorem fnd_rg {g : Nat → Int64} {X : Int64} : ∀ d k, fnd g X d k = -1 ∨ ∃ j, k ≤ j ∧ j < k + d ∧ fnd g X d k = nI j ∧ g j = X := by
  intro d
  induction d with
  | zero => intro k; exact Or.inl rfl
  | succ d ih =>
    intro k
    show (if g k = X then nI k else fnd g X d (k + 1)) = -1 ∨ ∃ j, k ≤ j ∧ j < k + (d + 1) ∧ (if g k = X then nI k else fnd g X d (k + 1)) = nI j ∧ g j = X
    by_cases z : g k = X
    · rw [if_pos z]
      exact Or.inr ⟨k, Nat.le_refl _, by omega, rfl, z⟩
    · rw [if_neg z]
      rcases ih (k + 1) with h | ⟨j, h1, h2, h3, h4⟩
      · exact Or.inl h
      · exact Or.inr ⟨j, by omega, by omega, h3, h4⟩
theorem fnd_no {g : Nat → Int64} {X : Int64} : ∀ d k, (∀ j, k ≤ j → j < k + d → g j ≠ X) → fnd g X d k = -1 := by
  intro d
  induction d with
  | zero => intro k _; rfl
  | succ d ih =>
    intro k hj
    show (if g k = X then nI k else fnd g X d (k + 1)) = -1
    rw [if_neg (hj k (Nat.le_refl _) (by omega))]
    exact ih (k + 1) (fun j h1 h2 => hj j (by omega) (by omega))
/-- the class finds a name -/
theorem find68 (L : Lay v c w) (C : CR b n w p f) (hn : n ≤ 900) {a1 S : Nat} (hs : cm_sh w a1 = some (.inr (.long, S))) (ht : t ≤ S) (hS : S < 100) : fn_68 w 4 a1 (nI t) = some (if nmok b n p = true then fnd (cm_L w a1) (vl b n p) t 0 else -1) := by
  have e67 := isName_ok L C hn
  obtain ⟨k, k1, g6, g7, g5, r6, r7, r8, r9, pn⟩ := C.g
  have ga := ga_of hs
  have al := al_of hs
  have main : ∀ d i N, i + d = t → d < N → fn_68_2 w N 4 a1 (nI t) (nI i) = some (if nmok b n p = true then fnd (cm_L w a1) (vl b n p) d i else -1) := by
    intro d
    induction d with
    | zero =>
      intro i N h1 h2
      obtain ⟨N, rfl⟩ : ∃ M, N = M + 1 := ⟨N - 1, by omega⟩
      obtain rfl : i = t := by omega
      rw [fn_68_2, if_pos (Int32.le_refl _)]
      show some (-1) = some (if nmok b n p = true then (-1 : Int32) else -1)
      rw [ite_self]
    | succ d ih =>
      intro i N h1 h2
      obtain ⟨N, rfl⟩ : ∃ M, N = M + 1 := ⟨N - 1, by omega⟩
      have hi : ¬ t ≤ i := by omega
      have hS' : ¬ Int32.ofNat S ≤ nI i := fun z => by
        have := (nI_leI (a := S) (b := i) (by omega) (by omega)).mp z
        omega
      have s : fnd (cm_L w a1) (vl b n p) (d + 1) i = if cm_L w a1 i = vl b n p then nI i else fnd (cm_L w a1) (vl b n p) d (i + 1) := rfl
      have nx := ih (i + 1) N (by omega) (by omega)
      rw [s]
      cases hm : nmok b n p
      · rw [hm] at e67
        rw [if_neg (by decide)]
        simp (disch := omega) only [fn_68_2, hi, al, hS', LD L, e67, eq_self, Nat.le_refl, Nat.lt_irrefl, some_if, Option.bind_some, Option.bind_none, Option.some.injEq, ↓reduceIte, reduceCtorEq, Bool.false_eq_true, Bool.true_eq_false, not_true_eq_false, not_false_eq_true, cmb0, cmb1, Nat.reduceAdd, Nat.reduceMul, Nat.reduceSub, Nat.add_zero, Bool.not_eq_true, Bool.not_eq_false, Nat.reduceEqDiff, Nat.reduceLeDiff, Nat.reduceLT, Int32.reduceLT, Int32.reduceLE, iin_nI, iin_lit, iin_m1, tn_nI, tn_lit, nI_lm, nI_ml, nI_al, nI_la, nI_add, pk_mul, nI_le_l, nI_l_le, nI_lt_l, nI_l_lt, nI_eq_l, nI_l_eq, nI_eqP, nI_leP, nI_ltP, nI_m1, m1_nI, nI_ll, m1_l, l_m1]
      · rw [hm] at e67 nx
        rw [if_pos rfl] at nx
        rw [if_pos rfl]
        by_cases z : cm_L w a1 i = vl b n p
        · rw [if_pos z]
          simp (disch := omega) only [fn_68_2, hi, al, hS', ↓LDb L, LD L, e67, ga, g6, r8, lgc_eq, z, eq_self, Nat.le_refl, Nat.lt_irrefl, some_if, Option.bind_some, Option.bind_none, Option.some.injEq, ↓reduceIte, reduceCtorEq, Bool.false_eq_true, Bool.true_eq_false, not_true_eq_false, not_false_eq_true, cmb0, cmb1, Nat.reduceAdd, Nat.reduceMul, Nat.reduceSub, Nat.add_zero, Bool.not_eq_true, Bool.not_eq_false, Nat.reduceEqDiff, Nat.reduceLeDiff, Nat.reduceLT, Int32.reduceLT, Int32.reduceLE, iin_nI, iin_lit, iin_m1, tn_nI, tn_lit, nI_lm, nI_ml, nI_al, nI_la, nI_add, pk_mul, nI_le_l, nI_l_le, nI_lt_l, nI_l_lt, nI_eq_l, nI_l_eq, nI_eqP, nI_leP, nI_ltP, nI_m1, m1_nI, nI_ll, m1_l, l_m1]
        · rw [if_neg z, ← nx]
          simp (disch := omega) only [fn_68_2, fn_68_38, hi, al, hS', ↓LDb L, LD L, e67, ga, g6, r8, lgc_eq, z, eq_self, Nat.le_refl, Nat.lt_irrefl, some_if, Option.bind_some, Option.bind_none, Option.some.injEq, ↓reduceIte, reduceCtorEq, Bool.false_eq_true, Bool.true_eq_false, not_true_eq_false, not_false_eq_true, cmb0, cmb1, Nat.reduceAdd, Nat.reduceMul, Nat.reduceSub, Nat.add_zero, Bool.not_eq_true, Bool.not_eq_false, Nat.reduceEqDiff, Nat.reduceLeDiff, Nat.reduceLT, Int32.reduceLT, Int32.reduceLE, iin_nI, iin_lit, iin_m1, tn_nI, tn_lit, nI_lm, nI_ml, nI_al, nI_la, nI_add, pk_mul, nI_le_l, nI_l_le, nI_lt_l, nI_l_lt, nI_eq_l, nI_l_eq, nI_eqP, nI_leP, nI_ltP, nI_m1, m1_nI, nI_ll, m1_l, l_m1]
  exact main t 0 cm_N (by omega) (Nat.lt_of_le_of_lt (show t ≤ 100 by omega) (by decide +kernel))
/-- the reference finds a THING's name -/
theorem find209 (L : Lay v c x) (e : cm_I x 96 13 = nI t) (ht : t ≤ 8) (X : Int64) : fn_209 x 96 X = some (fnd (fun k => cm_L x 98 (8 + k)) X t 0) := by
  have main : ∀ d i N, i + d = t → d < N → fn_209_2 x N 96 X (nI i) = some (fnd (fun k => cm_L x 98 (8 + k)) X d i) := by
    intro d
    induction d with
    | zero =>
      intro i N h1 h2
      obtain ⟨N, rfl⟩ : ∃ M, N = M + 1 := ⟨N - 1, by omega⟩
      obtain rfl : i = t := by omega
      rw [fn_209_2, if_pos (LM L).1, e, if_pos (Int32.le_refl _)]
      rfl
    | succ d ih =>
      intro i N h1 h2
      obtain ⟨N, rfl⟩ : ∃ M, N = M + 1 := ⟨N - 1, by omega⟩
      have hi : ¬ t ≤ i := by omega
      have nx := ih (i + 1) N (by omega) (by omega)
      show _ = some (if cm_L x 98 (8 + i) = X then nI i else fnd (fun k => cm_L x 98 (8 + k)) X d (i + 1))
      by_cases z : cm_L x 98 (8 + i) = X
      · rw [if_pos z]
        simp (disch := omega) only [fn_209_2, ↓LMb L, LM L, e, hi, lgc_eq, z, eq_self, Nat.le_refl, Nat.lt_irrefl, some_if, Option.bind_some, Option.bind_none, Option.some.injEq, ↓reduceIte, reduceCtorEq, Bool.false_eq_true, Bool.true_eq_false, not_true_eq_false, not_false_eq_true, cmb0, cmb1, Nat.reduceAdd, Nat.reduceMul, Nat.reduceSub, Nat.add_zero, Bool.not_eq_true, Bool.not_eq_false, Nat.reduceEqDiff, Nat.reduceLeDiff, Nat.reduceLT, Int32.reduceLT, Int32.reduceLE, iin_nI, iin_lit, iin_m1, tn_nI, tn_lit, nI_lm, nI_ml, nI_al, nI_la, nI_add, pk_mul, nI_le_l, nI_l_le, nI_lt_l, nI_l_lt, nI_eq_l, nI_l_eq, nI_eqP, nI_leP, nI_ltP, nI_m1, m1_nI, nI_ll, m1_l, l_m1]
      · rw [if_neg z, ← nx]
        simp (disch := omega) only [fn_209_2, fn_209_26, ↓LMb L, LM L, e, hi, lgc_eq, z, eq_self, Nat.le_refl, Nat.lt_irrefl, some_if, Option.bind_some, Option.bind_none, Option.some.injEq, ↓reduceIte, reduceCtorEq, Bool.false_eq_true, Bool.true_eq_false, not_true_eq_false, not_false_eq_true, cmb0, cmb1, Nat.reduceAdd, Nat.reduceMul, Nat.reduceSub, Nat.add_zero, Bool.not_eq_true, Bool.not_eq_false, Nat.reduceEqDiff, Nat.reduceLeDiff, Nat.reduceLT, Int32.reduceLT, Int32.reduceLE, iin_nI, iin_lit, iin_m1, tn_nI, tn_lit, nI_lm, nI_ml, nI_al, nI_la, nI_add, pk_mul, nI_le_l, nI_l_le, nI_lt_l, nI_l_lt, nI_eq_l, nI_l_eq, nI_eqP, nI_leP, nI_ltP, nI_m1, m1_nI, nI_ll, m1_l, l_m1]
  exact main t 0 cm_N (by omega) (Nat.lt_of_le_of_lt ht (by decide +kernel))
theorem find210 (L : Lay v c x) (e : cm_I x 96 14 = nI t) (ht : t ≤ 12) (X : Int64) : fn_210 x 96 X = some (fnd (fun k => cm_L x 99 (12 + k)) X t 0) := by
  have main : ∀ d i N, i + d = t → d < N → fn_210_2 x N 96 X (nI i) = some (fnd (fun k => cm_L x 99 (12 + k)) X d i) := by
    intro d
    induction d with
    | zero =>
      intro i N h1 h2
      obtain ⟨N, rfl⟩ : ∃ M, N = M + 1 := ⟨N - 1, by omega⟩
      obtain rfl : i = t := by omega
      rw [fn_210_2, if_pos (LM L).1, e, if_pos (Int32.le_refl _)]
      rfl
    | succ d ih =>
      intro i N h1 h2
      obtain ⟨N, rfl⟩ : ∃ M, N = M + 1 := ⟨N - 1, by omega⟩
      have hi : ¬ t ≤ i := by omega
      have nx := ih (i + 1) N (by omega) (by omega)
      show _ = some (if cm_L x 99 (12 + i) = X then nI i else fnd (fun k => cm_L x 99 (12 + k)) X d (i + 1))
      by_cases z : cm_L x 99 (12 + i) = X
      · rw [if_pos z]
        simp (disch := omega) only [fn_210_2, ↓LMb L, LM L, e, hi, lgc_eq, z, eq_self, Nat.le_refl, Nat.lt_irrefl, some_if, Option.bind_some, Option.bind_none, Option.some.injEq, ↓reduceIte, reduceCtorEq, Bool.false_eq_true, Bool.true_eq_false, not_true_eq_false, not_false_eq_true, cmb0, cmb1, Nat.reduceAdd, Nat.reduceMul, Nat.reduceSub, Nat.add_zero, Bool.not_eq_true, Bool.not_eq_false, Nat.reduceEqDiff, Nat.reduceLeDiff, Nat.reduceLT, Int32.reduceLT, Int32.reduceLE, iin_nI, iin_lit, iin_m1, tn_nI, tn_lit, nI_lm, nI_ml, nI_al, nI_la, nI_add, pk_mul, nI_le_l, nI_l_le, nI_lt_l, nI_l_lt, nI_eq_l, nI_l_eq, nI_eqP, nI_leP, nI_ltP, nI_m1, m1_nI, nI_ll, m1_l, l_m1]
      · rw [if_neg z, ← nx]
        simp (disch := omega) only [fn_210_2, fn_210_26, ↓LMb L, LM L, e, hi, lgc_eq, z, eq_self, Nat.le_refl, Nat.lt_irrefl, some_if, Option.bind_some, Option.bind_none, Option.some.injEq, ↓reduceIte, reduceCtorEq, Bool.false_eq_true, Bool.true_eq_false, not_true_eq_false, not_false_eq_true, cmb0, cmb1, Nat.reduceAdd, Nat.reduceMul, Nat.reduceSub, Nat.add_zero, Bool.not_eq_true, Bool.not_eq_false, Nat.reduceEqDiff, Nat.reduceLeDiff, Nat.reduceLT, Int32.reduceLT, Int32.reduceLE, iin_nI, iin_lit, iin_m1, tn_nI, tn_lit, nI_lm, nI_ml, nI_al, nI_la, nI_add, pk_mul, nI_le_l, nI_l_le, nI_lt_l, nI_l_lt, nI_eq_l, nI_l_eq, nI_eqP, nI_leP, nI_ltP, nI_m1, m1_nI, nI_ll, m1_l, l_m1]
  exact main t 0 cm_N (by omega) (Nat.lt_of_le_of_lt ht (by decide +kernel))
theorem nar_s {i : Int32} (h : vp_nar .byte i = i) {s : Nat} (hs : s = 44 ∨ s = 59) : (i &&& 255 = nI s) ↔ i = nI s := by
  have e : i = i.toInt8.toInt32 := h.symm
  have e2 : i.toInt8 = Int8.ofNat i.toInt8.toBitVec.toNat := by
    refine Int8.toBitVec_inj.mp ?_
    show i.toInt8.toBitVec = BitVec.ofNat 8 i.toInt8.toBitVec.toNat
    simp
  rw [e2] at e
  have lt := i.toInt8.toBitVec.isLt
  generalize i.toInt8.toBitVec.toNat = k at *
  rw [e]
  rcases hs with rfl | rfl
  · have : ∀ k : Fin 256, ((Int8.ofNat k.1).toInt32 &&& 255 = nI 44) ↔ (Int8.ofNat k.1).toInt32 = nI 44 := by decide +kernel
    exact this ⟨k, lt⟩
  · have : ∀ k : Fin 256, ((Int8.ofNat k.1).toInt32 &&& 255 = nI 59) ↔ (Int8.ofNat k.1).toInt32 = nI 59 := by decide +kernel
    exact this ⟨k, lt⟩
theorem bk_s {s : Nat} (hs : s = 44 ∨ s = 59) : bk (nI s) = 3 := by
  rcases hs with rfl | rfl <;> decide
/-- the class looks for a sign -/
theorem sign79 (L : Lay v c w) (C : CR b n w p f) (hnb : ∀ j, j < n → vp_nar .byte (b j) = b j) {s : Nat} (hs : s = 44 ∨ s = 59) : fn_79 w 4 (nI s) = some (sgok b n p s) := by
  obtain ⟨k, k1, g6, g7, g5, r6, r7, r8, r9, pn⟩ := C.g
  have kl := kd_le b n p
  unfold sgok
  by_cases z3 : kd b n p = 3
  · have hp := kd_lt (b := b) (n := n) (p := p) (by omega)
    have ev : vl b n p = (b p &&& 255).toInt64 := by
      unfold vl
      rw [ln_3 z3, z3]
      show ((0 : Int64) <<< (Int32.toInt64 (8 : Int32) &&& 63)) ||| (b (p + 0) &&& (255 : Int32)).toInt64 = _
      rw [show (0 : Int64) <<< (Int32.toInt64 (8 : Int32) &&& 63) = 0 by decide, Int64.zero_or, Nat.add_zero]
    have eq : (vl b n p = (nI s).toInt64) = (b p = nI s) := by
      rw [ev]
      refine propext (Iff.trans ?_ (nar_s (hnb p hp) hs))
      constructor
      · intro h
        refine Int32.toInt_inj.mp ?_
        have := congrArg Int64.toInt h
        rw [Int32.toInt_toInt64, Int32.toInt_toInt64] at this
        exact this
      · intro h; rw [h]
    by_cases z : b p = nI s
    · rw [decide_eq_true ⟨hp, z⟩]
      have z9 : (vl b n p = (nI s).toInt64) = True := eq.trans (eq_true z)
      simp (disch := omega) only [fn_79, ↓LDb L, LD L, g6, r6, r8, z3, lgc_eq, z9, eq_self, Nat.le_refl, Nat.lt_irrefl, some_if, Option.bind_some, Option.bind_none, Option.some.injEq, ↓reduceIte, reduceCtorEq, Bool.false_eq_true, Bool.true_eq_false, not_true_eq_false, not_false_eq_true, cmb0, cmb1, Nat.reduceAdd, Nat.reduceMul, Nat.reduceSub, Nat.add_zero, Bool.not_eq_true, Bool.not_eq_false, Nat.reduceEqDiff, Nat.reduceLeDiff, Nat.reduceLT, Int32.reduceLT, Int32.reduceLE, iin_nI, iin_lit, iin_m1, tn_nI, tn_lit, nI_lm, nI_ml, nI_al, nI_la, nI_add, pk_mul, nI_le_l, nI_l_le, nI_lt_l, nI_l_lt, nI_eq_l, nI_l_eq, nI_eqP, nI_leP, nI_ltP, nI_m1, m1_nI, nI_ll, m1_l, l_m1]
    · rw [decide_eq_false (fun h => z h.2)]
      have z9 : (vl b n p = (nI s).toInt64) = False := eq.trans (eq_false z)
      simp (disch := omega) only [fn_79, ↓LDb L, LD L, g6, r6, r8, z3, lgc_eq, z9, eq_self, Nat.le_refl, Nat.lt_irrefl, some_if, Option.bind_some, Option.bind_none, Option.some.injEq, ↓reduceIte, reduceCtorEq, Bool.false_eq_true, Bool.true_eq_false, not_true_eq_false, not_false_eq_true, cmb0, cmb1, Nat.reduceAdd, Nat.reduceMul, Nat.reduceSub, Nat.add_zero, Bool.not_eq_true, Bool.not_eq_false, Nat.reduceEqDiff, Nat.reduceLeDiff, Nat.reduceLT, Int32.reduceLT, Int32.reduceLE, iin_nI, iin_lit, iin_m1, tn_nI, tn_lit, nI_lm, nI_ml, nI_al, nI_la, nI_add, pk_mul, nI_le_l, nI_l_le, nI_lt_l, nI_l_lt, nI_eq_l, nI_l_eq, nI_eqP, nI_leP, nI_ltP, nI_m1, m1_nI, nI_ll, m1_l, l_m1]
  · have : ¬ (p < n ∧ b p = nI s) := fun h => z3 (by rw [kd_b h.1, h.2]; exact bk_s hs)
    rw [decide_eq_false this]
    simp (disch := omega) only [fn_79, ↓LDb L, LD L, g6, r6, z3, eq_self, Nat.le_refl, Nat.lt_irrefl, some_if, Option.bind_some, Option.bind_none, Option.some.injEq, ↓reduceIte, reduceCtorEq, Bool.false_eq_true, Bool.true_eq_false, not_true_eq_false, not_false_eq_true, cmb0, cmb1, Nat.reduceAdd, Nat.reduceMul, Nat.reduceSub, Nat.add_zero, Bool.not_eq_true, Bool.not_eq_false, Nat.reduceEqDiff, Nat.reduceLeDiff, Nat.reduceLT, Int32.reduceLT, Int32.reduceLE, iin_nI, iin_lit, iin_m1, tn_nI, tn_lit, nI_lm, nI_ml, nI_al, nI_la, nI_add, pk_mul, nI_le_l, nI_l_le, nI_lt_l, nI_l_lt, nI_eq_l, nI_l_eq, nI_eqP, nI_leP, nI_ltP, nI_m1, m1_nI, nI_ll, m1_l, l_m1]
theorem sg_kd {s : Nat} (hs : s = 44 ∨ s = 59) (h : sgok b n p s = true) : kd b n p = 3 ∧ p < n := by
  obtain ⟨h1, h2⟩ := of_decide_eq_true h
  exact ⟨by rw [kd_b h1, h2]; exact bk_s hs, h1⟩
end NAMES
