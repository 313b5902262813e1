/-! a statement of a THING, in both -/
/-- the reference under way: what lasts is as it was, it stands at q -/
def RX (v c : Nat) (b : Nat → Int32) (n : Nat) (s : St) (x0 x : cm_W) (q : Nat) : Prop := FM v c x0 x s ∧ TX b n x ∧ cm_I x 96 11 = nI q ∧ q ≤ n
/-- both under way without a FAULT -/
def SR (v c v' c' : Nat) (b : Nat → Int32) (n : Nat) (s : St) (w0 x0 w x : cm_W) (p t P Q m : Nat) : Prop := (Lay v c w ∧ FW0 v w0 w ∧ CR b n w p (-1)) ∧ (∃ q, RX v' c' b n s x0 x q ∧ sk b n q = p) ∧ DT (30 - v) w x t ∧ DP (30 - v) w x P ∧ DH (30 - v) w x t P ∧ DQ (30 - v) w x t Q ∧ DS (30 - v) w x m
/-- both at the same FAULT -/
def SF (v c v' c' : Nat) (b : Nat → Int32) (n : Nat) (s : St) (w0 x0 w x : cm_W) : Prop := Lay v c w ∧ FW0 v w0 w ∧ WD (30 - v) w ∧ ∃ p q, CR b n w p (nI (sk b n q)) ∧ RX v' c' b n s x0 x q
section THG
variable {v c v' c' n m q k p t P Q : Nat} {b : Nat → Int32} {w w' w0 x x' x0 y z : cm_W} {f : Int32} {s : St}
theorem RX.X (h : RX v c b n s x0 x q) (h2 : FX v c x x') {q' : Nat} (e : cm_I x' 96 11 = nI q') (hq : q' ≤ n) : RX v c b n s x0 x' q' := ⟨h.1.X h2, h2.T h.2.1, e, hq⟩
theorem RX.sI (h : RX v c b n s x0 x q) {a k : Nat} {i : Int32} (ha : 97 ≤ a ∧ a ≠ 113 ∨ a = 96 ∧ 13 ≤ k ∧ k ≤ 19) (hm : mt a k = false) : RX v c b n s x0 (cm_sI x a k i) q := by
  obtain ⟨h1, h2, h3, h4⟩ := h
  refine ⟨h1.sI (by omega) hm, ⟨?_, h2.2.1, fun j hj => ?_⟩, ?_, h4⟩
  · rw [I_if, if_neg (by omega)]; exact h2.1
  · rw [I_if, if_neg (by omega)]; exact h2.2.2 j hj
  · rw [I_if, if_neg (by omega)]; exact h3
theorem RX.sL (h : RX v c b n s x0 x q) {a k : Nat} {i : Int64} (ha : a = 98 ∨ a = 99) : RX v c b n s x0 (cm_sL x a k i) q := by
  obtain ⟨h1, h2, h3, h4⟩ := h
  exact ⟨h1.sL (by omega) (by omega) (by omega), h2, h3, h4⟩
theorem RX.L (h : RX v c b n s x0 x q) : Lay v c x := h.1.1
theorem wl_1 (h : kd b n p = 1) : wl b n p = ln b n p := if_pos h
/-- a new NAME, by the class -/
theorem new69 (L : Lay v c w) (hv : v = 10 ∨ v = 20) (C : CR b n w p (-1)) (hn : n ≤ 900) (T : DT (30 - v) w x t) (Pp : DP (30 - v) w x P) {a1 : Nat} {fl : Bool} (hs : cm_sh w a1 = some (.inl 7)) (hf : fn_64 w a1 = some fl) : ((nmok b n p = true ∧ fnd (fun k => cm_L x 98 (8 + k)) (vl b n p) t 0 = -1 ∧ fnd (fun k => cm_L x 99 (12 + k)) (vl b n p) P 0 = -1 ∧ fl = false) → ∃ y, fn_69 4 a1 w = some (vl b n p, y) ∧ FA v c w y ∧ CR b n y (nxt b n p) (-1)) ∧ (¬ (nmok b n p = true ∧ fnd (fun k => cm_L x 98 (8 + k)) (vl b n p) t 0 = -1 ∧ fnd (fun k => cm_L x 99 (12 + k)) (vl b n p) P 0 = -1 ∧ fl = false) → ∃ y, fn_69 4 a1 w = some (vl b n p, y) ∧ FA v c w y ∧ CR b n y p (nI p)) := by
  have hu : 30 - v = 10 ∨ 30 - v = 20 := by omega
  have e67 := isName_ok L C hn
  have V1 := LV L hu
  have fT : fn_68 w 4 (30 - v + 1) (nI t) = some (if nmok b n p = true then fnd (fun k => cm_L x 98 (8 + k)) (vl b n p) t 0 else -1) := by
    have hs1 : cm_sh w (30 - v + 1) = some (.inr (.long, 8)) := by
      rcases hu with e | e <;> rw [e] <;> exact (L.sh (by decide) (by decide)).trans rfl
    have e := find68 L C hn (a1 := 30 - v + 1) (S := 8) hs1 T.1 (by omega)
    rw [e, fnd_cg t 0 (fun j _ hj => (T.2.2.2.2 j (by omega)).2.1)]
  have fP : fn_68 w 4 (30 - v + 4) (nI P) = some (if nmok b n p = true then fnd (fun k => cm_L x 99 (12 + k)) (vl b n p) P 0 else -1) := by
    have hs1 : cm_sh w (30 - v + 4) = some (.inr (.long, 12)) := by
      rcases hu with e | e <;> rw [e] <;> exact (L.sh (by decide) (by decide)).trans rfl
    have e := find68 L C hn (a1 := 30 - v + 4) (S := 12) hs1 Pp.1 (by omega)
    rw [e, fnd_cg P 0 (fun j _ hj => (Pp.2.2.2.2 j (by omega)).2.2.1)]
  obtain ⟨k, k1, g6, g7, g5, r6, r7, r8, r9, pn⟩ := C.g
  obtain ⟨y0, a0, F0, C0⟩ := acc0 L C
  have e64 : fn_69_64 4 a1 (vl b n p) w = some (vl b n p, y0) := by
    cases hm : nmok b n p <;> rw [hm] at e67 <;> simp (disch := omega) only [fn_69_64, LD L, e67, a0, eq_self, Nat.le_refl, Nat.lt_irrefl, some_if, Option.bind_some, Option.bind_none, Option.some.injEq, ↓reduceIte, reduceCtorEq, Bool.false_eq_true, Bool.true_eq_false, not_true_eq_false, not_false_eq_true, cmb0, cmb1, Nat.reduceAdd, Nat.reduceMul, Nat.reduceSub, Nat.add_zero, Bool.not_eq_true, Bool.not_eq_false, Nat.reduceEqDiff, Nat.reduceLeDiff, Nat.reduceLT, Int32.reduceLT, Int32.reduceLE, iin_nI, iin_lit, iin_m1, tn_nI, tn_lit, nI_lm, nI_ml, nI_al, nI_la, nI_add, pk_mul, nI_le_l, nI_l_le, nI_lt_l, nI_l_lt, nI_eq_l, nI_l_eq, nI_eqP, nI_leP, nI_ltP, nI_m1, m1_nI, nI_ll, m1_l, l_m1]
  have rT := T.2.1
  have rP := Pp.2.1
  have h8 := T.1
  have h12 := Pp.1
  have bad : (¬ (nmok b n p = true ∧ fnd (fun k => cm_L x 98 (8 + k)) (vl b n p) t 0 = -1 ∧ fnd (fun k => cm_L x 99 (12 + k)) (vl b n p) P 0 = -1 ∧ fl = false)) → fn_69 4 a1 w = some (vl b n p, y0) := by
    intro h
    cases hm : nmok b n p
    · rw [hm] at fT fP e67
      rw [if_neg (by decide)] at fT fP
      simp (disch := omega) only [fn_69, ↓LDb L, LD L, ↓LVb L hu, LV L hu, g6, r8, rT, rP, fT, fP, e67, a0, eq_self, Nat.le_refl, Nat.lt_irrefl, some_if, Option.bind_some, Option.bind_none, Option.some.injEq, ↓reduceIte, reduceCtorEq, Bool.false_eq_true, Bool.true_eq_false, not_true_eq_false, not_false_eq_true, cmb0, cmb1, Nat.reduceAdd, Nat.reduceMul, Nat.reduceSub, Nat.add_zero, Bool.not_eq_true, Bool.not_eq_false, Nat.reduceEqDiff, Nat.reduceLeDiff, Nat.reduceLT, Int32.reduceLT, Int32.reduceLE, iin_nI, iin_lit, iin_m1, tn_nI, tn_lit, nI_lm, nI_ml, nI_al, nI_la, nI_add, pk_mul, nI_le_l, nI_l_le, nI_lt_l, nI_l_lt, nI_eq_l, nI_l_eq, nI_eqP, nI_leP, nI_ltP, nI_m1, m1_nI, nI_ll, m1_l, l_m1]
    · rw [hm] at fT fP e67
      rw [if_pos rfl] at fT fP
      by_cases z1 : fnd (fun k => cm_L x 98 (8 + k)) (vl b n p) t 0 = -1
      · rw [z1] at fT
        by_cases z2 : fnd (fun k => cm_L x 99 (12 + k)) (vl b n p) P 0 = -1
        · rw [z2] at fP
          cases fl
          · exact absurd ⟨hm, z1, z2, rfl⟩ h
          · simp (disch := omega) only [fn_69, ↓LDb L, LD L, ↓LVb L hu, LV L hu, g6, r8, rT, rP, fT, fP, e67, hs, hf, a0, eq_self, Nat.le_refl, Nat.lt_irrefl, some_if, Option.bind_some, Option.bind_none, Option.some.injEq, ↓reduceIte, reduceCtorEq, Bool.false_eq_true, Bool.true_eq_false, not_true_eq_false, not_false_eq_true, cmb0, cmb1, Nat.reduceAdd, Nat.reduceMul, Nat.reduceSub, Nat.add_zero, Bool.not_eq_true, Bool.not_eq_false, Nat.reduceEqDiff, Nat.reduceLeDiff, Nat.reduceLT, Int32.reduceLT, Int32.reduceLE, iin_nI, iin_lit, iin_m1, tn_nI, tn_lit, nI_lm, nI_ml, nI_al, nI_la, nI_add, pk_mul, nI_le_l, nI_l_le, nI_lt_l, nI_l_lt, nI_eq_l, nI_l_eq, nI_eqP, nI_leP, nI_ltP, nI_m1, m1_nI, nI_ll, m1_l, l_m1]
        · simp (disch := omega) only [fn_69, ↓LDb L, LD L, ↓LVb L hu, LV L hu, g6, r8, rT, rP, fT, fP, z2, e64, eq_self, Nat.le_refl, Nat.lt_irrefl, some_if, Option.bind_some, Option.bind_none, Option.some.injEq, ↓reduceIte, reduceCtorEq, Bool.false_eq_true, Bool.true_eq_false, not_true_eq_false, not_false_eq_true, cmb0, cmb1, Nat.reduceAdd, Nat.reduceMul, Nat.reduceSub, Nat.add_zero, Bool.not_eq_true, Bool.not_eq_false, Nat.reduceEqDiff, Nat.reduceLeDiff, Nat.reduceLT, Int32.reduceLT, Int32.reduceLE, iin_nI, iin_lit, iin_m1, tn_nI, tn_lit, nI_lm, nI_ml, nI_al, nI_la, nI_add, pk_mul, nI_le_l, nI_l_le, nI_lt_l, nI_l_lt, nI_eq_l, nI_l_eq, nI_eqP, nI_leP, nI_ltP, nI_m1, m1_nI, nI_ll, m1_l, l_m1]
      · simp (disch := omega) only [fn_69, ↓LDb L, LD L, ↓LVb L hu, LV L hu, g6, r8, rT, rP, fT, z1, e64, eq_self, Nat.le_refl, Nat.lt_irrefl, some_if, Option.bind_some, Option.bind_none, Option.some.injEq, ↓reduceIte, reduceCtorEq, Bool.false_eq_true, Bool.true_eq_false, not_true_eq_false, not_false_eq_true, cmb0, cmb1, Nat.reduceAdd, Nat.reduceMul, Nat.reduceSub, Nat.add_zero, Bool.not_eq_true, Bool.not_eq_false, Nat.reduceEqDiff, Nat.reduceLeDiff, Nat.reduceLT, Int32.reduceLT, Int32.reduceLE, iin_nI, iin_lit, iin_m1, tn_nI, tn_lit, nI_lm, nI_ml, nI_al, nI_la, nI_add, pk_mul, nI_le_l, nI_l_le, nI_lt_l, nI_l_lt, nI_eq_l, nI_l_eq, nI_eqP, nI_leP, nI_ltP, nI_m1, m1_nI, nI_ll, m1_l, l_m1]
  refine ⟨fun h => ?_, fun h => ⟨y0, bad h, F0, C0⟩⟩
  obtain ⟨hm, z1, z2, rfl⟩ := h
  have kp : kd b n p = 1 := (of_decide_eq_true hm).1
  obtain ⟨y1, b1, F1, C1⟩ := acc1 L C (kd_lt (b := b) (n := n) (p := p) (by omega))
  rw [hm] at fT fP e67
  rw [if_pos rfl] at fT fP
  rw [z1] at fT
  rw [z2] at fP
  refine ⟨y1, ?_, F1, C1⟩
  simp (disch := omega) only [fn_69, ↓LDb L, LD L, ↓LVb L hu, LV L hu, g6, r8, rT, rP, fT, fP, e67, hs, hf, b1, eq_self, Nat.le_refl, Nat.lt_irrefl, some_if, Option.bind_some, Option.bind_none, Option.some.injEq, ↓reduceIte, reduceCtorEq, Bool.false_eq_true, Bool.true_eq_false, not_true_eq_false, not_false_eq_true, cmb0, cmb1, Nat.reduceAdd, Nat.reduceMul, Nat.reduceSub, Nat.add_zero, Bool.not_eq_true, Bool.not_eq_false, Nat.reduceEqDiff, Nat.reduceLeDiff, Nat.reduceLT, Int32.reduceLT, Int32.reduceLE, iin_nI, iin_lit, iin_m1, tn_nI, tn_lit, nI_lm, nI_ml, nI_al, nI_la, nI_add, pk_mul, nI_le_l, nI_l_le, nI_lt_l, nI_l_lt, nI_eq_l, nI_l_eq, nI_eqP, nI_leP, nI_ltP, nI_m1, m1_nI, nI_ll, m1_l, l_m1]
/-- a new NAME, by the reference -/
theorem new211 (R : RX v c b n s x0 x q) (h13 : cm_I x 96 13 = nI t) (ht : t ≤ 8) (h14 : cm_I x 96 14 = nI P) (hP : P ≤ 12) : ((nmok b n (sk b n q) = true ∧ fnd (fun k => cm_L x 98 (8 + k)) (vl b n (sk b n q)) t 0 = -1 ∧ fnd (fun k => cm_L x 99 (12 + k)) (vl b n (sk b n q)) P 0 = -1) → ∃ z, fn_211 96 x = some (vl b n (sk b n q), z) ∧ FX v c x z ∧ RX v c b n s x0 z (sk b n q + ln b n (sk b n q)) ∧ vl b n (sk b n q) ≠ 0 ∧ wdx (vl b n (sk b n q)) = -1) ∧ (¬ (nmok b n (sk b n q) = true ∧ fnd (fun k => cm_L x 98 (8 + k)) (vl b n (sk b n q)) t 0 = -1 ∧ fnd (fun k => cm_L x 99 (12 + k)) (vl b n (sk b n q)) P 0 = -1) → ∃ z, fn_211 96 x = some (0, z) ∧ FX v c x z ∧ RX v c b n s x0 z (sk b n q)) := by
  obtain ⟨y, a1, F, h11, h36, -⟩ := word_ok R.L R.2.1 R.2.2.2 R.2.2.1
  have pn := sk_le (b := b) R.2.2.2
  generalize sk b n q = p at *
  have R1 := R.X F h11 pn
  have LY := F.1
  have f9 := find209 LY (by rw [F.2.2.1 13 (by omega) (by omega) (by omega)]; exact h13) ht (wv b n p)
  have f10 := find210 LY (by rw [F.2.2.1 14 (by omega) (by omega) (by omega)]; exact h14) hP (wv b n p)
  have m8 := m208 y (wv b n p)
  rw [F.2.2.2] at f9 f10
  by_cases w0 : wv b n p = 0
  · have : ¬ nmok b n p = true := fun h => by
      obtain ⟨h1, h2, h3⟩ := of_decide_eq_true h
      exact wv_0.mp w0 ⟨h1, h3⟩
    refine ⟨fun h => absurd h.1 this, fun _ => ⟨y, ?_, F, R1⟩⟩
    rw [w0] at a1
    simp (disch := omega) only [fn_211, LM R.L, a1, lgc_eq, eq_self, Nat.le_refl, Nat.lt_irrefl, some_if, Option.bind_some, Option.bind_none, Option.some.injEq, ↓reduceIte, reduceCtorEq, Bool.false_eq_true, Bool.true_eq_false, not_true_eq_false, not_false_eq_true, cmb0, cmb1, Nat.reduceAdd, Nat.reduceMul, Nat.reduceSub, Nat.add_zero, Bool.not_eq_true, Bool.not_eq_false, Nat.reduceEqDiff, Nat.reduceLeDiff, Nat.reduceLT, Int32.reduceLT, Int32.reduceLE, iin_nI, iin_lit, iin_m1, tn_nI, tn_lit, nI_lm, nI_ml, nI_al, nI_la, nI_add, pk_mul, nI_le_l, nI_l_le, nI_lt_l, nI_l_lt, nI_eq_l, nI_l_eq, nI_eqP, nI_leP, nI_ltP, nI_m1, m1_nI, nI_ll, m1_l, l_m1]
  · obtain ⟨k1, l8⟩ : kd b n p = 1 ∧ ln b n p ≤ 8 := by
      by_cases z : kd b n p = 1 ∧ ln b n p ≤ 8
      · exact z
      · exact absurd (wv_0.mpr z) w0
    have ww := wv_wdx w0
    have vv := wv_vl k1 l8
    rw [← vv]
    by_cases wk : wd b n p = -1
    · have nm : nmok b n p = true := decide_eq_true ⟨k1, wk, l8⟩
      rw [ww, wk, decide_eq_false (fun h => h rfl)] at m8
      by_cases z1 : fnd (fun k => cm_L x 98 (8 + k)) (wv b n p) t 0 = -1
      · rw [z1] at f9
        by_cases z2 : fnd (fun k => cm_L x 99 (12 + k)) (wv b n p) P 0 = -1
        · rw [z2] at f10
          have pl : p + ln b n p ≤ n := (ln_pos (Or.inl k1)).2
          rw [wl_1 k1] at h36
          refine ⟨fun _ => ⟨cm_sI y 96 11 (nI (p + ln b n p)), ?_, F.sI (by omega), R.X (F.sI (by omega)) I_eq pl, w0, ?_⟩, fun h => absurd ⟨nm, z1, z2⟩ h⟩
          · simp (disch := omega) only [fn_211, fn_211_38, LM R.L, a1, lgc_eq, w0, m8, LM LY, f9, f10, h36, cm_w2, Nat.reduceLeDiff, Nat.reduceLT, decide_true, Bool.and_self, Bool.and_true, eq_self, Nat.le_refl, Nat.lt_irrefl, some_if, Option.bind_some, Option.bind_none, Option.some.injEq, ↓reduceIte, reduceCtorEq, Bool.false_eq_true, Bool.true_eq_false, not_true_eq_false, not_false_eq_true, cmb0, cmb1, Nat.reduceAdd, Nat.reduceMul, Nat.reduceSub, Nat.add_zero, Bool.not_eq_true, Bool.not_eq_false, Nat.reduceEqDiff, Nat.reduceLeDiff, Nat.reduceLT, Int32.reduceLT, Int32.reduceLE, iin_nI, iin_lit, iin_m1, tn_nI, tn_lit, nI_lm, nI_ml, nI_al, nI_la, nI_add, pk_mul, nI_le_l, nI_l_le, nI_lt_l, nI_l_lt, nI_eq_l, nI_l_eq, nI_eqP, nI_leP, nI_ltP, nI_m1, m1_nI, nI_ll, m1_l, l_m1]
          · rw [ww]; exact wk
        · refine ⟨fun h => absurd h.2.2 z2, fun _ => ⟨y, ?_, F, R1⟩⟩
          simp (disch := omega) only [fn_211, LM R.L, a1, lgc_eq, w0, m8, LM LY, f9, f10, z2, eq_self, Nat.le_refl, Nat.lt_irrefl, some_if, Option.bind_some, Option.bind_none, Option.some.injEq, ↓reduceIte, reduceCtorEq, Bool.false_eq_true, Bool.true_eq_false, not_true_eq_false, not_false_eq_true, cmb0, cmb1, Nat.reduceAdd, Nat.reduceMul, Nat.reduceSub, Nat.add_zero, Bool.not_eq_true, Bool.not_eq_false, Nat.reduceEqDiff, Nat.reduceLeDiff, Nat.reduceLT, Int32.reduceLT, Int32.reduceLE, iin_nI, iin_lit, iin_m1, tn_nI, tn_lit, nI_lm, nI_ml, nI_al, nI_la, nI_add, pk_mul, nI_le_l, nI_l_le, nI_lt_l, nI_l_lt, nI_eq_l, nI_l_eq, nI_eqP, nI_leP, nI_ltP, nI_m1, m1_nI, nI_ll, m1_l, l_m1]
      · refine ⟨fun h => absurd h.2.1 z1, fun _ => ⟨y, ?_, F, R1⟩⟩
        simp (disch := omega) only [fn_211, LM R.L, a1, lgc_eq, w0, m8, LM LY, f9, z1, eq_self, Nat.le_refl, Nat.lt_irrefl, some_if, Option.bind_some, Option.bind_none, Option.some.injEq, ↓reduceIte, reduceCtorEq, Bool.false_eq_true, Bool.true_eq_false, not_true_eq_false, not_false_eq_true, cmb0, cmb1, Nat.reduceAdd, Nat.reduceMul, Nat.reduceSub, Nat.add_zero, Bool.not_eq_true, Bool.not_eq_false, Nat.reduceEqDiff, Nat.reduceLeDiff, Nat.reduceLT, Int32.reduceLT, Int32.reduceLE, iin_nI, iin_lit, iin_m1, tn_nI, tn_lit, nI_lm, nI_ml, nI_al, nI_la, nI_add, pk_mul, nI_le_l, nI_l_le, nI_lt_l, nI_l_lt, nI_eq_l, nI_l_eq, nI_eqP, nI_leP, nI_ltP, nI_m1, m1_nI, nI_ll, m1_l, l_m1]
    · have nm : ¬ nmok b n p = true := fun h => wk (of_decide_eq_true h).2.1
      rw [ww, decide_eq_true wk] at m8
      refine ⟨fun h => absurd h.1 nm, fun _ => ⟨y, ?_, F, R1⟩⟩
      simp (disch := omega) only [fn_211, LM R.L, a1, lgc_eq, w0, m8, eq_self, Nat.le_refl, Nat.lt_irrefl, some_if, Option.bind_some, Option.bind_none, Option.some.injEq, ↓reduceIte, reduceCtorEq, Bool.false_eq_true, Bool.true_eq_false, not_true_eq_false, not_false_eq_true, cmb0, cmb1, Nat.reduceAdd, Nat.reduceMul, Nat.reduceSub, Nat.add_zero, Bool.not_eq_true, Bool.not_eq_false, Nat.reduceEqDiff, Nat.reduceLeDiff, Nat.reduceLT, Int32.reduceLT, Int32.reduceLE, iin_nI, iin_lit, iin_m1, tn_nI, tn_lit, nI_lm, nI_ml, nI_al, nI_la, nI_add, pk_mul, nI_le_l, nI_l_le, nI_lt_l, nI_l_lt, nI_eq_l, nI_l_eq, nI_eqP, nI_leP, nI_ltP, nI_m1, m1_nI, nI_ll, m1_l, l_m1]
/-- a number, by the reference -/
theorem numR (R : RX v c b n s x0 x q) {lo hi : Nat} (hlo : lo < 10000) (hhi : hi < 10000) : (numok b n (sk b n q) lo hi = true → ∃ z, fn_206 96 (nI lo) (nI hi) x = some (true, z) ∧ FX v c x z ∧ RX v c b n s x0 z (sk b n q + nl b n (sk b n q)) ∧ cm_I z 96 37 = nI (nvs b (sk b n q) (nl b n (sk b n q))) ∧ rg (nI (nvs b (sk b n q) (nl b n (sk b n q)))) (hi + 1)) ∧ (numok b n (sk b n q) lo hi = false → ∃ z, fn_206 96 (nI lo) (nI hi) x = some (false, z) ∧ FX v c x z ∧ RX v c b n s x0 z (sk b n q)) := by
  obtain ⟨z, a1, F, h11, h37⟩ := number_ok R.L R.2.1 R.2.2.2 R.2.2.1 hlo hhi
  have pn := sk_le (b := b) R.2.2.2
  refine ⟨fun h => ?_, fun h => ?_⟩
  · rw [h] at a1 h11
    rw [if_pos rfl] at h11
    have l := run_le pn (by omega) (nl_run (b := b) (n := n) (p := sk b n q)).1
    exact ⟨z, a1, F, R.X F h11 l, h37 h, ⟨_, by have := (of_decide_eq_true h).2.2.2; omega, rfl⟩⟩
  · rw [h] at a1 h11
    rw [if_neg (by decide)] at h11
    exact ⟨z, a1, F, R.X F h11 pn⟩
theorem nI_n1 {a : Nat} (h : a ≤ 900) : nI a ≠ -1 := fun e => by
  rw [nI_m1 (by omega)] at e; exact e
end THG
