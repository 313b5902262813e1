/-! honest: what is the best of one's own things, and the least -/
def Mk.top (M : Mk) : Nat → Nat
  | 0 => 0
  | t + 1 => if M.D t = 0 then M.top t else if M.top t = 0 then t + 1 else if M.U t ≤ M.U (M.top t - 1) then M.top t else t + 1
def Mk.lst (M : Mk) (ex : Nat → Bool) : Nat → Nat
  | 0 => 0
  | t + 1 => if M.D t = 0 ∨ ex t = true then M.lst ex t else if M.lst ex t = 0 then t + 1 else if M.U (M.lst ex t - 1) ≤ M.U t then M.lst ex t else t + 1
def SayC (w : cm_W) (M : Mk) : Prop := (∀ t, t < 8 → cm_I w 57 t = nI (M.D t)) ∧ (∀ t, t < M.n → cm_I w 56 t = nI (M.U t)) ∧ cm_I w 55 2 = enc (M.top M.n)
/-- the bit of a mask -/
def bit (x : Int32) (t : Nat) : Bool := x.toBitVec.getLsbD t
section SAY
variable {v c u n m l p q : Nat} {w w' : cm_W} {s s' : St} {M : Mk} {ex : Nat → Bool}
theorem top_le : ∀ n, M.top n ≤ n := by
  intro n
  induction n with
  | zero => exact Nat.le_refl _
  | succ n ih =>
    show (if _ then M.top n else if _ then n + 1 else if _ then M.top n else n + 1) ≤ n + 1
    split
    · exact Nat.le_succ_of_le ih
    · split
      · exact Nat.le_refl _
      · split
        · exact Nat.le_succ_of_le ih
        · exact Nat.le_refl _
theorem lst_le : ∀ n, M.lst ex n ≤ n := by
  intro n
  induction n with
  | zero => exact Nat.le_refl _
  | succ n ih =>
    show (if _ then M.lst ex n else if _ then n + 1 else if _ then M.lst ex n else n + 1) ≤ n + 1
    split
    · exact Nat.le_succ_of_le ih
    · split
      · exact Nat.le_refl _
      · split
        · exact Nat.le_succ_of_le ih
        · exact Nat.le_refl _
theorem top_sp : ∀ n, (M.top n = 0 ∧ ∀ t, t < n → M.D t = 0) ∨ (M.top n ≠ 0 ∧ M.D (M.top n - 1) ≠ 0 ∧ ∀ t, t < n → M.D t ≠ 0 → M.U t ≤ M.U (M.top n - 1)) := by
  intro n
  induction n with
  | zero => exact Or.inl ⟨rfl, fun t h => by omega⟩
  | succ n ih =>
    have st : M.top (n + 1) = if M.D n = 0 then M.top n else if M.top n = 0 then n + 1 else if M.U n ≤ M.U (M.top n - 1) then M.top n else n + 1 := rfl
    by_cases d : M.D n = 0
    · rw [if_pos d] at st
      rw [st]
      rcases ih with ⟨h1, h2⟩ | ⟨h1, h2, h3⟩
      · refine Or.inl ⟨h1, fun t ht => ?_⟩
        by_cases z : t = n
        · subst z; exact d
        · exact h2 t (by omega)
      · refine Or.inr ⟨h1, h2, fun t ht hd => ?_⟩
        by_cases z : t = n
        · subst z; exact absurd d hd
        · exact h3 t (by omega) hd
    · rw [if_neg d] at st
      rcases ih with ⟨h1, h2⟩ | ⟨h1, h2, h3⟩
      · rw [if_pos h1] at st
        rw [st]
        refine Or.inr ⟨by omega, d, fun t ht hd => ?_⟩
        by_cases z : t = n
        · subst z; exact Nat.le_refl _
        · exact absurd (h2 t (by omega)) hd
      · rw [if_neg h1] at st
        by_cases u : M.U n ≤ M.U (M.top n - 1)
        · rw [if_pos u] at st
          rw [st]
          refine Or.inr ⟨h1, h2, fun t ht hd => ?_⟩
          by_cases z : t = n
          · subst z; exact u
          · exact h3 t (by omega) hd
        · rw [if_neg u] at st
          rw [st]
          refine Or.inr ⟨by omega, d, fun t ht hd => ?_⟩
          show M.U t ≤ M.U n
          by_cases z : t = n
          · subst z; exact Nat.le_refl _
          · have := h3 t (by omega) hd
            omega
theorem lst_sp : ∀ n, (M.lst ex n = 0 ∧ ∀ t, t < n → M.D t = 0 ∨ ex t = true) ∨ (M.lst ex n ≠ 0 ∧ M.D (M.lst ex n - 1) ≠ 0 ∧ ex (M.lst ex n - 1) = false ∧ ∀ t, t < n → M.D t ≠ 0 → ex t = false → M.U (M.lst ex n - 1) ≤ M.U t) := by
  intro n
  induction n with
  | zero => exact Or.inl ⟨rfl, fun t h => by omega⟩
  | succ n ih =>
    have st : M.lst ex (n + 1) = if M.D n = 0 ∨ ex n = true then M.lst ex n else if M.lst ex n = 0 then n + 1 else if M.U (M.lst ex n - 1) ≤ M.U n then M.lst ex n else n + 1 := rfl
    by_cases d : M.D n = 0 ∨ ex n = true
    · rw [if_pos d] at st
      rw [st]
      rcases ih with ⟨h1, h2⟩ | ⟨h1, h2, h4, h3⟩
      · refine Or.inl ⟨h1, fun t ht => ?_⟩
        by_cases z : t = n
        · subst z; exact d
        · exact h2 t (by omega)
      · refine Or.inr ⟨h1, h2, h4, fun t ht hd he => ?_⟩
        by_cases z : t = n
        · subst z
          rcases d with d | d
          · exact absurd d hd
          · rw [d] at he; cases he
        · exact h3 t (by omega) hd he
    · have dd : M.D n ≠ 0 := fun h => d (Or.inl h)
      have de : ex n = false := by
        cases h : ex n
        · rfl
        · exact absurd (Or.inr h) d
      rw [if_neg d] at st
      rcases ih with ⟨h1, h2⟩ | ⟨h1, h2, h4, h3⟩
      · rw [if_pos h1] at st
        rw [st]
        refine Or.inr ⟨by omega, dd, de, fun t ht hd he => ?_⟩
        by_cases z : t = n
        · subst z; exact Nat.le_refl _
        · rcases h2 t (by omega) with h | h
          · exact absurd h hd
          · rw [h] at he; cases he
      · rw [if_neg h1] at st
        by_cases u : M.U (M.lst ex n - 1) ≤ M.U n
        · rw [if_pos u] at st
          rw [st]
          refine Or.inr ⟨h1, h2, h4, fun t ht hd he => ?_⟩
          by_cases z : t = n
          · subst z; exact u
          · exact h3 t (by omega) hd he
        · rw [if_neg u] at st
          rw [st]
          refine Or.inr ⟨by omega, dd, de, fun t ht hd he => ?_⟩
          show M.U n ≤ M.U t
          by_cases z : t = n
          · subst z; exact Nat.le_refl _
          · have := h3 t (by omega) hd he
            omega
theorem bt0 (x : Int32) {k : Nat} (hk : k < 8) : ((x >>> (nI k &&& 31)) &&& (1 : Int32) = 0) = (bit x k = false) := by
  have e : ∀ y : Int32, (y &&& (1 : Int32) = 0) ↔ ¬ (y &&& (1 : Int32) = 1) := fun y => by
    constructor
    · intro h1 h2
      rw [h1] at h2
      exact absurd h2 (by decide)
    · intro h
      rw [← Int32.toBitVec_inj, Int32.toBitVec_and]
      have h0 : y.toBitVec.getLsbD 0 = false := by
        cases z : y.toBitVec.getLsbD 0
        · rfl
        · refine absurd ?_ h
          rw [← Int32.toBitVec_inj, Int32.toBitVec_and]
          ext i hi
          by_cases z2 : i = 0
          · subst z2; simpa using z
          · have : (1 : Int32).toBitVec[i] = false := by
              show (1#32)[i] = false
              simp [z2]
            rw [BitVec.getElem_and, this, Bool.and_false]
      ext i hi
      by_cases z2 : i = 0
      · subst z2; simpa using h0
      · have : (1 : Int32).toBitVec[i] = false := by
          show (1#32)[i] = false
          simp [z2]
        rw [BitVec.getElem_and, this, Bool.and_false]
        show false = (0#32)[i]
        simp
  refine propext (Iff.trans (e _) ?_)
  rw [bt1 x hk]
  unfold bit
  cases x.toBitVec.getLsbD k <;> simp
theorem b196 (w : cm_W) (x : Int32) {k : Nat} (hk : k < 8) : fn_196 w x (nI k) = some (bit x k) := by
  unfold fn_196 bit
  have h := bt1 x hk
  cases z : x.toBitVec.getLsbD k
  · rw [z] at h
    rw [if_pos (fun q => by have := h.mp q; cases this)]
  · rw [z] at h
    rw [if_neg (fun q => q (h.mpr rfl))]
theorem encW (x : Nat) : enc x = if x = 0 then -1 else nI (x - 1) := rfl
theorem c88 (L : Lay v c w) (hv : v = 10 ∨ v = 20) (V : VilC w v s) (I : InvV s) (hp : p < nP s) (hm : m < 6) : ∃ y, fn_88 55 v (nI p) (nI m) w = some y ∧ FC v c w y ∧ SayC y (mko s p m) := by
  have hT := I.1
  have e0 : fn_88 55 v (nI p) (nI m) w = fn_88_11 cm_N 55 v (nI p) (nI m) (-1) 0 (cm_sI w 55 2 (-1)) := by
    simp (disch := omega) only [fn_88, LC L, cm_w2, Nat.reduceLeDiff, Nat.reduceLT, decide_true, Bool.and_self, Bool.and_true, eq_self, Nat.le_refl, Nat.lt_irrefl, some_if, Option.bind_some, Option.bind_none, Option.some.injEq, ↓reduceIte, reduceCtorEq, Bool.false_eq_true, Bool.true_eq_false, not_true_eq_false, not_false_eq_true, cmb0, cmb1, Nat.reduceAdd, Nat.reduceMul, Nat.reduceSub, Nat.add_zero, Bool.not_eq_true, Bool.not_eq_false, Nat.reduceEqDiff, Nat.reduceLeDiff, Nat.reduceLT, Int32.reduceLT, Int32.reduceLE, iin_nI, iin_lit, iin_m1, tn_nI, tn_lit, nI_lm, nI_ml, nI_al, nI_la, nI_add, pk_mul, nI_le_l, nI_l_le, nI_lt_l, nI_l_lt, nI_eq_l, nI_l_eq, nI_eqP, nI_leP, nI_ltP, nI_m1, m1_nI, nI_ll, m1_l, l_m1]
  rw [e0]
  have F0 : FC v c w (cm_sI w 55 2 (-1)) := (FC.rf L).sI (by omega)
  have t8 : (mko s p m).top 8 = (mko s p m).top (nT s) := by
    have : ∀ k, nT s + k ≤ 8 → (mko s p m).top (nT s + k) = (mko s p m).top (nT s) := by
      intro k
      induction k with
      | zero => intro _; rfl
      | succ k ih =>
        intro h
        have d : (mko s p m).D (nT s + k) = 0 := if_neg (by omega)
        show (if (mko s p m).D (nT s + k) = 0 then _ else _) = _
        rw [if_pos d]
        exact ih (by omega)
    have := this (8 - nT s) (by omega)
    rw [show nT s + (8 - nT s) = 8 by omega] at this
    exact this
  refine up_0 (fun n k (a : Int32 × cm_W) => fn_88_11 n 55 v (nI p) (nI m) a.1 (nI k) a.2) 8 (fun k a => FC v c w a.2 ∧ (∀ t, t < k → cm_I a.2 57 t = nI ((mko s p m).D t)) ∧ (∀ t, t < k → t < nT s → cm_I a.2 56 t = nI (wn s m t)) ∧ cm_I a.2 55 2 = enc ((mko s p m).top k) ∧ a.1 = (if (mko s p m).top k = 0 then -1 else nI (wn s m ((mko s p m).top k - 1)))) (fun o => ∃ y, o = some y ∧ FC v c w y ∧ SayC y (mko s p m)) (-1, cm_sI w 55 2 (-1)) (by omega) ⟨F0, fun t h => by omega, fun t h => by omega, I_eq, rfl⟩ (fun n k a hk ha => Or.inr ?_) (fun n a ha => ?_)
  · obtain ⟨a1, a⟩ := a
    obtain ⟨F, h57, h56, h2, h1⟩ := ha
    dsimp only at F h57 h56 h2 h1 ⊢
    have hk' : ¬ 8 ≤ k := by omega
    have LL := F.1
    have F1 : FC v c w (cm_sI a 56 k (cwo s k (nI m))) := F.sI (by omega)
    have e6 := c6 LL hv (F.V V hv) I (t := k) (by omega) (nI m)
    have hd := mko_D (m := m) I hp k
    have e8 : fn_8 (cm_sI a 56 k (cwo s k (nI m))) v (nI p) (nI k) = some (nI ((mko s p m).D k)) := by
      by_cases q : k < nT s
      · obtain ⟨es, hs⟩ := sh_n I hp q
        have d : (mko s p m).D k = tn (s 107 (8 * p + k)) := if_pos q
        rw [d]
        exact (c8 F1.1 hv (F1.V V hv) I hp q).trans (congrArg some es)
      · have d : (mko s p m).D k = 0 := if_neg q
        rw [d]
        exact c8t F1.1 hv (F1.V V hv) I (iin_no (by omega) (by omega))
    have F2 : FC v c w (cm_sI (cm_sI a 56 k (cwo s k (nI m))) 57 k (nI ((mko s p m).D k))) := F1.sI (by omega)
    have tl := top_le (M := mko s p m) k
    have st : (mko s p m).top (k + 1) = if (mko s p m).D k = 0 then (mko s p m).top k else if (mko s p m).top k = 0 then k + 1 else if wn s m k ≤ wn s m ((mko s p m).top k - 1) then (mko s p m).top k else k + 1 := rfl
    have p57 : ∀ z : cm_W, (∀ j, cm_I z 57 j = cm_I (cm_sI (cm_sI a 56 k (cwo s k (nI m))) 57 k (nI ((mko s p m).D k))) 57 j) → ∀ t, t < k + 1 → cm_I z 57 t = nI ((mko s p m).D t) := fun z hz t ht => by
      rw [hz]
      by_cases q : t = k
      · subst q; rw [I_eq]
      · rw [I_nk q, I_ne (by omega)]; exact h57 t (by omega)
    have p56 : ∀ z : cm_W, (∀ j, cm_I z 56 j = cm_I (cm_sI (cm_sI a 56 k (cwo s k (nI m))) 57 k (nI ((mko s p m).D k))) 56 j) → ∀ t, t < k + 1 → t < nT s → cm_I z 56 t = nI (wn s m t) := fun z hz t ht ht2 => by
      rw [hz, I_ne (by omega)]
      by_cases q : t = k
      · subst q; rw [I_eq]; unfold cwo; rw [if_pos ht2]; exact (wo_n I ht2 hm).1
      · rw [I_nk q]; exact h56 t (by omega) ht2
    by_cases d0 : (mko s p m).D k = 0
    · rw [if_pos d0] at st
      refine ⟨(a1, cm_sI (cm_sI a 56 k (cwo s k (nI m))) 57 k (nI ((mko s p m).D k))), ⟨F2, p57 _ (fun _ => rfl), p56 _ (fun _ => rfl), ?_, by rw [st]; exact h1⟩, ?_⟩
      · rw [st, I_ne (by omega), I_ne (by omega)]; exact h2
      · simp (disch := omega) only [fn_88_11, fn_88_83, hk', ↓LCb LL, LC LL, LV LL hv, e6, ↓LCb F1.1, e8, ↓LCb F2.1, d0, R_sI, ga_sI, I_eq, cm_w2, Nat.reduceLeDiff, Nat.reduceLT, decide_true, Bool.and_self, Bool.and_true, eq_self, Nat.le_refl, Nat.lt_irrefl, some_if, Option.bind_some, Option.bind_none, Option.some.injEq, ↓reduceIte, reduceCtorEq, Bool.false_eq_true, Bool.true_eq_false, not_true_eq_false, not_false_eq_true, cmb0, cmb1, Nat.reduceAdd, Nat.reduceMul, Nat.reduceSub, Nat.add_zero, Bool.not_eq_true, Bool.not_eq_false, Nat.reduceEqDiff, Nat.reduceLeDiff, Nat.reduceLT, Int32.reduceLT, Int32.reduceLE, iin_nI, iin_lit, iin_m1, tn_nI, tn_lit, nI_lm, nI_ml, nI_al, nI_la, nI_add, pk_mul, nI_le_l, nI_l_le, nI_lt_l, nI_l_lt, nI_eq_l, nI_l_eq, nI_eqP, nI_leP, nI_ltP, nI_m1, m1_nI, nI_ll, m1_l, l_m1]
    · have kn : k < nT s := by
        by_cases q : k < nT s
        · exact q
        · exact absurd (if_neg q) d0
      have ek : cwo s k (nI m) = nI (wn s m k) := by unfold cwo; rw [if_pos kn]; exact (wo_n I kn hm).1
      have hw := (wo_n I kn hm).2
      have dp : ¬ (mko s p m).D k ≤ 0 := by omega
      rw [if_neg d0] at st
      rw [ek] at e6 e8 F1 F2 p57 p56
      have take : ¬ (nI (wn s m k) ≤ a1) → (mko s p m).top (k + 1) = k + 1 → ∃ a' : Int32 × cm_W, (FC v c w a'.2 ∧ (∀ t, t < k + 1 → cm_I a'.2 57 t = nI ((mko s p m).D t)) ∧ (∀ t, t < k + 1 → t < nT s → cm_I a'.2 56 t = nI (wn s m t)) ∧ cm_I a'.2 55 2 = enc ((mko s p m).top (k + 1)) ∧ a'.1 = (if (mko s p m).top (k + 1) = 0 then -1 else nI (wn s m ((mko s p m).top (k + 1) - 1)))) ∧ fn_88_11 (n + 1) 55 v (nI p) (nI m) a1 (nI k) a = fn_88_11 n 55 v (nI p) (nI m) a'.1 (nI (k + 1)) a'.2 := by
        intro g1 g2
        refine ⟨(nI (wn s m k), cm_sI (cm_sI (cm_sI a 56 k (nI (wn s m k))) 57 k (nI ((mko s p m).D k))) 55 2 (nI k)), ⟨F2.sI (by omega), p57 _ (fun _ => I_ne (by omega)), p56 _ (fun _ => I_ne (by omega)), ?_, ?_⟩, ?_⟩
        · rw [g2]; exact I_eq
        · rw [g2, if_neg (by omega)]; rfl
        · simp (disch := omega) only [fn_88_11, fn_88_83, hk', ↓LCb LL, LC LL, LV LL hv, e6, ↓LCb F1.1, e8, ↓LCb F2.1, LC F2.1, ek, dp, g1, R_sI, ga_sI, I_eq, I_ne, cm_w2, Nat.reduceLeDiff, Nat.reduceLT, decide_true, Bool.and_self, Bool.and_true, eq_self, Nat.le_refl, Nat.lt_irrefl, some_if, Option.bind_some, Option.bind_none, Option.some.injEq, ↓reduceIte, reduceCtorEq, Bool.false_eq_true, Bool.true_eq_false, not_true_eq_false, not_false_eq_true, cmb0, cmb1, Nat.reduceAdd, Nat.reduceMul, Nat.reduceSub, Nat.add_zero, Bool.not_eq_true, Bool.not_eq_false, Nat.reduceEqDiff, Nat.reduceLeDiff, Nat.reduceLT, Int32.reduceLT, Int32.reduceLE, iin_nI, iin_lit, iin_m1, tn_nI, tn_lit, nI_lm, nI_ml, nI_al, nI_la, nI_add, pk_mul, nI_le_l, nI_l_le, nI_lt_l, nI_l_lt, nI_eq_l, nI_l_eq, nI_eqP, nI_leP, nI_ltP, nI_m1, m1_nI, nI_ll, m1_l, l_m1]
      by_cases t0 : (mko s p m).top k = 0
      · rw [if_pos t0] at st h1
        refine take ?_ st
        rw [h1]
        have : ∀ k : Fin 1000, ¬ nI k.1 ≤ -1 := by decide +kernel
        exact this ⟨wn s m k, hw⟩
      · rw [if_neg t0] at st h1
        have hw2 := (wo_n I (t := (mko s p m).top k - 1) (by omega) hm).2
        by_cases u : wn s m k ≤ wn s m ((mko s p m).top k - 1)
        · rw [if_pos u] at st
          refine ⟨(a1, cm_sI (cm_sI a 56 k (nI (wn s m k))) 57 k (nI ((mko s p m).D k))), ⟨F2, p57 _ (fun _ => rfl), p56 _ (fun _ => rfl), ?_, by rw [st, if_neg t0]; exact h1⟩, ?_⟩
          · rw [st, I_ne (by omega), I_ne (by omega)]; exact h2
          · rw [h1]
            simp (disch := omega) only [fn_88_11, fn_88_83, hk', ↓LCb LL, LC LL, LV LL hv, e6, ↓LCb F1.1, e8, ↓LCb F2.1, ek, dp, u, R_sI, ga_sI, I_eq, I_ne, cm_w2, Nat.reduceLeDiff, Nat.reduceLT, decide_true, Bool.and_self, Bool.and_true, eq_self, Nat.le_refl, Nat.lt_irrefl, some_if, Option.bind_some, Option.bind_none, Option.some.injEq, ↓reduceIte, reduceCtorEq, Bool.false_eq_true, Bool.true_eq_false, not_true_eq_false, not_false_eq_true, cmb0, cmb1, Nat.reduceAdd, Nat.reduceMul, Nat.reduceSub, Nat.add_zero, Bool.not_eq_true, Bool.not_eq_false, Nat.reduceEqDiff, Nat.reduceLeDiff, Nat.reduceLT, Int32.reduceLT, Int32.reduceLE, iin_nI, iin_lit, iin_m1, tn_nI, tn_lit, nI_lm, nI_ml, nI_al, nI_la, nI_add, pk_mul, nI_le_l, nI_l_le, nI_lt_l, nI_l_lt, nI_eq_l, nI_l_eq, nI_eqP, nI_leP, nI_ltP, nI_m1, m1_nI, nI_ll, m1_l, l_m1]
        · rw [if_neg u] at st
          refine take ?_ st
          rw [h1, nI_leP (by omega) (by omega)]
          exact u
  · obtain ⟨a1, a⟩ := a
    obtain ⟨F, h57, h56, h2, h1⟩ := ha
    dsimp only at F h57 h56 h2 h1 ⊢
    refine ⟨a, ?_, F, h57, fun t ht => h56 t (by have := hT.2; have ht : t < nT s := ht; omega) ht, ?_⟩
    · simp (disch := omega) only [fn_88_11, eq_self, Nat.le_refl, Nat.lt_irrefl, some_if, Option.bind_some, Option.bind_none, Option.some.injEq, ↓reduceIte, reduceCtorEq, Bool.false_eq_true, Bool.true_eq_false, not_true_eq_false, not_false_eq_true, cmb0, cmb1, Nat.reduceAdd, Nat.reduceMul, Nat.reduceSub, Nat.add_zero, Bool.not_eq_true, Bool.not_eq_false, Nat.reduceEqDiff, Nat.reduceLeDiff, Nat.reduceLT, Int32.reduceLT, Int32.reduceLE, iin_nI, iin_lit, iin_m1, tn_nI, tn_lit, nI_lm, nI_ml, nI_al, nI_la, nI_add, pk_mul, nI_le_l, nI_l_le, nI_lt_l, nI_l_lt, nI_eq_l, nI_l_eq, nI_eqP, nI_leP, nI_ltP, nI_m1, m1_nI, nI_ll, m1_l, l_m1]
    · rw [h2, t8]; rfl
end SAY
