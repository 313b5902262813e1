/-! weight -/
/-- the weight of a thing -/
def wx (s : St) (t : Nat) : Nat := tn (s 101 t)
def wsd (s : St) (p m q t : Nat) : Bool := decide (0 < (mko s p m).D t ∧ kn s m t ≤ q * wx s t)
def wA (s : St) (p m q n : Nat) : Nat := sgm (fun t => if wsd s p m q t then (mko s p m).D t * wn s m t else 0) n
def wB (s : St) (p m q n : Nat) : Nat := sgm (fun t => if wsd s p m q t then (mko s p m).D t * wx s t else 0) n
def wfl (s : St) (p m q : Nat) : Nat → Bool
  | 0 => false
  | n + 1 => wsd s p m q n || wfl s p m q n
def wok (s : St) (p m q : Nat) : Bool := wfl s p m q (nT s) && decide (q * wB s p m q (nT s) ≤ wA s p m q (nT s))
def wsc (s : St) (p m : Nat) : Nat → Nat
  | 0 => 0
  | q + 1 => if wok s p m q then q + 1 else wsc s p m q
section WGT
variable {v c u n m l p q : Nat} {w w' : cm_W} {s s' : St} {M : Mk}
theorem bm64 {z : Int} (h1 : -4611686018427387904 ≤ z) (h2 : z < 4611686018427387904) : z.bmod (2 ^ 64) = z := by
  simp only [Int.bmod]
  split <;> omega
theorem t64_sub {a b : Nat} (ha : a < 2 ^ 30) (hb : b < 2 ^ 30) : (nI a - nI b).toInt64 = lN a - lN b := by
  have h1 := pk_lT (n := a) (by omega)
  have h2 := pk_lT (n := b) (by omega)
  refine Int64.toInt_inj.mp ?_
  rw [Int32.toInt_toInt64, pk_sub_toInt ha hb, Int64.toInt_sub, h1, h2, bm64 (by omega) (by omega)]
theorem lsub_neg {a b : Nat} (ha : a < 2 ^ 62) (hb : b < 2 ^ 62) : (lN a - lN b < (0 : Int64)) = (a < b) := by
  have h1 := pk_lT (n := a) (by omega)
  have h2 := pk_lT (n := b) (by omega)
  refine propext (Iff.trans Int64.lt_iff_toInt_lt ?_)
  rw [Int64.toInt_sub, h1, h2, bm64 (by omega) (by omega)]
  show _ < (0 : Int) ↔ _
  omega
theorem wx_n (I : InvV s) {t : Nat} (ht : t < nT s) : s 101 t = nI (wx s t) ∧ wx s t < 100 := by
  obtain ⟨-, ⟨k, hk, e⟩, -⟩ := I.2.2.2.2.1 t ht
  unfold wx
  rw [e, tn_nIe (by omega)]
  exact ⟨rfl, hk⟩
theorem wA_le (I : InvV s) (hp : p < nP s) (hm : m < 6) (n : Nat) (hn : n ≤ nT s) : wA s p m q n ≤ 98901 * n := sgm_bd _ _ fun t ht => by
  show (if wsd s p m q t = true then (mko s p m).D t * wn s m t else 0) ≤ _
  split
  · exact Nat.mul_le_mul (mko_D I hp t) (show wn s m t ≤ 999 by have := (wo_n I (t := t) (by omega) hm).2; omega)
  · omega
theorem wB_le (I : InvV s) (hp : p < nP s) (n : Nat) (hn : n ≤ nT s) : wB s p m q n ≤ 9801 * n := sgm_bd _ _ fun t ht => by
  show (if wsd s p m q t = true then (mko s p m).D t * wx s t else 0) ≤ _
  split
  · exact Nat.mul_le_mul (mko_D I hp t) (show wx s t ≤ 99 by have := (wx_n I (t := t) (by omega)).2; omega)
  · omega
theorem c49 (L : Lay v c w) (hv : v = 10 ∨ v = 20) (V : VilC w v s) (I : InvV s) (hp : p < nP s) (hm : m < 6) (K : MkC w (mko s p m)) (hq : q < 1000) : fn_49 w 51 v (nI q) = some (wok s p m q) := by
  have hT := I.1
  have O := mko_ok I hp hm
  refine up_0 (fun n k (a : Int32 × Int64) => fn_49_8 w n 51 v (nI q) a.1 a.2 (nI k)) (nT s) (fun k a => a = ((if wfl s p m q k = true then 1 else 0), lN (wA s p m q k) - lN (q * wB s p m q k))) (fun o => o = some (wok s p m q)) ((0 : Int32), (0 : Int64)) (by omega) ?_ (fun n k a hk ha => Or.inr ⟨_, rfl, ?_⟩) (fun n a ha => ?_)
  · show _ = (_, lN 0 - lN (q * 0))
    rw [Nat.mul_zero, Int64.sub_self]; rfl
  · subst ha
    dsimp only
    have hk' : ¬ nT s ≤ k := by omega
    have hk8 : ¬ 8 ≤ k := by omega
    obtain ⟨ex, hx⟩ := wx_n I hk
    have t1 : fn_1 w (v + 2) (nI k) 1 = some (nI (wx s k)) := (getT (k := 1) L hv V I hk (by decide)).trans (congrArg some ex)
    obtain ⟨k1, k2⟩ := K.2 k hk
    have kK : (mko s p m).K k = kn s m k := rfl
    have kU : (mko s p m).U k = wn s m k := rfl
    rw [kU] at k1
    rw [kK] at k2
    have o1 := O.1 k hk
    rw [kK, kU] at o1
    have eD := K.1 k (by omega)
    have hd := mko_D (m := m) I hp k
    have qx : q * wx s k ≤ 999 * 99 := Nat.mul_le_mul (by omega) (by omega)
    have sA : wA s p m q (k + 1) = wA s p m q k + if wsd s p m q k = true then (mko s p m).D k * wn s m k else 0 := rfl
    have sB : wB s p m q (k + 1) = wB s p m q k + if wsd s p m q k = true then (mko s p m).D k * wx s k else 0 := rfl
    have sF : wfl s p m q (k + 1) = (wsd s p m q k || wfl s p m q k) := rfl
    rw [sA, sB, sF]
    by_cases d0 : (mko s p m).D k = 0
    · have so : wsd s p m q k = false := decide_eq_false (fun h => by omega)
      simp only [so, Bool.false_eq_true, ↓reduceIte, Bool.false_or, Nat.add_zero]
      simp (disch := omega) only [fn_49_8, fn_49_91, hk', hk8, ↓LVb L hv, LV L hv, V.1, hT.1, t1, ↓LCb L, LC L, eD, lgc_le, lle0, d0, eq_self, Nat.le_refl, Nat.lt_irrefl, some_if, Option.bind_some, Option.bind_none, Option.some.injEq, ↓reduceIte, reduceCtorEq, Bool.false_eq_true, Bool.true_eq_false, not_true_eq_false, not_false_eq_true, cmb0, cmb1, Nat.reduceAdd, Nat.reduceMul, Nat.reduceSub, Nat.add_zero, Bool.not_eq_true, Bool.not_eq_false, Nat.reduceEqDiff, Nat.reduceLeDiff, Nat.reduceLT, Int32.reduceLT, Int32.reduceLE, iin_nI, iin_lit, iin_m1, tn_nI, tn_lit, nI_lm, nI_ml, nI_al, nI_la, nI_add, pk_mul, nI_le_l, nI_l_le, nI_lt_l, nI_l_lt, nI_eq_l, nI_l_eq, nI_eqP, nI_leP, nI_ltP, nI_m1, m1_nI, nI_ll, m1_l, l_m1]
    · by_cases z : kn s m k ≤ q * wx s k
      · have so : wsd s p m q k = true := decide_eq_true ⟨by omega, z⟩
        have z2 : ¬ q * wx s k < kn s m k := by omega
        have t64 := t64_sub (a := wn s m k) (b := q * wx s k) (by omega) (by omega)
        have alg : lN (wA s p m q k) - lN (q * wB s p m q k) + lN ((mko s p m).D k) * (lN (wn s m k) - lN (q * wx s k)) = lN (wA s p m q k + (mko s p m).D k * wn s m k) - lN (q * (wB s p m q k + (mko s p m).D k * wx s k)) := by
          simp only [← lN_add, ← lN_mul]
          generalize lN (wA s p m q k) = x1
          generalize lN (wB s p m q k) = x2
          generalize lN ((mko s p m).D k) = x3
          generalize lN (wn s m k) = x4
          generalize lN (wx s k) = x5
          generalize lN q = x6
          grind
        simp only [so, ↓reduceIte, Bool.true_or]
        rw [← alg]
        simp (disch := omega) only [fn_49_8, fn_49_91, hk', hk8, ↓LVb L hv, LV L hv, V.1, hT.1, t1, ↓LCb L, LC L, eD, lgc_le, lle0, d0, k1, k2, z2, t64, eq_self, Nat.le_refl, Nat.lt_irrefl, some_if, Option.bind_some, Option.bind_none, Option.some.injEq, ↓reduceIte, reduceCtorEq, Bool.false_eq_true, Bool.true_eq_false, not_true_eq_false, not_false_eq_true, cmb0, cmb1, Nat.reduceAdd, Nat.reduceMul, Nat.reduceSub, Nat.add_zero, Bool.not_eq_true, Bool.not_eq_false, Nat.reduceEqDiff, Nat.reduceLeDiff, Nat.reduceLT, Int32.reduceLT, Int32.reduceLE, iin_nI, iin_lit, iin_m1, tn_nI, tn_lit, nI_lm, nI_ml, nI_al, nI_la, nI_add, pk_mul, nI_le_l, nI_l_le, nI_lt_l, nI_l_lt, nI_eq_l, nI_l_eq, nI_eqP, nI_leP, nI_ltP, nI_m1, m1_nI, nI_ll, m1_l, l_m1]
      · have so : wsd s p m q k = false := decide_eq_false (fun h => z h.2)
        have z2 : q * wx s k < kn s m k := by omega
        simp only [so, Bool.false_eq_true, ↓reduceIte, Bool.false_or, Nat.add_zero]
        simp (disch := omega) only [fn_49_8, fn_49_91, hk', hk8, ↓LVb L hv, LV L hv, V.1, hT.1, t1, ↓LCb L, LC L, eD, lgc_le, lle0, d0, k1, k2, z2, eq_self, Nat.le_refl, Nat.lt_irrefl, some_if, Option.bind_some, Option.bind_none, Option.some.injEq, ↓reduceIte, reduceCtorEq, Bool.false_eq_true, Bool.true_eq_false, not_true_eq_false, not_false_eq_true, cmb0, cmb1, Nat.reduceAdd, Nat.reduceMul, Nat.reduceSub, Nat.add_zero, Bool.not_eq_true, Bool.not_eq_false, Nat.reduceEqDiff, Nat.reduceLeDiff, Nat.reduceLT, Int32.reduceLT, Int32.reduceLE, iin_nI, iin_lit, iin_m1, tn_nI, tn_lit, nI_lm, nI_ml, nI_al, nI_la, nI_add, pk_mul, nI_le_l, nI_l_le, nI_lt_l, nI_l_lt, nI_eq_l, nI_l_eq, nI_eqP, nI_leP, nI_ltP, nI_m1, m1_nI, nI_ll, m1_l, l_m1]
  · subst ha
    dsimp only
    have b1 := wA_le (q := q) I hp hm (nT s) (Nat.le_refl _)
    have b2 := wB_le (q := q) (m := m) I hp (nT s) (Nat.le_refl _)
    have b3 : q * wB s p m q (nT s) ≤ 999 * (9801 * 8) := Nat.mul_le_mul (by omega) (by omega)
    unfold wok
    have ls := lsub_neg (a := wA s p m q (nT s)) (b := q * wB s p m q (nT s)) (by omega) (by omega)
    cases wfl s p m q (nT s)
    · simp (disch := omega) only [fn_49_8, fn_49_97, ↓LVb L hv, LV L hv, V.1, hT.1, Bool.false_and, eq_self, Nat.le_refl, Nat.lt_irrefl, some_if, Option.bind_some, Option.bind_none, Option.some.injEq, ↓reduceIte, reduceCtorEq, Bool.false_eq_true, Bool.true_eq_false, not_true_eq_false, not_false_eq_true, cmb0, cmb1, Nat.reduceAdd, Nat.reduceMul, Nat.reduceSub, Nat.add_zero, Bool.not_eq_true, Bool.not_eq_false, Nat.reduceEqDiff, Nat.reduceLeDiff, Nat.reduceLT, Int32.reduceLT, Int32.reduceLE, iin_nI, iin_lit, iin_m1, tn_nI, tn_lit, nI_lm, nI_ml, nI_al, nI_la, nI_add, pk_mul, nI_le_l, nI_l_le, nI_lt_l, nI_l_lt, nI_eq_l, nI_l_eq, nI_eqP, nI_leP, nI_ltP, nI_m1, m1_nI, nI_ll, m1_l, l_m1]
    · by_cases z : q * wB s p m q (nT s) ≤ wA s p m q (nT s)
      · have z2 : ¬ wA s p m q (nT s) < q * wB s p m q (nT s) := by omega
        rw [decide_eq_true z]
        simp (disch := omega) only [fn_49_8, fn_49_97, ↓LVb L hv, LV L hv, V.1, hT.1, Bool.true_and, lgc_lt, ls, z2, eq_self, Nat.le_refl, Nat.lt_irrefl, some_if, Option.bind_some, Option.bind_none, Option.some.injEq, ↓reduceIte, reduceCtorEq, Bool.false_eq_true, Bool.true_eq_false, not_true_eq_false, not_false_eq_true, cmb0, cmb1, Nat.reduceAdd, Nat.reduceMul, Nat.reduceSub, Nat.add_zero, Bool.not_eq_true, Bool.not_eq_false, Nat.reduceEqDiff, Nat.reduceLeDiff, Nat.reduceLT, Int32.reduceLT, Int32.reduceLE, iin_nI, iin_lit, iin_m1, tn_nI, tn_lit, nI_lm, nI_ml, nI_al, nI_la, nI_add, pk_mul, nI_le_l, nI_l_le, nI_lt_l, nI_l_lt, nI_eq_l, nI_l_eq, nI_eqP, nI_leP, nI_ltP, nI_m1, m1_nI, nI_ll, m1_l, l_m1]
      · have z2 : wA s p m q (nT s) < q * wB s p m q (nT s) := by omega
        rw [decide_eq_false z]
        simp (disch := omega) only [fn_49_8, fn_49_97, ↓LVb L hv, LV L hv, V.1, hT.1, Bool.true_and, lgc_lt, ls, z2, eq_self, Nat.le_refl, Nat.lt_irrefl, some_if, Option.bind_some, Option.bind_none, Option.some.injEq, ↓reduceIte, reduceCtorEq, Bool.false_eq_true, Bool.true_eq_false, not_true_eq_false, not_false_eq_true, cmb0, cmb1, Nat.reduceAdd, Nat.reduceMul, Nat.reduceSub, Nat.add_zero, Bool.not_eq_true, Bool.not_eq_false, Nat.reduceEqDiff, Nat.reduceLeDiff, Nat.reduceLT, Int32.reduceLT, Int32.reduceLE, iin_nI, iin_lit, iin_m1, tn_nI, tn_lit, nI_lm, nI_ml, nI_al, nI_la, nI_add, pk_mul, nI_le_l, nI_l_le, nI_lt_l, nI_l_lt, nI_eq_l, nI_l_eq, nI_eqP, nI_leP, nI_ltP, nI_m1, m1_nI, nI_ll, m1_l, l_m1]
theorem c50 (L : Lay v c w) (hv : v = 10 ∨ v = 20) (V : VilC w v s) (I : InvV s) (hp : p < nP s) (hm : m < 6) (K : MkC w (mko s p m)) : fn_50 w 51 v = some (enc (wsc s p m 1000)) := by
  have main : ∀ q, q ≤ 1000 → ∀ n, q < n → fn_50_4 w n 51 v (enc q) = some (enc (wsc s p m q)) := by
    intro q
    induction q with
    | zero =>
      intro _ n hn
      obtain ⟨n, rfl⟩ : ∃ k, n = k + 1 := ⟨n - 1, by omega⟩
      rfl
    | succ q ih =>
      intro hq n hn
      obtain ⟨n, rfl⟩ : ∃ k, n = k + 1 := ⟨n - 1, by omega⟩
      have q0 : ¬ nI q < 0 := nI_pos (by omega)
      have e := c49 L hv V I hp hm K (q := q) (by omega)
      have nx := ih (by omega) n (by omega)
      have sc : wsc s p m (q + 1) = if wok s p m q then q + 1 else wsc s p m q := rfl
      have e19 : fn_50_19 w (fn_50_4 w n) 51 v (nI q) = fn_50_4 w n 51 v (enc q) := by
        unfold fn_50_19
        rw [enc_p]
      show fn_50_4 w (n + 1) 51 v (nI q) = _
      rw [sc]
      cases z : wok s p m q
      · rw [z] at e
        rw [if_neg (by decide), ← nx, ← e19]
        simp (disch := omega) only [fn_50_4, q0, LC L, e, eq_self, Nat.le_refl, Nat.lt_irrefl, some_if, Option.bind_some, Option.bind_none, Option.some.injEq, ↓reduceIte, reduceCtorEq, Bool.false_eq_true, Bool.true_eq_false, not_true_eq_false, not_false_eq_true, cmb0, cmb1, Nat.reduceAdd, Nat.reduceMul, Nat.reduceSub, Nat.add_zero, Bool.not_eq_true, Bool.not_eq_false, Nat.reduceEqDiff, Nat.reduceLeDiff, Nat.reduceLT, Int32.reduceLT, Int32.reduceLE, iin_nI, iin_lit, iin_m1, tn_nI, tn_lit, nI_lm, nI_ml, nI_al, nI_la, nI_add, pk_mul, nI_le_l, nI_l_le, nI_lt_l, nI_l_lt, nI_eq_l, nI_l_eq, nI_eqP, nI_leP, nI_ltP, nI_m1, m1_nI, nI_ll, m1_l, l_m1]
      · rw [z] at e
        rw [if_pos rfl]
        simp (disch := omega) only [fn_50_4, q0, LC L, e, enc_s, eq_self, Nat.le_refl, Nat.lt_irrefl, some_if, Option.bind_some, Option.bind_none, Option.some.injEq, ↓reduceIte, reduceCtorEq, Bool.false_eq_true, Bool.true_eq_false, not_true_eq_false, not_false_eq_true, cmb0, cmb1, Nat.reduceAdd, Nat.reduceMul, Nat.reduceSub, Nat.add_zero, Bool.not_eq_true, Bool.not_eq_false, Nat.reduceEqDiff, Nat.reduceLeDiff, Nat.reduceLT, Int32.reduceLT, Int32.reduceLE, iin_nI, iin_lit, iin_m1, tn_nI, tn_lit, nI_lm, nI_ml, nI_al, nI_la, nI_add, pk_mul, nI_le_l, nI_l_le, nI_lt_l, nI_l_lt, nI_eq_l, nI_l_eq, nI_eqP, nI_leP, nI_ltP, nI_m1, m1_nI, nI_ll, m1_l, l_m1]
  exact main 1000 (by omega) cm_N (by decide +kernel)
theorem m283 (L : Lay v c w) (R : RelM w s) (I : InvV s) (hp : p < nP s) (hm : m < 6) : fn_283_17 w 96 (nI p) (nI m) = some (enc (wsc s p m 1000)) := by
  have hT := I.1
  have hP := I.2.1
  have main : ∀ q, q ≤ 1000 → ∀ n, q < n → fn_283_21 w n 96 (nI p) (nI m) (enc q) = some (enc (wsc s p m q)) := by
    intro q
    induction q with
    | zero =>
      intro _ n hn
      obtain ⟨n, rfl⟩ : ∃ k, n = k + 1 := ⟨n - 1, by omega⟩
      rfl
    | succ q ih =>
      intro hq n hn
      obtain ⟨n, rfl⟩ : ∃ k, n = k + 1 := ⟨n - 1, by omega⟩
      have q0 : ¬ nI q < 0 := nI_pos (by omega)
      have nx := ih (by omega) n (by omega)
      have sc : wsc s p m (q + 1) = if wok s p m q then q + 1 else wsc s p m q := rfl
      have e143 : fn_283_143 w (fn_283_21 w n) 96 (nI p) (nI m) (nI q) = some (enc (wsc s p m q)) := by
        unfold fn_283_143
        rw [enc_p]
        exact nx
      have e0 : fn_283_21 w (n + 1) 96 (nI p) (nI m) (nI q) = fn_283_37 w (fn_283_21 w n) cm_N 96 (nI p) (nI m) (nI q) 0 0 0 0 := by
        simp (disch := omega) only [fn_283_21, q0, eq_self, Nat.le_refl, Nat.lt_irrefl, some_if, Option.bind_some, Option.bind_none, Option.some.injEq, ↓reduceIte, reduceCtorEq, Bool.false_eq_true, Bool.true_eq_false, not_true_eq_false, not_false_eq_true, cmb0, cmb1, Nat.reduceAdd, Nat.reduceMul, Nat.reduceSub, Nat.add_zero, Bool.not_eq_true, Bool.not_eq_false, Nat.reduceEqDiff, Nat.reduceLeDiff, Nat.reduceLT, Int32.reduceLT, Int32.reduceLE, iin_nI, iin_lit, iin_m1, tn_nI, tn_lit, nI_lm, nI_ml, nI_al, nI_la, nI_add, pk_mul, nI_le_l, nI_l_le, nI_lt_l, nI_l_lt, nI_eq_l, nI_l_eq, nI_eqP, nI_leP, nI_ltP, nI_m1, m1_nI, nI_ll, m1_l, l_m1]
      show fn_283_21 w (n + 1) 96 (nI p) (nI m) (nI q) = _
      rw [e0]
      refine up_0 (fun j k (a : Int32 × Int32 × Int32) => fn_283_37 w (fn_283_21 w n) j 96 (nI p) (nI m) (nI q) a.1 a.2.1 a.2.2 (nI k)) (nT s) (fun k a => a = (nI (wA s p m q k), nI (wB s p m q k), if wfl s p m q k = true then 1 else 0)) (fun o => o = _) ((0 : Int32), (0 : Int32), (0 : Int32)) (by omega) rfl (fun j k a hk ha => Or.inr ⟨_, rfl, ?_⟩) (fun j a ha => ?_)
      · subst ha
        dsimp only
        have hk' : ¬ nT s ≤ k := by omega
        obtain ⟨ex, hx⟩ := wx_n I hk
        obtain ⟨es, hs⟩ := sh_n I hp hk
        have e8 := (m228 L R (p := p) (t := k) (by omega) (by omega)).trans (congrArg some es)
        have e2 := (m222 L R (t := k) (by omega) (nI m)).trans (congrArg some (wo_n I hk hm).1)
        have e3 := (m223 L R (t := k) (by omega) (nI m)).trans (congrArg some (ko_n I hk hm))
        have hw := (wo_n I hk hm).2
        have kl := kn_le (s := s) (t := k) (m := m) I
        have d : (mko s p m).D k = tn (s 107 (8 * p + k)) := if_pos hk
        have qx : q * wx s k ≤ 999 * 99 := Nat.mul_le_mul (by omega) (by omega)
        have sA : wA s p m q (k + 1) = wA s p m q k + if wsd s p m q k = true then (mko s p m).D k * wn s m k else 0 := rfl
        have sB : wB s p m q (k + 1) = wB s p m q k + if wsd s p m q k = true then (mko s p m).D k * wx s k else 0 := rfl
        have sF : wfl s p m q (k + 1) = (wsd s p m q k || wfl s p m q k) := rfl
        rw [sA, sB, sF]
        by_cases d0 : tn (s 107 (8 * p + k)) = 0
        · have so : wsd s p m q k = false := decide_eq_false (fun h => by omega)
          simp only [so, Bool.false_eq_true, ↓reduceIte, Bool.false_or, Nat.add_zero]
          simp (disch := omega) only [fn_283_37, fn_283_121, ↓LMb L, LM L, RM R, hT.1, hk', e8, d0, eq_self, Nat.le_refl, Nat.lt_irrefl, some_if, Option.bind_some, Option.bind_none, Option.some.injEq, ↓reduceIte, reduceCtorEq, Bool.false_eq_true, Bool.true_eq_false, not_true_eq_false, not_false_eq_true, cmb0, cmb1, Nat.reduceAdd, Nat.reduceMul, Nat.reduceSub, Nat.add_zero, Bool.not_eq_true, Bool.not_eq_false, Nat.reduceEqDiff, Nat.reduceLeDiff, Nat.reduceLT, Int32.reduceLT, Int32.reduceLE, iin_nI, iin_lit, iin_m1, tn_nI, tn_lit, nI_lm, nI_ml, nI_al, nI_la, nI_add, pk_mul, nI_le_l, nI_l_le, nI_lt_l, nI_l_lt, nI_eq_l, nI_l_eq, nI_eqP, nI_leP, nI_ltP, nI_m1, m1_nI, nI_ll, m1_l, l_m1]
        · by_cases z : kn s m k ≤ q * wx s k
          · have so : wsd s p m q k = true := decide_eq_true ⟨by omega, z⟩
            simp only [so, ↓reduceIte, Bool.true_or]
            rw [d]
            simp (disch := omega) only [fn_283_37, fn_283_78, fn_283_121, ↓LMb L, LM L, RM R, hT.1, hk', e8, e2, e3, ex, d0, z, eq_self, Nat.le_refl, Nat.lt_irrefl, some_if, Option.bind_some, Option.bind_none, Option.some.injEq, ↓reduceIte, reduceCtorEq, Bool.false_eq_true, Bool.true_eq_false, not_true_eq_false, not_false_eq_true, cmb0, cmb1, Nat.reduceAdd, Nat.reduceMul, Nat.reduceSub, Nat.add_zero, Bool.not_eq_true, Bool.not_eq_false, Nat.reduceEqDiff, Nat.reduceLeDiff, Nat.reduceLT, Int32.reduceLT, Int32.reduceLE, iin_nI, iin_lit, iin_m1, tn_nI, tn_lit, nI_lm, nI_ml, nI_al, nI_la, nI_add, pk_mul, nI_le_l, nI_l_le, nI_lt_l, nI_l_lt, nI_eq_l, nI_l_eq, nI_eqP, nI_leP, nI_ltP, nI_m1, m1_nI, nI_ll, m1_l, l_m1]
          · have so : wsd s p m q k = false := decide_eq_false (fun h => z h.2)
            simp only [so, Bool.false_eq_true, ↓reduceIte, Bool.false_or, Nat.add_zero]
            simp (disch := omega) only [fn_283_37, fn_283_121, ↓LMb L, LM L, RM R, hT.1, hk', e8, e3, ex, d0, z, eq_self, Nat.le_refl, Nat.lt_irrefl, some_if, Option.bind_some, Option.bind_none, Option.some.injEq, ↓reduceIte, reduceCtorEq, Bool.false_eq_true, Bool.true_eq_false, not_true_eq_false, not_false_eq_true, cmb0, cmb1, Nat.reduceAdd, Nat.reduceMul, Nat.reduceSub, Nat.add_zero, Bool.not_eq_true, Bool.not_eq_false, Nat.reduceEqDiff, Nat.reduceLeDiff, Nat.reduceLT, Int32.reduceLT, Int32.reduceLE, iin_nI, iin_lit, iin_m1, tn_nI, tn_lit, nI_lm, nI_ml, nI_al, nI_la, nI_add, pk_mul, nI_le_l, nI_l_le, nI_lt_l, nI_l_lt, nI_eq_l, nI_l_eq, nI_eqP, nI_leP, nI_ltP, nI_m1, m1_nI, nI_ll, m1_l, l_m1]
      · subst ha
        dsimp only
        have b1 := wA_le (q := q) I hp hm (nT s) (Nat.le_refl _)
        have b2 := wB_le (q := q) (m := m) I hp (nT s) (Nat.le_refl _)
        have b3 : q * wB s p m q (nT s) ≤ 999 * (9801 * 8) := Nat.mul_le_mul (by omega) (by omega)
        rw [sc]
        unfold wok
        cases wfl s p m q (nT s)
        · rw [Bool.false_and, if_neg (by decide)]
          simp (disch := omega) only [fn_283_37, fn_283_127, ↓LMb L, LM L, RM R, hT.1, e143, eq_self, Nat.le_refl, Nat.lt_irrefl, some_if, Option.bind_some, Option.bind_none, Option.some.injEq, ↓reduceIte, reduceCtorEq, Bool.false_eq_true, Bool.true_eq_false, not_true_eq_false, not_false_eq_true, cmb0, cmb1, Nat.reduceAdd, Nat.reduceMul, Nat.reduceSub, Nat.add_zero, Bool.not_eq_true, Bool.not_eq_false, Nat.reduceEqDiff, Nat.reduceLeDiff, Nat.reduceLT, Int32.reduceLT, Int32.reduceLE, iin_nI, iin_lit, iin_m1, tn_nI, tn_lit, nI_lm, nI_ml, nI_al, nI_la, nI_add, pk_mul, nI_le_l, nI_l_le, nI_lt_l, nI_l_lt, nI_eq_l, nI_l_eq, nI_eqP, nI_leP, nI_ltP, nI_m1, m1_nI, nI_ll, m1_l, l_m1]
        · by_cases z : q * wB s p m q (nT s) ≤ wA s p m q (nT s)
          · have z2 : ¬ wA s p m q (nT s) < q * wB s p m q (nT s) := by omega
            rw [decide_eq_true z, Bool.true_and, if_pos rfl]
            simp (disch := omega) only [fn_283_37, fn_283_127, ↓LMb L, LM L, RM R, hT.1, z2, enc_s, eq_self, Nat.le_refl, Nat.lt_irrefl, some_if, Option.bind_some, Option.bind_none, Option.some.injEq, ↓reduceIte, reduceCtorEq, Bool.false_eq_true, Bool.true_eq_false, not_true_eq_false, not_false_eq_true, cmb0, cmb1, Nat.reduceAdd, Nat.reduceMul, Nat.reduceSub, Nat.add_zero, Bool.not_eq_true, Bool.not_eq_false, Nat.reduceEqDiff, Nat.reduceLeDiff, Nat.reduceLT, Int32.reduceLT, Int32.reduceLE, iin_nI, iin_lit, iin_m1, tn_nI, tn_lit, nI_lm, nI_ml, nI_al, nI_la, nI_add, pk_mul, nI_le_l, nI_l_le, nI_lt_l, nI_l_lt, nI_eq_l, nI_l_eq, nI_eqP, nI_leP, nI_ltP, nI_m1, m1_nI, nI_ll, m1_l, l_m1]
          · have z2 : wA s p m q (nT s) < q * wB s p m q (nT s) := by omega
            rw [decide_eq_false z, Bool.true_and, if_neg (show ¬ false = true by decide)]
            simp (disch := omega) only [fn_283_37, fn_283_127, ↓LMb L, LM L, RM R, hT.1, z2, e143, eq_self, Nat.le_refl, Nat.lt_irrefl, some_if, Option.bind_some, Option.bind_none, Option.some.injEq, ↓reduceIte, reduceCtorEq, Bool.false_eq_true, Bool.true_eq_false, not_true_eq_false, not_false_eq_true, cmb0, cmb1, Nat.reduceAdd, Nat.reduceMul, Nat.reduceSub, Nat.add_zero, Bool.not_eq_true, Bool.not_eq_false, Nat.reduceEqDiff, Nat.reduceLeDiff, Nat.reduceLT, Int32.reduceLT, Int32.reduceLE, iin_nI, iin_lit, iin_m1, tn_nI, tn_lit, nI_lm, nI_ml, nI_al, nI_la, nI_add, pk_mul, nI_le_l, nI_l_le, nI_lt_l, nI_l_lt, nI_eq_l, nI_l_eq, nI_eqP, nI_leP, nI_ltP, nI_m1, m1_nI, nI_ll, m1_l, l_m1]
  exact main 1000 (by omega) cm_N (by decide +kernel)
theorem w_weight (g : GG v c w s) (i1 i2 : Int32) : OKW (fn_180 2 i1 i2) (fun x => (fn_283 x 96 i1 i2).map (fun r => (r, x))) w := by
  obtain ⟨L, M, C, Z, I⟩ := id g
  have hv := L.1
  have V := C.2.1
  have hT := I.1.1
  have hP := I.1.2.1
  rcases iin_cs i1 (n := nP s) (by omega) with h | ⟨p, hp, rfl⟩
  · refine ok_bad g ?_ (fun x L1 M1 => ?_)
    · simp (disch := omega) only [fn_180, fn_177, ↓LCb L, LC L, LV L hv, c10o L hv V I.1 h, eq_self, Nat.le_refl, Nat.lt_irrefl, some_if, Option.bind_some, Option.bind_none, Option.some.injEq, ↓reduceIte, reduceCtorEq, Bool.false_eq_true, Bool.true_eq_false, not_true_eq_false, not_false_eq_true, cmb0, cmb1, Nat.reduceAdd, Nat.reduceMul, Nat.reduceSub, Nat.add_zero, Bool.not_eq_true, Bool.not_eq_false, Nat.reduceEqDiff, Nat.reduceLeDiff, Nat.reduceLT, Int32.reduceLT, Int32.reduceLE, iin_nI, iin_lit, iin_m1, tn_nI, tn_lit, nI_lm, nI_ml, nI_al, nI_la, nI_add, pk_mul, nI_le_l, nI_l_le, nI_lt_l, nI_l_lt, nI_eq_l, nI_l_eq, nI_eqP, nI_leP, nI_ltP, nI_m1, m1_nI, nI_ll, m1_l, l_m1]
    · simp (disch := omega) only [fn_283, LM L1, mWho L1 M1 I.1, h, Option.map_some, eq_self, Nat.le_refl, Nat.lt_irrefl, some_if, Option.bind_some, Option.bind_none, Option.some.injEq, ↓reduceIte, reduceCtorEq, Bool.false_eq_true, Bool.true_eq_false, not_true_eq_false, not_false_eq_true, cmb0, cmb1, Nat.reduceAdd, Nat.reduceMul, Nat.reduceSub, Nat.add_zero, Bool.not_eq_true, Bool.not_eq_false, Nat.reduceEqDiff, Nat.reduceLeDiff, Nat.reduceLT, Int32.reduceLT, Int32.reduceLE, iin_nI, iin_lit, iin_m1, tn_nI, tn_lit, nI_lm, nI_ml, nI_al, nI_la, nI_add, pk_mul, nI_le_l, nI_l_le, nI_lt_l, nI_l_lt, nI_eq_l, nI_l_eq, nI_eqP, nI_leP, nI_ltP, nI_m1, m1_nI, nI_ll, m1_l, l_m1]
  obtain ⟨es, hs, hs2⟩ := shs_n I.1 hp
  have e10 := (c10 L hv V I.1 hp).trans (congrArg some es)
  rcases iin_cs i2 (n := 6) (by omega) with h | ⟨m, hm, rfl⟩
  · refine ok_bad g ?_ (fun x L1 M1 => ?_)
    · by_cases z : tn (shs s p) ≤ 0 <;> simp (disch := omega) only [fn_180, fn_177, bmon, ↓LCb L, LC L, LV L hv, e10, z, h, eq_self, Nat.le_refl, Nat.lt_irrefl, some_if, Option.bind_some, Option.bind_none, Option.some.injEq, ↓reduceIte, reduceCtorEq, Bool.false_eq_true, Bool.true_eq_false, not_true_eq_false, not_false_eq_true, cmb0, cmb1, Nat.reduceAdd, Nat.reduceMul, Nat.reduceSub, Nat.add_zero, Bool.not_eq_true, Bool.not_eq_false, Nat.reduceEqDiff, Nat.reduceLeDiff, Nat.reduceLT, Int32.reduceLT, Int32.reduceLE, iin_nI, iin_lit, iin_m1, tn_nI, tn_lit, nI_lm, nI_ml, nI_al, nI_la, nI_add, pk_mul, nI_le_l, nI_l_le, nI_lt_l, nI_l_lt, nI_eq_l, nI_l_eq, nI_eqP, nI_leP, nI_ltP, nI_m1, m1_nI, nI_ll, m1_l, l_m1]
    · simp (disch := omega) only [fn_283, LM L1, mWho L1 M1 I.1, mmon (a := 0) _ L1, h, Option.map_some, eq_self, Nat.le_refl, Nat.lt_irrefl, some_if, Option.bind_some, Option.bind_none, Option.some.injEq, ↓reduceIte, reduceCtorEq, Bool.false_eq_true, Bool.true_eq_false, not_true_eq_false, not_false_eq_true, cmb0, cmb1, Nat.reduceAdd, Nat.reduceMul, Nat.reduceSub, Nat.add_zero, Bool.not_eq_true, Bool.not_eq_false, Nat.reduceEqDiff, Nat.reduceLeDiff, Nat.reduceLT, Int32.reduceLT, Int32.reduceLE, iin_nI, iin_lit, iin_m1, tn_nI, tn_lit, nI_lm, nI_ml, nI_al, nI_la, nI_add, pk_mul, nI_le_l, nI_l_le, nI_lt_l, nI_l_lt, nI_eq_l, nI_l_eq, nI_eqP, nI_leP, nI_ltP, nI_m1, m1_nI, nI_ll, m1_l, l_m1]
  have rf : ∀ x, Lay v c x → RelM x s → fn_283 x 96 (nI p) (nI m) = some (enc (wsc s p m 1000)) := fun x L1 M1 => by
    have e := m283 L1 M1 I.1 hp hm
    simp (disch := omega) only [fn_283, LM L1, mWho L1 M1 I.1, mmon (a := 0) _ L1, e, eq_self, Nat.le_refl, Nat.lt_irrefl, some_if, Option.bind_some, Option.bind_none, Option.some.injEq, ↓reduceIte, reduceCtorEq, Bool.false_eq_true, Bool.true_eq_false, not_true_eq_false, not_false_eq_true, cmb0, cmb1, Nat.reduceAdd, Nat.reduceMul, Nat.reduceSub, Nat.add_zero, Bool.not_eq_true, Bool.not_eq_false, Nat.reduceEqDiff, Nat.reduceLeDiff, Nat.reduceLT, Int32.reduceLT, Int32.reduceLE, iin_nI, iin_lit, iin_m1, tn_nI, tn_lit, nI_lm, nI_ml, nI_al, nI_la, nI_add, pk_mul, nI_le_l, nI_l_le, nI_lt_l, nI_l_lt, nI_eq_l, nI_l_eq, nI_eqP, nI_leP, nI_ltP, nI_m1, m1_nI, nI_ll, m1_l, l_m1]
  by_cases z : tn (shs s p) ≤ 0
  · have t0 : nT s = 0 := by
      rcases Nat.eq_zero_or_pos (nT s) with h | h
      · exact h
      · exact absurd (hs2 h) (by omega)
    have w0 : wsc s p m 1000 = 0 := by
      have : ∀ q, wsc s p m q = 0 := by
        intro q
        induction q with
        | zero => rfl
        | succ q ih =>
          show (if wok s p m q then q + 1 else wsc s p m q) = 0
          have : wok s p m q = false := by unfold wok; rw [t0]; rfl
          rw [this, ih]; rfl
      exact this 1000
    refine ok_bad g ?_ (fun x L1 M1 => ?_)
    · simp (disch := omega) only [fn_180, fn_177, ↓LCb L, LC L, LV L hv, e10, z, eq_self, Nat.le_refl, Nat.lt_irrefl, some_if, Option.bind_some, Option.bind_none, Option.some.injEq, ↓reduceIte, reduceCtorEq, Bool.false_eq_true, Bool.true_eq_false, not_true_eq_false, not_false_eq_true, cmb0, cmb1, Nat.reduceAdd, Nat.reduceMul, Nat.reduceSub, Nat.add_zero, Bool.not_eq_true, Bool.not_eq_false, Nat.reduceEqDiff, Nat.reduceLeDiff, Nat.reduceLT, Int32.reduceLT, Int32.reduceLE, iin_nI, iin_lit, iin_m1, tn_nI, tn_lit, nI_lm, nI_ml, nI_al, nI_la, nI_add, pk_mul, nI_le_l, nI_l_le, nI_lt_l, nI_l_lt, nI_eq_l, nI_l_eq, nI_eqP, nI_leP, nI_ltP, nI_m1, m1_nI, nI_ll, m1_l, l_m1]
    · show (fn_283 x 96 (nI p) (nI m)).map _ = _
      rw [rf x L1 M1, w0]; rfl
  obtain ⟨y1, y, a1, F1, a2, F, K⟩ := c_mko L hv V I.1 hp hm
  have a3 := c50 F.1 hv (F.V V hv) I.1 hp hm K
  refine ok_ro (r := enc (wsc s p m 1000)) g ⟨y, ?_, F⟩ (fun x L1 M1 _ => ⟨x, ?_, FM.rf L1 M1⟩)
  · simp (disch := omega) only [fn_180, fn_180_17, fn_177, bmon, ↓LCb L, LC L, LV L hv, e10, z, a1, ↓LCb F1.1, LC F1.1, a2, ↓LCb F.1, LC F.1, a3, eq_self, Nat.le_refl, Nat.lt_irrefl, some_if, Option.bind_some, Option.bind_none, Option.some.injEq, ↓reduceIte, reduceCtorEq, Bool.false_eq_true, Bool.true_eq_false, not_true_eq_false, not_false_eq_true, cmb0, cmb1, Nat.reduceAdd, Nat.reduceMul, Nat.reduceSub, Nat.add_zero, Bool.not_eq_true, Bool.not_eq_false, Nat.reduceEqDiff, Nat.reduceLeDiff, Nat.reduceLT, Int32.reduceLT, Int32.reduceLE, iin_nI, iin_lit, iin_m1, tn_nI, tn_lit, nI_lm, nI_ml, nI_al, nI_la, nI_add, pk_mul, nI_le_l, nI_l_le, nI_lt_l, nI_l_lt, nI_eq_l, nI_l_eq, nI_eqP, nI_leP, nI_ltP, nI_m1, m1_nI, nI_ll, m1_l, l_m1]
  · show (fn_283 x 96 (nI p) (nI m)).map _ = _
    rw [rf x L1 M1]; rfl
end WGT
