/-! years: drawn things -/
def dw (x : Int64) : Nat := x.toBitVec.toNat / 2 ^ 33
def yz (z : Int64) : Nat → Int64 := fup (fun _ x => x * 6364136223846793005 + 1442695040888963407) z
def ysh (s : St) (p t : Nat) : Nat := (mko s p 0).D t
def ydf (s : St) (p : Nat) : Nat → Nat → Nat → Nat
  | 0, t, _ => t
  | k + 1, t, r => if r < ysh s p t then t else ydf s p k (t + 1) (r - ysh s p t)
def ydD (s : St) (p D : Nat) : Nat := ydf s p (nT s) 0 (D % tn (shs s p))
/-- the thing of a year -/
def yth (s : St) (p : Nat) (z : Int64) (k : Nat) : Nat := ydD s p (dw (yz z (k + 1)))
def yvl (s : St) (r : Nat) (bb : Nat → Bool) (t : Nat) : Int32 := if bb t = true then nI r else nI (kn s 0 t)
def ybr (s : St) (p : Nat) (z : Int64) (r : Nat) (bb : Nat → Bool) : Nat → Int32 := fup (fun j a => a + yvl s r bb (yth s p z j)) 0
def yof (s : St) (p : Nat) (z : Int64) (i : Int32) : Nat → Int32 := fup (fun j a => a + if nI (yth s p z j) = i - 10 then 1 else 0) 0
def ycn (s : St) (p : Nat) (z : Int64) (t : Nat) : Nat → Int32 := fup (fun j a => a + if yth s p z j = t then 1 else 0) 0
section YEARS
variable {v c u n m p q d : Nat} {w w' w'' x : cm_W} {s s' : St}
theorem dw_ok (x : Int64) : ((Int64.toUInt64 x) >>> ((Int32.toInt64 (33 : Int32)).toUInt64 &&& Int64.toUInt64 63)).toInt64 = lN (dw x) ∧ dw x < 2147483648 := by
  obtain ⟨n, hn, rfl⟩ := wb_of x
  have e : dw (lN n) = n / 2 ^ 33 := by unfold dw; rw [wb_tn hn]
  rw [e]
  exact ⟨wb_shr (k := 33) hn (by omega), by omega⟩
theorem ysh_n (I : InvV s) (hp : p < nP s) {t : Nat} (ht : t < nT s) : s 107 (8 * p + t) = nI (ysh s p t) ∧ ysh s p t < 100 := by
  have d : ysh s p t = tn (s 107 (8 * p + t)) := if_pos ht
  rw [d]
  exact sh_n I hp ht
theorem ydf_ok (I : InvV s) (hp : p < nP s) : ∀ d t r, t + d = nT s → r + sgm (ysh s p) t < sgm (ysh s p) (nT s) → ydf s p d t r < nT s ∧ (r < 1000 →
    (∀ {v c : Nat} {w : cm_W}, Lay v c w → (v = 10 ∨ v = 20) → VilC w v s → ∀ N, d < N → fn_136_26 w N v (nI p) (lN r) (nI t) = some (nI (ydf s p d t r)))
    ∧ (∀ {v c : Nat} {w : cm_W}, Lay v c w → RelM w s → ∀ K i2 i3 j4 i6 i7 N, d < N → fn_294_123 K N 96 (nI p) i2 i3 j4 i6 i7 (nI r) (nI t) w = fn_294_153 K 96 (nI p) i2 i3 j4 i6 i7 (nI (ydf s p d t r)) w)) := by
  have hT := I.1
  have hP := I.2.1
  intro d
  induction d with
  | zero =>
    intro t r h1 h2
    obtain rfl : t = nT s := by omega
    omega
  | succ d ih =>
    intro t r h1 h2
    have ht : t < nT s := by omega
    obtain ⟨es, hs⟩ := ysh_n I hp ht
    have st : ydf s p (d + 1) t r = if r < ysh s p t then t else ydf s p d (t + 1) (r - ysh s p t) := rfl
    rw [st]
    have s2 : sgm (ysh s p) (t + 1) = sgm (ysh s p) t + ysh s p t := rfl
    by_cases z : r < ysh s p t
    · rw [if_pos z]
      refine ⟨ht, fun hr => ⟨fun {v c w} L hv V N hN => ?_, fun {v c w} L M K i2 i3 j4 i6 i7 N hN => ?_⟩⟩
      · obtain ⟨N, rfl⟩ : ∃ k, N = k + 1 := ⟨N - 1, by omega⟩
        have ht' : ¬ nT s ≤ t := by omega
        have e8 := (c8 L hv V I hp ht).trans (congrArg some es)
        have hq : ((0 : Int64) ≤ lN r - lN (ysh s p t)) = False := by
          rw [← Int64.not_lt, lsub_neg (by omega) (by omega)]
          exact eq_false (fun h => h z)
        simp (disch := omega) only [fn_136_26, ↓LVb L hv, LV L hv, V.1, hT.1, ht', e8, nI_l, lgc_ge, hq, eq_self, Nat.le_refl, Nat.lt_irrefl, some_if, Option.bind_some, Option.bind_none, Option.some.injEq, ↓reduceIte, reduceCtorEq, Bool.false_eq_true, Bool.true_eq_false, not_true_eq_false, not_false_eq_true, cmb0, cmb1, Nat.reduceAdd, Nat.reduceMul, Nat.reduceSub, Nat.add_zero, Bool.not_eq_true, Bool.not_eq_false, Nat.reduceEqDiff, Nat.reduceLeDiff, Nat.reduceLT, Int32.reduceLT, Int32.reduceLE, iin_nI, iin_lit, iin_m1, tn_nI, tn_lit, nI_lm, nI_ml, nI_al, nI_la, nI_add, pk_mul, nI_le_l, nI_l_le, nI_lt_l, nI_l_lt, nI_eq_l, nI_l_eq, nI_eqP, nI_leP, nI_ltP, nI_m1, m1_nI, nI_ll, m1_l, l_m1]
      · obtain ⟨N, rfl⟩ : ∃ k, N = k + 1 := ⟨N - 1, by omega⟩
        have e8 := (m228 L M (p := p) (t := t) (by omega) (by omega)).trans (congrArg some es)
        simp (disch := omega) only [fn_294_123, LM L, e8, z, eq_self, Nat.le_refl, Nat.lt_irrefl, some_if, Option.bind_some, Option.bind_none, Option.some.injEq, ↓reduceIte, reduceCtorEq, Bool.false_eq_true, Bool.true_eq_false, not_true_eq_false, not_false_eq_true, cmb0, cmb1, Nat.reduceAdd, Nat.reduceMul, Nat.reduceSub, Nat.add_zero, Bool.not_eq_true, Bool.not_eq_false, Nat.reduceEqDiff, Nat.reduceLeDiff, Nat.reduceLT, Int32.reduceLT, Int32.reduceLE, iin_nI, iin_lit, iin_m1, tn_nI, tn_lit, nI_lm, nI_ml, nI_al, nI_la, nI_add, pk_mul, nI_le_l, nI_l_le, nI_lt_l, nI_l_lt, nI_eq_l, nI_l_eq, nI_eqP, nI_leP, nI_ltP, nI_m1, m1_nI, nI_ll, m1_l, l_m1]
    · rw [if_neg z]
      have nx := ih (t + 1) (r - ysh s p t) (by omega) (by omega)
      refine ⟨nx.1, fun hr => ⟨fun {v c w} L hv V N hN => ?_, fun {v c w} L M K i2 i3 j4 i6 i7 N hN => ?_⟩⟩
      · obtain ⟨N, rfl⟩ : ∃ k, N = k + 1 := ⟨N - 1, by omega⟩
        have ht' : ¬ nT s ≤ t := by omega
        have e8 := (c8 L hv V I hp ht).trans (congrArg some es)
        have hq : ((0 : Int64) ≤ lN r - lN (ysh s p t)) = True := by
          rw [← Int64.not_lt, lsub_neg (by omega) (by omega)]
          exact eq_true z
        have sb : lN r - lN (ysh s p t) = lN (r - ysh s p t) := lN_sub (by omega)
        have e := (nx.2 (by omega)).1 L hv V N (by omega)
        rw [← e]
        rw [sb] at hq
        simp (disch := omega) only [fn_136_26, fn_136_61, ↓LVb L hv, LV L hv, V.1, hT.1, ht', e8, nI_l, lgc_ge, sb, hq, eq_self, Nat.le_refl, Nat.lt_irrefl, some_if, Option.bind_some, Option.bind_none, Option.some.injEq, ↓reduceIte, reduceCtorEq, Bool.false_eq_true, Bool.true_eq_false, not_true_eq_false, not_false_eq_true, cmb0, cmb1, Nat.reduceAdd, Nat.reduceMul, Nat.reduceSub, Nat.add_zero, Bool.not_eq_true, Bool.not_eq_false, Nat.reduceEqDiff, Nat.reduceLeDiff, Nat.reduceLT, Int32.reduceLT, Int32.reduceLE, iin_nI, iin_lit, iin_m1, tn_nI, tn_lit, nI_lm, nI_ml, nI_al, nI_la, nI_add, pk_mul, nI_le_l, nI_l_le, nI_lt_l, nI_l_lt, nI_eq_l, nI_l_eq, nI_eqP, nI_leP, nI_ltP, nI_m1, m1_nI, nI_ll, m1_l, l_m1]
      · obtain ⟨N, rfl⟩ : ∃ k, N = k + 1 := ⟨N - 1, by omega⟩
        have e8 := (m228 L M (p := p) (t := t) (by omega) (by omega)).trans (congrArg some es)
        have sb : nI r - nI (ysh s p t) = nI (r - ysh s p t) := pk_sub (by omega)
        have e := (nx.2 (by omega)).2 L M K i2 i3 j4 i6 i7 N (by omega)
        rw [← e]
        simp (disch := omega) only [fn_294_123, LM L, e8, z, sb, eq_self, Nat.le_refl, Nat.lt_irrefl, some_if, Option.bind_some, Option.bind_none, Option.some.injEq, ↓reduceIte, reduceCtorEq, Bool.false_eq_true, Bool.true_eq_false, not_true_eq_false, not_false_eq_true, cmb0, cmb1, Nat.reduceAdd, Nat.reduceMul, Nat.reduceSub, Nat.add_zero, Bool.not_eq_true, Bool.not_eq_false, Nat.reduceEqDiff, Nat.reduceLeDiff, Nat.reduceLT, Int32.reduceLT, Int32.reduceLE, iin_nI, iin_lit, iin_m1, tn_nI, tn_lit, nI_lm, nI_ml, nI_al, nI_la, nI_add, pk_mul, nI_le_l, nI_l_le, nI_lt_l, nI_l_lt, nI_eq_l, nI_l_eq, nI_eqP, nI_leP, nI_ltP, nI_m1, m1_nI, nI_ll, m1_l, l_m1]
theorem y_tot (I : InvV s) (hp : p < nP s) : sgm (ysh s p) (nT s) = tn (shs s p) := (shs_sg (m := 0) I hp).symm
theorem ydD_ok (I : InvV s) (hp : p < nP s) (ht : 0 < nT s) (D : Nat) : ydD s p D < nT s ∧
    (∀ {v c : Nat} {w : cm_W}, Lay v c w → (v = 10 ∨ v = 20) → VilC w v s → fn_136_26 w cm_N v (nI p) (lN (D % tn (shs s p))) 0 = some (nI (ydD s p D)))
    ∧ (∀ {v c : Nat} {w : cm_W}, Lay v c w → RelM w s → ∀ K i2 i3 j4 i6 i7, fn_294_123 K cm_N 96 (nI p) i2 i3 j4 i6 i7 (nI (D % tn (shs s p))) 0 w = fn_294_153 K 96 (nI p) i2 i3 j4 i6 i7 (nI (ydD s p D)) w) := by
  obtain ⟨-, h1, h2⟩ := shs_n I hp
  have h2 := h2 ht
  have hT := I.1
  have hN : nT s < cm_N := Nat.lt_of_le_of_lt hT.2 (by decide +kernel)
  have ml : D % tn (shs s p) < tn (shs s p) := Nat.mod_lt D h2
  unfold ydD
  generalize D % tn (shs s p) = r at ml
  have q : r + sgm (ysh s p) 0 < sgm (ysh s p) (nT s) := by
    rw [y_tot I hp]
    show r + 0 < _
    omega
  have A := ydf_ok I hp (nT s) 0 r (by omega) q
  obtain ⟨B, C⟩ := A.2 (by omega)
  exact ⟨A.1, fun L hv V => B L hv V cm_N hN, fun L M K i2 i3 j4 i6 i7 => C L M K i2 i3 j4 i6 i7 cm_N hN⟩
theorem yth_lt (I : InvV s) (hp : p < nP s) (ht : 0 < nT s) (z : Int64) (k : Nat) : yth s p z k < nT s := (ydD_ok I hp ht (dw (yz z (k + 1)))).1
theorem c136D (I : InvV s) (hp : p < nP s) (ht : 0 < nT s) (L : Lay v c w) (hv : v = 10 ∨ v = 20) (V : VilC w v s) {D : Nat} (dl : D < 2147483648) : fn_136 w v (nI p) (lN D) = some (nI (ydD s p D)) := by
  obtain ⟨es, h1, h2⟩ := shs_n I hp
  have h2 := h2 ht
  have e10 := (c10 L hv V I hp).trans (congrArg some es)
  have e := (ydD_ok I hp ht D).2.1 L hv V
  have b0 : ¬ tn (shs s p) ≤ 0 := by omega
  have b1 : ¬ lN (tn (shs s p)) = 0 := by
    rw [show (0 : Int64) = lN 0 from rfl, lN_eq (by omega) (by omega)]; omega
  have rm := pk_lRem (a := D) (b := tn (shs s p)) (by omega) h2 (by omega)
  simp (disch := omega) only [fn_136, LV L hv, e10, b0, nI_l, b1, rm, e, eq_self, Nat.le_refl, Nat.lt_irrefl, some_if, Option.bind_some, Option.bind_none, Option.some.injEq, ↓reduceIte, reduceCtorEq, Bool.false_eq_true, Bool.true_eq_false, not_true_eq_false, not_false_eq_true, cmb0, cmb1, Nat.reduceAdd, Nat.reduceMul, Nat.reduceSub, Nat.add_zero, Bool.not_eq_true, Bool.not_eq_false, Nat.reduceEqDiff, Nat.reduceLeDiff, Nat.reduceLT, Int32.reduceLT, Int32.reduceLE, iin_nI, iin_lit, iin_m1, tn_nI, tn_lit, nI_lm, nI_ml, nI_al, nI_la, nI_add, pk_mul, nI_le_l, nI_l_le, nI_lt_l, nI_l_lt, nI_eq_l, nI_l_eq, nI_eqP, nI_leP, nI_ltP, nI_m1, m1_nI, nI_ll, m1_l, l_m1]
theorem c136 (I : InvV s) (hp : p < nP s) (ht : 0 < nT s) (L : Lay v c w) (hv : v = 10 ∨ v = 20) (V : VilC w v s) (z : Int64) (k : Nat) : fn_136 w v (nI p) (lN (dw (yz z (k + 1)))) = some (nI (yth s p z k)) := c136D I hp ht L hv V (dw_ok (yz z (k + 1))).2
theorem y_cl {y : cm_W} (L : Lay v c y) (hv : v = 10 ∨ v = 20) (V : VilC y v s) (I : InvV s) (hp : p < nP s) {r : Nat} {bb : Nat → Bool} (hr : r < 1000) {n : Nat} (hn : n ≤ 1000) (i3 : Int32) (z : Int64) (ht : 0 < nT s) : fn_188_99 cm_N 2 (nI p) (nI n) i3 (nI r) (msk bb (nT s)) 0 0 z 0 y = some ((if ¬ i3 = 0 then yof s p z i3 n else ybr s p z r bb n), y) := by
  have hT := I.1
  refine up_0 (fun N k (a : Int32 × Int32 × Int64) => fn_188_99 N 2 (nI p) (nI n) i3 (nI r) (msk bb (nT s)) a.1 a.2.1 a.2.2 (nI k) y) n (fun k a => a = (ybr s p z r bb k, yof s p z i3 k, yz z k)) (fun o => o = _) ((0 : Int32), (0 : Int32), z) (by omega) rfl (fun N k a hk ha => Or.inr ⟨_, rfl, ?_⟩) (fun N a ha => ?_)
  · subst ha
    dsimp only
    have hk' : ¬ n ≤ k := by omega
    have e6 := c136 I hp ht L hv V z k
    have tl := yth_lt I hp ht z k
    have s1 : ybr s p z r bb (k + 1) = ybr s p z r bb k + yvl s r bb (yth s p z k) := rfl
    have s2 : yof s p z i3 (k + 1) = yof s p z i3 k + if nI (yth s p z k) = i3 - 10 then 1 else 0 := rfl
    have s3 : yz z k * 6364136223846793005 + 1442695040888963407 = yz z (k + 1) := rfl
    have hb : (((msk bb (nT s)) >>> (nI (yth s p z k) &&& 31)) &&& (1 : Int32) = 1) = (bb (yth s p z k) = true) := by
      rw [bt1 _ (by omega), msk_bit bb (by omega) (nT s) (by omega), decide_eq_true tl, Bool.true_and]
    have e31 := (c31i L hv V I tl (nI 0)).trans (congrArg some (ko_n I tl (m := 0) (by omega)))
    have e31 : fn_31 y v (nI (yth s p z k)) 0 = some (nI (kn s 0 (yth s p z k))) := e31
    rw [fn_188_99, (dw_ok _).1, s3, s1, s2]
    unfold yvl
    generalize yth s p z k = th at *
    by_cases q : bb th = true
    · by_cases q2 : nI th = i3 - 10
      · have q3 := eq_true q2
        simp (disch := omega) only [hk', ↓LCb L, LC L, LV L hv, e6, hb, q, q3, eq_self, Nat.le_refl, Nat.lt_irrefl, some_if, Option.bind_some, Option.bind_none, Option.some.injEq, ↓reduceIte, reduceCtorEq, Bool.false_eq_true, Bool.true_eq_false, not_true_eq_false, not_false_eq_true, cmb0, cmb1, Nat.reduceAdd, Nat.reduceMul, Nat.reduceSub, Nat.add_zero, Bool.not_eq_true, Bool.not_eq_false, Nat.reduceEqDiff, Nat.reduceLeDiff, Nat.reduceLT, Int32.reduceLT, Int32.reduceLE, iin_nI, iin_lit, iin_m1, tn_nI, tn_lit, nI_lm, nI_ml, nI_al, nI_la, nI_add, pk_mul, nI_le_l, nI_l_le, nI_lt_l, nI_l_lt, nI_eq_l, nI_l_eq, nI_eqP, nI_leP, nI_ltP, nI_m1, m1_nI, nI_ll, m1_l, l_m1]
      · simp (disch := omega) only [hk', ↓LCb L, LC L, LV L hv, e6, hb, q, q2, eq_self, Nat.le_refl, Nat.lt_irrefl, some_if, Option.bind_some, Option.bind_none, Option.some.injEq, ↓reduceIte, reduceCtorEq, Bool.false_eq_true, Bool.true_eq_false, not_true_eq_false, not_false_eq_true, cmb0, cmb1, Nat.reduceAdd, Nat.reduceMul, Nat.reduceSub, Nat.add_zero, Bool.not_eq_true, Bool.not_eq_false, Nat.reduceEqDiff, Nat.reduceLeDiff, Nat.reduceLT, Int32.reduceLT, Int32.reduceLE, iin_nI, iin_lit, iin_m1, tn_nI, tn_lit, nI_lm, nI_ml, nI_al, nI_la, nI_add, pk_mul, nI_le_l, nI_l_le, nI_lt_l, nI_l_lt, nI_eq_l, nI_l_eq, nI_eqP, nI_leP, nI_ltP, nI_m1, m1_nI, nI_ll, m1_l, l_m1]
    · by_cases q2 : nI th = i3 - 10
      · have q3 := eq_true q2
        simp (disch := omega) only [hk', ↓LCb L, LC L, LV L hv, e6, hb, q, q3, e31, eq_self, Nat.le_refl, Nat.lt_irrefl, some_if, Option.bind_some, Option.bind_none, Option.some.injEq, ↓reduceIte, reduceCtorEq, Bool.false_eq_true, Bool.true_eq_false, not_true_eq_false, not_false_eq_true, cmb0, cmb1, Nat.reduceAdd, Nat.reduceMul, Nat.reduceSub, Nat.add_zero, Bool.not_eq_true, Bool.not_eq_false, Nat.reduceEqDiff, Nat.reduceLeDiff, Nat.reduceLT, Int32.reduceLT, Int32.reduceLE, iin_nI, iin_lit, iin_m1, tn_nI, tn_lit, nI_lm, nI_ml, nI_al, nI_la, nI_add, pk_mul, nI_le_l, nI_l_le, nI_lt_l, nI_l_lt, nI_eq_l, nI_l_eq, nI_eqP, nI_leP, nI_ltP, nI_m1, m1_nI, nI_ll, m1_l, l_m1]
      · simp (disch := omega) only [hk', ↓LCb L, LC L, LV L hv, e6, hb, q, q2, e31, eq_self, Nat.le_refl, Nat.lt_irrefl, some_if, Option.bind_some, Option.bind_none, Option.some.injEq, ↓reduceIte, reduceCtorEq, Bool.false_eq_true, Bool.true_eq_false, not_true_eq_false, not_false_eq_true, cmb0, cmb1, Nat.reduceAdd, Nat.reduceMul, Nat.reduceSub, Nat.add_zero, Bool.not_eq_true, Bool.not_eq_false, Nat.reduceEqDiff, Nat.reduceLeDiff, Nat.reduceLT, Int32.reduceLT, Int32.reduceLE, iin_nI, iin_lit, iin_m1, tn_nI, tn_lit, nI_lm, nI_ml, nI_al, nI_la, nI_add, pk_mul, nI_le_l, nI_l_le, nI_lt_l, nI_l_lt, nI_eq_l, nI_l_eq, nI_eqP, nI_leP, nI_ltP, nI_m1, m1_nI, nI_ll, m1_l, l_m1]
  · subst ha
    dsimp only
    by_cases q : i3 = 0 <;> simp (disch := omega) only [fn_188_99, fn_188_188, q, eq_self, Nat.le_refl, Nat.lt_irrefl, some_if, Option.bind_some, Option.bind_none, Option.some.injEq, ↓reduceIte, reduceCtorEq, Bool.false_eq_true, Bool.true_eq_false, not_true_eq_false, not_false_eq_true, cmb0, cmb1, Nat.reduceAdd, Nat.reduceMul, Nat.reduceSub, Nat.add_zero, Bool.not_eq_true, Bool.not_eq_false, Nat.reduceEqDiff, Nat.reduceLeDiff, Nat.reduceLT, Int32.reduceLT, Int32.reduceLE, iin_nI, iin_lit, iin_m1, tn_nI, tn_lit, nI_lm, nI_ml, nI_al, nI_la, nI_add, pk_mul, nI_le_l, nI_l_le, nI_lt_l, nI_l_lt, nI_eq_l, nI_l_eq, nI_eqP, nI_leP, nI_ltP, nI_m1, m1_nI, nI_ll, m1_l, l_m1]
theorem y_rf (L : Lay v c x) (R : RelM x s) (I : InvV s) (hp : p < nP s) (ht : 0 < nT s) {n : Nat} (hn : n ≤ 1000) (i3 : Int32) : ∃ y, fn_294_48 96 (nI p) (nI n) i3 x = fn_294_170 96 (nI p) i3 y ∧ FM v c x y s ∧ ∀ t, t < nT s → cm_I y 139 t = ycn s p (cm_L x 96 71) t n := by
  have hT := I.1
  have hP := I.2.1
  obtain ⟨es, h1, h2⟩ := shs_n I hp
  have h2 := h2 ht
  have e9 := (m229 L R I (p := p) (by omega)).trans (congrArg some es)
  generalize hz : cm_L x 96 71 = z
  have e0 : fn_294_48 96 (nI p) (nI n) i3 x = fn_294_64 cm_N 96 (nI p) (nI n) i3 z (nI (tn (shs s p))) (nI 0) x := by
    simp (disch := omega) only [fn_294_48, LM L, e9, hz, eq_self, Nat.le_refl, Nat.lt_irrefl, some_if, Option.bind_some, Option.bind_none, Option.some.injEq, ↓reduceIte, reduceCtorEq, Bool.false_eq_true, Bool.true_eq_false, not_true_eq_false, not_false_eq_true, cmb0, cmb1, Nat.reduceAdd, Nat.reduceMul, Nat.reduceSub, Nat.add_zero, Bool.not_eq_true, Bool.not_eq_false, Nat.reduceEqDiff, Nat.reduceLeDiff, Nat.reduceLT, Int32.reduceLT, Int32.reduceLE, iin_nI, iin_lit, iin_m1, tn_nI, tn_lit, nI_lm, nI_ml, nI_al, nI_la, nI_add, pk_mul, nI_le_l, nI_l_le, nI_lt_l, nI_l_lt, nI_eq_l, nI_l_eq, nI_eqP, nI_leP, nI_ltP, nI_m1, m1_nI, nI_ll, m1_l, l_m1]
    rfl
  rw [e0]
  refine up_0 (fun N t y => fn_294_64 N 96 (nI p) (nI n) i3 z (nI (tn (shs s p))) (nI t) y) (nT s) (fun t y => FM v c x y s ∧ ∀ t', t' < t → cm_I y 139 t' = 0) (fun o => ∃ y, o = fn_294_170 96 (nI p) i3 y ∧ FM v c x y s ∧ ∀ t, t < nT s → cm_I y 139 t = ycn s p z t n) x (by omega) ⟨FM.rf L R, fun t h => by omega⟩ (fun N t y ht hy => Or.inr ?_) (fun N y hy => ?_)
  · obtain ⟨F, h⟩ := hy
    have ht' : ¬ nT s ≤ t := by omega
    refine ⟨cm_sI y 139 t 0, ⟨F.sI (by omega) rfl, fun t' h' => ?_⟩, ?_⟩
    · by_cases q : t' = t
      · subst q; rw [I_eq]
      · rw [I_nk q]; exact h t' (by omega)
    · simp (disch := omega) only [fn_294_64, ↓LMb F.1, LM F.1, RM F.2.1, hT.1, ht', cm_w2, Nat.reduceLeDiff, Nat.reduceLT, decide_true, Bool.and_self, Bool.and_true, eq_self, Nat.le_refl, Nat.lt_irrefl, some_if, Option.bind_some, Option.bind_none, Option.some.injEq, ↓reduceIte, reduceCtorEq, Bool.false_eq_true, Bool.true_eq_false, not_true_eq_false, not_false_eq_true, cmb0, cmb1, Nat.reduceAdd, Nat.reduceMul, Nat.reduceSub, Nat.add_zero, Bool.not_eq_true, Bool.not_eq_false, Nat.reduceEqDiff, Nat.reduceLeDiff, Nat.reduceLT, Int32.reduceLT, Int32.reduceLE, iin_nI, iin_lit, iin_m1, tn_nI, tn_lit, nI_lm, nI_ml, nI_al, nI_la, nI_add, pk_mul, nI_le_l, nI_l_le, nI_lt_l, nI_l_lt, nI_eq_l, nI_l_eq, nI_eqP, nI_leP, nI_ltP, nI_m1, m1_nI, nI_ll, m1_l, l_m1]
  · obtain ⟨F, h⟩ := hy
    have e1 : fn_294_64 (N + 1) 96 (nI p) (nI n) i3 z (nI (tn (shs s p))) (nI (nT s)) y = fn_294_90 cm_N 96 (nI p) (nI n) i3 z (nI (tn (shs s p))) (nI 0) y := by
      simp (disch := omega) only [fn_294_64, fn_294_87, LM F.1, RM F.2.1, hT.1, eq_self, Nat.le_refl, Nat.lt_irrefl, some_if, Option.bind_some, Option.bind_none, Option.some.injEq, ↓reduceIte, reduceCtorEq, Bool.false_eq_true, Bool.true_eq_false, not_true_eq_false, not_false_eq_true, cmb0, cmb1, Nat.reduceAdd, Nat.reduceMul, Nat.reduceSub, Nat.add_zero, Bool.not_eq_true, Bool.not_eq_false, Nat.reduceEqDiff, Nat.reduceLeDiff, Nat.reduceLT, Int32.reduceLT, Int32.reduceLE, iin_nI, iin_lit, iin_m1, tn_nI, tn_lit, nI_lm, nI_ml, nI_al, nI_la, nI_add, pk_mul, nI_le_l, nI_l_le, nI_lt_l, nI_l_lt, nI_eq_l, nI_l_eq, nI_eqP, nI_leP, nI_ltP, nI_m1, m1_nI, nI_ll, m1_l, l_m1]
      rfl
    show ∃ y', fn_294_64 (N + 1) 96 (nI p) (nI n) i3 z (nI (tn (shs s p))) (nI (nT s)) y = _ ∧ _
    rw [e1]
    refine up_0 (fun N k (a : Int64 × cm_W) => fn_294_90 N 96 (nI p) (nI n) i3 a.1 (nI (tn (shs s p))) (nI k) a.2) n (fun k a => a.1 = yz z k ∧ FM v c x a.2 s ∧ ∀ t, t < nT s → cm_I a.2 139 t = ycn s p z t k) (fun o => ∃ y, o = fn_294_170 96 (nI p) i3 y ∧ FM v c x y s ∧ ∀ t, t < nT s → cm_I y 139 t = ycn s p z t n) (z, y) (by omega) ⟨rfl, F, h⟩ (fun N k a hk ha => Or.inr ?_) (fun N a ha => ?_)
    · obtain ⟨a1, y⟩ := a
      obtain ⟨rfl, F, h⟩ := ha
      dsimp only at F h ⊢
      have hk' : ¬ n ≤ k := by omega
      have dl := (dw_ok (yz z (k + 1))).2
      have b1 : ¬ lN (tn (shs s p)) = 0 := by
        rw [show (0 : Int64) = lN 0 from rfl, lN_eq (by omega) (by omega)]; omega
      have rm := pk_lRem (a := dw (yz z (k + 1))) (b := tn (shs s p)) (by omega) h2 (by omega)
      have s3 : yz z k * 6364136223846793005 + 1442695040888963407 = yz z (k + 1) := rfl
      have tl := yth_lt I hp ht z k
      have e : fn_294_123 (fn_294_90 N) cm_N 96 (nI p) (nI n) i3 (yz z (k + 1)) (nI (tn (shs s p))) (nI k) (nI (dw (yz z (k + 1)) % tn (shs s p))) 0 y = fn_294_153 (fn_294_90 N) 96 (nI p) (nI n) i3 (yz z (k + 1)) (nI (tn (shs s p))) (nI k) (nI (yth s p z k)) y := (ydD_ok I hp ht (dw (yz z (k + 1)))).2.2 F.1 F.2.1 _ _ _ _ _ _
      refine ⟨(yz z (k + 1), cm_sI y 139 (yth s p z k) (cm_I y 139 (yth s p z k) + 1)), ⟨rfl, F.sI (by omega) rfl, fun t ht => ?_⟩, ?_⟩
      · show _ = ycn s p z t k + if yth s p z k = t then 1 else 0
        by_cases q : t = yth s p z k
        · subst q; rw [I_eq, if_pos rfl, h _ ht]
        · rw [I_nk q, if_neg (fun q' => q q'.symm), h t ht, Int32.add_zero]
      · show fn_294_90 (N + 1) 96 (nI p) (nI n) i3 (yz z k) (nI (tn (shs s p))) (nI k) y = fn_294_90 N 96 (nI p) (nI n) i3 (yz z (k + 1)) (nI (tn (shs s p))) (nI (k + 1)) _
        rw [fn_294_90, (dw_ok _).1, s3]
        generalize yth s p z k = th at *
        generalize dw (yz z (k + 1)) % tn (shs s p) = R at *
        generalize dw (yz z (k + 1)) = D at *
        generalize yz z (k + 1) = Z at *
        simp (disch := omega) only [hk', nI_l, b1, rm, lN_i, e, fn_294_153, ↓LMb F.1, LM F.1, cm_w2, Nat.reduceLeDiff, Nat.reduceLT, decide_true, Bool.and_self, Bool.and_true, eq_self, Nat.le_refl, Nat.lt_irrefl, some_if, Option.bind_some, Option.bind_none, Option.some.injEq, ↓reduceIte, reduceCtorEq, Bool.false_eq_true, Bool.true_eq_false, not_true_eq_false, not_false_eq_true, cmb0, cmb1, Nat.reduceAdd, Nat.reduceMul, Nat.reduceSub, Nat.add_zero, Bool.not_eq_true, Bool.not_eq_false, Nat.reduceEqDiff, Nat.reduceLeDiff, Nat.reduceLT, Int32.reduceLT, Int32.reduceLE, iin_nI, iin_lit, iin_m1, tn_nI, tn_lit, nI_lm, nI_ml, nI_al, nI_la, nI_add, pk_mul, nI_le_l, nI_l_le, nI_lt_l, nI_l_lt, nI_eq_l, nI_l_eq, nI_eqP, nI_leP, nI_ltP, nI_m1, m1_nI, nI_ll, m1_l, l_m1]
    · obtain ⟨a1, y⟩ := a
      obtain ⟨rfl, F, h⟩ := ha
      dsimp only at F h ⊢
      refine ⟨y, ?_, F, h⟩
      simp (disch := omega) only [fn_294_90, eq_self, Nat.le_refl, Nat.lt_irrefl, some_if, Option.bind_some, Option.bind_none, Option.some.injEq, ↓reduceIte, reduceCtorEq, Bool.false_eq_true, Bool.true_eq_false, not_true_eq_false, not_false_eq_true, cmb0, cmb1, Nat.reduceAdd, Nat.reduceMul, Nat.reduceSub, Nat.add_zero, Bool.not_eq_true, Bool.not_eq_false, Nat.reduceEqDiff, Nat.reduceLeDiff, Nat.reduceLT, Int32.reduceLT, Int32.reduceLE, iin_nI, iin_lit, iin_m1, tn_nI, tn_lit, nI_lm, nI_ml, nI_al, nI_la, nI_add, pk_mul, nI_le_l, nI_l_le, nI_lt_l, nI_l_lt, nI_eq_l, nI_l_eq, nI_eqP, nI_leP, nI_ltP, nI_m1, m1_nI, nI_ll, m1_l, l_m1]
/-- what is brought, by things -/
theorem ysum (I : InvV s) (hp : p < nP s) (ht : 0 < nT s) (z : Int64) (r : Nat) (bb : Nat → Bool) : ∀ n, fup (fun t a => a + ycn s p z t n * yvl s r bb t) 0 (nT s) = ybr s p z r bb n := by
  have up : ∀ (f : Nat → Int32) (q : Nat) (m : Nat), fup (fun t a => a + (f t + if q = t then 1 else 0) * yvl s r bb t) 0 m = fup (fun t a => a + f t * yvl s r bb t) 0 m + if q < m then yvl s r bb q else 0 := by
    intro f q m
    induction m with
    | zero => rfl
    | succ m ih =>
      show fup _ 0 m + (f m + if q = m then 1 else 0) * yvl s r bb m = fup _ 0 m + f m * yvl s r bb m + _
      rw [ih]
      by_cases h1 : q = m
      · subst h1
        rw [if_pos rfl, if_pos (Nat.lt_succ_self q), if_neg (Nat.lt_irrefl q)]
        grind
      · rw [if_neg h1]
        by_cases h2 : q < m
        · rw [if_pos h2, if_pos (by omega)]; grind
        · rw [if_neg h2, if_neg (by omega)]; grind
  intro n
  induction n with
  | zero =>
    have : ∀ m, fup (fun t a => a + ycn s p z t 0 * yvl s r bb t) 0 m = 0 := by
      intro m
      induction m with
      | zero => rfl
      | succ m ih =>
        show fup _ 0 m + (0 : Int32) * yvl s r bb m = 0
        rw [ih]; grind
    exact this _
  | succ n ih =>
    have e := up (fun t => ycn s p z t n) (yth s p z n) (nT s)
    rw [ih, if_pos (yth_lt I hp ht z n)] at e
    exact e
theorem yof_n (I : InvV s) (hp : p < nP s) (ht : 0 < nT s) (z : Int64) {i : Int32} {t : Nat} (hi : i - 10 = nI t) (h8 : t < nT s) : ∀ n, yof s p z i n = ycn s p z t n := by
  have hT := I.1
  intro n
  refine fup_cg fun k x hk => ?_
  have tl := yth_lt I hp ht z k
  rw [hi]
  by_cases q : yth s p z k = t
  · rw [if_pos q, if_pos (by rw [q])]
  · rw [if_neg q, if_neg (fun h => q ((nI_eq (by omega) (by omega)).mp h))]
end YEARS
