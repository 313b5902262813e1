/-! lasts: how likely each number of coins is, from box to box; the class -/
def mn (a : Nat) : Nat := if a < 999 then a else 999
/-- one box at so many coins: what it adds to the next row -/
def lsG (s : St) (p m d : Nat) (x : Int64) (g : Nat → Int64) (n : Nat) : Nat → Int64 := fup (fun t g j => if j = mn (d + wn s m t) then g j + x * (s 107 (8 * p + t)).toInt64 / (shs s p).toInt64 else g j) g n
/-- the next row -/
def lsN (s : St) (p m q : Nat) (f : Nat → Int64) (n : Nat) : Nat → Int64 := fup (fun i g => if f (q + i) ≤ 0 then g else lsG s p m i (f (q + i)) g (nT s)) (fun _ => 0) n
def lsD (s : St) (p m q k0 : Nat) (n : Nat) : Nat → Int64 := fup (fun _ f => lsN s p m q f (1000 - q)) (fun j => if j = k0 then 100000000000000 else 0) n
def lsS (f : Nat → Int64) (n : Nat) : Int64 := fup (fun j a => a + f j) 0 n
/-- the class's rows of the things -/
def LsR (s : St) (p m : Nat) (w : cm_W) : Prop := ∀ t, t < 8 → (t < nT s → cm_I w 59 t = nI (wn s m t) ∧ cm_I w 60 t = nI (tn (s 107 (8 * p + t)))) ∧ (¬ t < nT s → cm_I w 60 t = nI 0)
section LST
variable {v c u n m p q d : Nat} {w w' w'' : cm_W} {s s' : St}
theorem mn_lt (a : Nat) : mn a < 1000 := by unfold mn; split <;> omega
theorem mn_if (a : Nat) : (if a < 999 then nI a else (999 : Int32)) = nI (mn a) := by
  unfold mn
  split
  · rfl
  · rfl
theorem mx_0 (q : Nat) : (if 0 < q then nI q else (0 : Int32)) = nI q := by
  by_cases z : 0 < q
  · rw [if_pos z]
  · obtain rfl : q = 0 := by omega
    rfl
theorem mx_1 (q : Nat) (h0 : 0 < q) : (if 1 < q then nI q else (1 : Int32)) = nI q := by
  by_cases z : 1 < q
  · rw [if_pos z]
  · obtain rfl : q = 1 := by omega
    rfl
theorem FC.tr2 {c' : Nat} (h : FC v c w w') (h2 : FC v c' w' w'') : FC v c' w w'' := ⟨h2.1, fun a ha => ⟨(h2.2 a ha).1.trans (h.2 a ha).1, (h2.2 a ha).2.trans (h.2 a ha).2⟩⟩
theorem FC.swap (h : FC v c w w') : FC v (123 - c) w (cm_sR (cm_sR w' 58 2 (some (123 - c))) 58 3 (some c)) := by
  obtain ⟨⟨l1, l2, l3, l4, l5, l6, l7, l8, l9, l10⟩, h2⟩ := h
  refine ⟨⟨l1, by omega, l3, l4, l5, fun a k x hx => ?_, l7, l8, ?_, ?_⟩, h2⟩
  · have e1 : ¬ (a = 58 ∧ k = 3) := fun z => by rw [z.1, z.2] at hx; cases hx
    have e2 : ¬ (a = 58 ∧ k = 2) := fun z => by rw [z.1, z.2] at hx; cases hx
    show (if a = 58 ∧ k = 3 then some c else if a = 58 ∧ k = 2 then some (123 - c) else cm_R w' a k) = some x
    rw [if_neg e1, if_neg e2]
    exact l6 a k x hx
  · rfl
  · show some c = some (123 - (123 - c))
    rw [show 123 - (123 - c) = c by omega]
theorem co_w (h : c = 61 ∨ c = 62) : cm_w2 58 63 c = true ∧ cm_w2 58 63 (123 - c) = true := by
  rcases h with rfl | rfl <;> exact ⟨rfl, rfl⟩
theorem c9z (L : Lay v c w) {a : Nat} (ha : a = 61 ∨ a = 62) : ∃ y, fn_9 a 0 w = some y ∧ FC v c w y ∧ (cm_I y = cm_I w) ∧ (∀ t, t < 1000 → cm_L y a t = 0) ∧ ∀ b, b ≠ a → cm_L y b = cm_L w b := by
  have hw : cm_w2 58 63 a = true := (co_w ha).1
  have e0 : fn_9 a 0 w = fn_9_6 cm_N a 0 0 (nI 1000) w := by
    unfold fn_9
    rw [bd (LCo L ha).2]
    rfl
  rw [e0]
  refine up_0 (fun m k y => fn_9_6 m a 0 (nI k) (nI 1000) y) 1000 (fun k y => FC v c w y ∧ cm_I y = cm_I w ∧ (∀ t, t < k → cm_L y a t = 0) ∧ ∀ b, b ≠ a → cm_L y b = cm_L w b) (fun o => ∃ y, o = some y ∧ FC v c w y ∧ (cm_I y = cm_I w) ∧ (∀ t, t < 1000 → cm_L y a t = 0) ∧ ∀ b, b ≠ a → cm_L y b = cm_L w b) w (by omega) ⟨FC.rf L, rfl, fun q h => by omega, fun _ _ => rfl⟩ (fun m k y hk hy => Or.inr ?_) (fun m y hy => ?_)
  · obtain ⟨F, hi, h, h2⟩ := hy
    have hk' : ¬ 1000 ≤ k := by omega
    refine ⟨cm_sL y a k 0, ⟨F.sL (by omega), hi, fun q h' => ?_, fun b hb => ?_⟩, ?_⟩
    · by_cases z : q = k
      · subst z; rw [L_eq]
      · rw [L_nk z]; exact h q (by omega)
    · funext j; rw [L_ne hb]; rw [h2 b hb]
    · simp (disch := omega) only [fn_9_6, hk', LCo F.1 ha, hw, eq_self, Nat.le_refl, Nat.lt_irrefl, some_if, Option.bind_some, Option.bind_none, Option.some.injEq, ↓reduceIte, reduceCtorEq, Bool.false_eq_true, Bool.true_eq_false, not_true_eq_false, not_false_eq_true, cmb0, cmb1, Nat.reduceAdd, Nat.reduceMul, Nat.reduceSub, Nat.add_zero, Bool.not_eq_true, Bool.not_eq_false, Nat.reduceEqDiff, Nat.reduceLeDiff, Nat.reduceLT, Int32.reduceLT, Int32.reduceLE, iin_nI, iin_lit, iin_m1, tn_nI, tn_lit, nI_lm, nI_ml, nI_al, nI_la, nI_add, pk_mul, nI_le_l, nI_l_le, nI_lt_l, nI_l_lt, nI_eq_l, nI_l_eq, nI_eqP, nI_leP, nI_ltP, nI_m1, m1_nI, nI_ll, m1_l, l_m1]
  · obtain ⟨F, h⟩ := hy
    refine ⟨y, ?_, F, h⟩
    simp (disch := omega) only [fn_9_6, eq_self, Nat.le_refl, Nat.lt_irrefl, some_if, Option.bind_some, Option.bind_none, Option.some.injEq, ↓reduceIte, reduceCtorEq, Bool.false_eq_true, Bool.true_eq_false, not_true_eq_false, not_false_eq_true, cmb0, cmb1, Nat.reduceAdd, Nat.reduceMul, Nat.reduceSub, Nat.add_zero, Bool.not_eq_true, Bool.not_eq_false, Nat.reduceEqDiff, Nat.reduceLeDiff, Nat.reduceLT, Int32.reduceLT, Int32.reduceLE, iin_nI, iin_lit, iin_m1, tn_nI, tn_lit, nI_lm, nI_ml, nI_al, nI_la, nI_add, pk_mul, nI_le_l, nI_l_le, nI_lt_l, nI_l_lt, nI_eq_l, nI_l_eq, nI_eqP, nI_leP, nI_ltP, nI_m1, m1_nI, nI_ll, m1_l, l_m1]
/-- one box at so many coins -/
theorem ls11 (L : Lay v c w) (I : InvV s) (hp : p < nP s) (hm : m < 6) (hR : LsR s p m w) {d k b : Nat} (hd : d < 1000) (hk : k < 1000) (hs : shs s p = nI b) (hb : ¬ (nI b).toInt64 = 0) {x : Int64} {g : Nat → Int64} (hx : cm_L w c k = x) (hg : ∀ j, j < 1000 → cm_L w (123 - c) j = g j) : ∃ y, fn_11 58 (nI k) (nI d) (nI b) w = some y ∧ FC v c w y ∧ (cm_I y = cm_I w) ∧ (cm_L y c = cm_L w c) ∧ ∀ j, j < 1000 → cm_L y (123 - c) j = lsG s p m d x g (nT s) j := by
  have hT := I.1
  have hc := L.2.1
  have hc2 : 123 - c = 61 ∨ 123 - c = 62 := by omega
  have hw := (co_w hc).2
  refine up_0 (fun n t y => fn_11_3 n 58 (nI k) (nI d) (nI b) (nI t) y) 8 (fun t y => FC v c w y ∧ cm_I y = cm_I w ∧ cm_L y c = cm_L w c ∧ ∀ j, j < 1000 → cm_L y (123 - c) j = lsG s p m d x g (if t < nT s then t else nT s) j) (fun o => ∃ y, o = some y ∧ FC v c w y ∧ (cm_I y = cm_I w) ∧ (cm_L y c = cm_L w c) ∧ ∀ j, j < 1000 → cm_L y (123 - c) j = lsG s p m d x g (nT s) j) w (by omega) ⟨FC.rf L, rfl, rfl, fun j hj => ?_⟩ (fun n t y ht hy => Or.inr ?_) (fun n y hy => ?_)
  · have : (if 0 < nT s then 0 else nT s) = 0 := by split <;> omega
    rw [this, hg j hj]; rfl
  · obtain ⟨F, hi, h1, h2⟩ := hy
    have ht' : ¬ 8 ≤ t := by omega
    have LL := F.1
    have R := hR t ht
    rw [← hi] at R
    have hx' : cm_L y c k = x := by rw [h1]; exact hx
    by_cases z : t < nT s
    · obtain ⟨r1, r2⟩ := R.1 z
      rw [if_pos z] at h2
      obtain ⟨es, hs2⟩ := sh_n I hp z
      have wl := (wo_n I z hm).2
      have e1 : (if t + 1 < nT s then t + 1 else nT s) = t + 1 := by split <;> omega
      have st : lsG s p m d x g (t + 1) = fun j => if j = mn (d + wn s m t) then lsG s p m d x g t j + x * (s 107 (8 * p + t)).toInt64 / (shs s p).toInt64 else lsG s p m d x g t j := rfl
      have ml := mn_lt (d + wn s m t)
      by_cases d0 : tn (s 107 (8 * p + t)) = 0
      · refine ⟨y, ⟨F, hi, h1, fun j hj => ?_⟩, ?_⟩
        · rw [e1, st, h2 j hj, es, d0]
          have : x * (nI 0).toInt64 / (shs s p).toInt64 = 0 := by
            rw [show (nI 0).toInt64 = 0 from rfl, Int64.mul_zero, Int64.zero_div]
          show _ = if j = _ then _ + x * (nI 0).toInt64 / (shs s p).toInt64 else _
          rw [this, Int64.add_zero, ite_self]
        · simp (disch := omega) only [fn_11_3, fn_11_70, ↓LCb LL, LC LL, ht', r2, d0, eq_self, Nat.le_refl, Nat.lt_irrefl, some_if, Option.bind_some, Option.bind_none, Option.some.injEq, ↓reduceIte, reduceCtorEq, Bool.false_eq_true, Bool.true_eq_false, not_true_eq_false, not_false_eq_true, cmb0, cmb1, Nat.reduceAdd, Nat.reduceMul, Nat.reduceSub, Nat.add_zero, Bool.not_eq_true, Bool.not_eq_false, Nat.reduceEqDiff, Nat.reduceLeDiff, Nat.reduceLT, Int32.reduceLT, Int32.reduceLE, iin_nI, iin_lit, iin_m1, tn_nI, tn_lit, nI_lm, nI_ml, nI_al, nI_la, nI_add, pk_mul, nI_le_l, nI_l_le, nI_lt_l, nI_l_lt, nI_eq_l, nI_l_eq, nI_eqP, nI_leP, nI_ltP, nI_m1, m1_nI, nI_ll, m1_l, l_m1]
      · refine ⟨cm_sL y (123 - c) (mn (d + wn s m t)) (cm_L y (123 - c) (mn (d + wn s m t)) + x * (nI (tn (s 107 (8 * p + t)))).toInt64 / (nI b).toInt64), ⟨F.sL (by omega), hi, ?_, fun j hj => ?_⟩, ?_⟩
        · funext j; rw [L_ne (by omega)]; rw [h1]
        · rw [e1, st]
          dsimp only
          by_cases zj : j = mn (d + wn s m t)
          · subst zj
            rw [L_eq, if_pos rfl, h2 _ hj, hs, ← es]
          · rw [L_nk zj, if_neg zj, h2 j hj]
        · have nn : ¬ nI (mn (d + wn s m t)) < 0 := nI_pos (by omega)
          have d1 : ¬ tn (s 107 (8 * p + t)) ≤ 0 := by omega
          simp (disch := omega) only [fn_11_3, fn_11_70, ↓LCb LL, LC LL, LCo LL hc, LCo LL hc2, ht', r1, r2, d1, mn_if, nn, hx', hb, hw, eq_self, Nat.le_refl, Nat.lt_irrefl, some_if, Option.bind_some, Option.bind_none, Option.some.injEq, ↓reduceIte, reduceCtorEq, Bool.false_eq_true, Bool.true_eq_false, not_true_eq_false, not_false_eq_true, cmb0, cmb1, Nat.reduceAdd, Nat.reduceMul, Nat.reduceSub, Nat.add_zero, Bool.not_eq_true, Bool.not_eq_false, Nat.reduceEqDiff, Nat.reduceLeDiff, Nat.reduceLT, Int32.reduceLT, Int32.reduceLE, iin_nI, iin_lit, iin_m1, tn_nI, tn_lit, nI_lm, nI_ml, nI_al, nI_la, nI_add, pk_mul, nI_le_l, nI_l_le, nI_lt_l, nI_l_lt, nI_eq_l, nI_l_eq, nI_eqP, nI_leP, nI_ltP, nI_m1, m1_nI, nI_ll, m1_l, l_m1]
    · have r2 := R.2 z
      rw [if_neg z] at h2
      have e1 : (if t + 1 < nT s then t + 1 else nT s) = nT s := by split <;> omega
      refine ⟨y, ⟨F, hi, h1, fun j hj => ?_⟩, ?_⟩
      · rw [e1]; exact h2 j hj
      · simp (disch := omega) only [fn_11_3, fn_11_70, ↓LCb LL, LC LL, ht', r2, eq_self, Nat.le_refl, Nat.lt_irrefl, some_if, Option.bind_some, Option.bind_none, Option.some.injEq, ↓reduceIte, reduceCtorEq, Bool.false_eq_true, Bool.true_eq_false, not_true_eq_false, not_false_eq_true, cmb0, cmb1, Nat.reduceAdd, Nat.reduceMul, Nat.reduceSub, Nat.add_zero, Bool.not_eq_true, Bool.not_eq_false, Nat.reduceEqDiff, Nat.reduceLeDiff, Nat.reduceLT, Int32.reduceLT, Int32.reduceLE, iin_nI, iin_lit, iin_m1, tn_nI, tn_lit, nI_lm, nI_ml, nI_al, nI_la, nI_add, pk_mul, nI_le_l, nI_l_le, nI_lt_l, nI_l_lt, nI_eq_l, nI_l_eq, nI_eqP, nI_leP, nI_ltP, nI_m1, m1_nI, nI_ll, m1_l, l_m1]
  · obtain ⟨F, hi, h1, h2⟩ := hy
    have e1 : (if 8 < nT s then 8 else nT s) = nT s := by split <;> omega
    rw [e1] at h2
    refine ⟨y, ?_, F, hi, h1, h2⟩
    simp (disch := omega) only [fn_11_3, eq_self, Nat.le_refl, Nat.lt_irrefl, some_if, Option.bind_some, Option.bind_none, Option.some.injEq, ↓reduceIte, reduceCtorEq, Bool.false_eq_true, Bool.true_eq_false, not_true_eq_false, not_false_eq_true, cmb0, cmb1, Nat.reduceAdd, Nat.reduceMul, Nat.reduceSub, Nat.add_zero, Bool.not_eq_true, Bool.not_eq_false, Nat.reduceEqDiff, Nat.reduceLeDiff, Nat.reduceLT, Int32.reduceLT, Int32.reduceLE, iin_nI, iin_lit, iin_m1, tn_nI, tn_lit, nI_lm, nI_ml, nI_al, nI_la, nI_add, pk_mul, nI_le_l, nI_l_le, nI_lt_l, nI_l_lt, nI_eq_l, nI_l_eq, nI_eqP, nI_leP, nI_ltP, nI_m1, m1_nI, nI_ll, m1_l, l_m1]
/-- one box more: the next row -/
theorem ls12 (L : Lay v c w) (I : InvV s) (hp : p < nP s) (hm : m < 6) (hR : LsR s p m w) {b : Nat} (hq : q < 1000) (hs : shs s p = nI b) (hb1 : 0 < b) (hb2 : b < 1000) {f : Nat → Int64} (hf : ∀ j, j < 1000 → cm_L w c j = f j) : ∃ y, fn_12 58 (nI q) (nI b) w = some y ∧ FC v (123 - c) w y ∧ (cm_I y = cm_I w) ∧ ∀ j, j < 1000 → cm_L y (123 - c) j = lsN s p m q f (1000 - q) j := by
  have hc := L.2.1
  have hc2 : 123 - c = 61 ∨ 123 - c = 62 := by omega
  have hb : ¬ (nI b).toInt64 = 0 := by
    rw [nI_l (by omega), show (0 : Int64) = lN 0 from rfl, lN_eq (by omega) (by omega)]; omega
  obtain ⟨y0, a0, F0, i0, z0, n0⟩ := c9z L hc2
  have e0 : fn_12 58 (nI q) (nI b) w = fn_12_14 cm_N 58 (nI q) (nI b) (nI q) y0 := by
    simp (disch := omega) only [fn_12, ↓LCb L, LC L, a0, mx_0, eq_self, Nat.le_refl, Nat.lt_irrefl, some_if, Option.bind_some, Option.bind_none, Option.some.injEq, ↓reduceIte, reduceCtorEq, Bool.false_eq_true, Bool.true_eq_false, not_true_eq_false, not_false_eq_true, cmb0, cmb1, Nat.reduceAdd, Nat.reduceMul, Nat.reduceSub, Nat.add_zero, Bool.not_eq_true, Bool.not_eq_false, Nat.reduceEqDiff, Nat.reduceLeDiff, Nat.reduceLT, Int32.reduceLT, Int32.reduceLE, iin_nI, iin_lit, iin_m1, tn_nI, tn_lit, nI_lm, nI_ml, nI_al, nI_la, nI_add, pk_mul, nI_le_l, nI_l_le, nI_lt_l, nI_l_lt, nI_eq_l, nI_l_eq, nI_eqP, nI_leP, nI_ltP, nI_m1, m1_nI, nI_ll, m1_l, l_m1]
  rw [e0]
  refine up_0 (fun n i y => fn_12_14 n 58 (nI q) (nI b) (nI (q + i)) y) (1000 - q) (fun i y => FC v c w y ∧ cm_I y = cm_I w ∧ cm_L y c = cm_L w c ∧ ∀ j, j < 1000 → cm_L y (123 - c) j = lsN s p m q f i j) (fun o => ∃ y, o = some y ∧ FC v (123 - c) w y ∧ (cm_I y = cm_I w) ∧ ∀ j, j < 1000 → cm_L y (123 - c) j = lsN s p m q f (1000 - q) j) y0 (by omega) ⟨F0, i0, n0 c (by omega), fun j hj => z0 j hj⟩ (fun n i y hi hy => Or.inr ?_) (fun n y hy => ?_)
  · obtain ⟨F, hI, h1, h2⟩ := hy
    have LL := F.1
    have hk' : ¬ 999 < q + i := by omega
    have fv : cm_L y c (q + i) = f (q + i) := by rw [h1]; exact hf _ (by omega)
    have st : lsN s p m q f (i + 1) = if f (q + i) ≤ 0 then lsN s p m q f i else lsG s p m i (f (q + i)) (lsN s p m q f i) (nT s) := rfl
    by_cases z : f (q + i) ≤ 0
    · refine ⟨y, ⟨F, hI, h1, fun j hj => ?_⟩, ?_⟩
      · rw [st, if_pos z]; exact h2 j hj
      · simp (disch := omega) only [fn_12_14, fn_12_45, ↓LCb LL, LC LL, LCo LL hc, hk', fv, lgc_le, z, eq_self, Nat.le_refl, Nat.lt_irrefl, some_if, Option.bind_some, Option.bind_none, Option.some.injEq, ↓reduceIte, reduceCtorEq, Bool.false_eq_true, Bool.true_eq_false, not_true_eq_false, not_false_eq_true, cmb0, cmb1, Nat.reduceAdd, Nat.reduceMul, Nat.reduceSub, Nat.add_zero, Bool.not_eq_true, Bool.not_eq_false, Nat.reduceEqDiff, Nat.reduceLeDiff, Nat.reduceLT, Int32.reduceLT, Int32.reduceLE, iin_nI, iin_lit, iin_m1, tn_nI, tn_lit, nI_lm, nI_ml, nI_al, nI_la, nI_add, pk_mul, nI_le_l, nI_l_le, nI_lt_l, nI_l_lt, nI_eq_l, nI_l_eq, nI_eqP, nI_leP, nI_ltP, nI_m1, m1_nI, nI_ll, m1_l, l_m1]
        rfl
    · have sb : nI (q + i) - nI q = nI i := by rw [pk_sub (by omega), Nat.add_sub_cancel_left]
      obtain ⟨y', a1, F1, i1, n1, g1⟩ := ls11 LL I hp hm (by unfold LsR; rw [hI]; exact hR) (d := i) (k := q + i) (b := b) (by omega) (by omega) hs hb fv h2
      refine ⟨y', ⟨F.tr F1, i1.trans hI, n1.trans h1, fun j hj => ?_⟩, ?_⟩
      · rw [st, if_neg z]; exact g1 j hj
      · simp (disch := omega) only [fn_12_14, fn_12_45, ↓LCb LL, LC LL, LCo LL hc, hk', fv, lgc_le, z, sb, mx_1, a1, eq_self, Nat.le_refl, Nat.lt_irrefl, some_if, Option.bind_some, Option.bind_none, Option.some.injEq, ↓reduceIte, reduceCtorEq, Bool.false_eq_true, Bool.true_eq_false, not_true_eq_false, not_false_eq_true, cmb0, cmb1, Nat.reduceAdd, Nat.reduceMul, Nat.reduceSub, Nat.add_zero, Bool.not_eq_true, Bool.not_eq_false, Nat.reduceEqDiff, Nat.reduceLeDiff, Nat.reduceLT, Int32.reduceLT, Int32.reduceLE, iin_nI, iin_lit, iin_m1, tn_nI, tn_lit, nI_lm, nI_ml, nI_al, nI_la, nI_add, pk_mul, nI_le_l, nI_l_le, nI_lt_l, nI_l_lt, nI_eq_l, nI_l_eq, nI_eqP, nI_leP, nI_ltP, nI_m1, m1_nI, nI_ll, m1_l, l_m1]
        rfl
  · obtain ⟨F, hI, h1, h2⟩ := hy
    have e1 : q + (1000 - q) = 1000 := by omega
    have LL := F.1
    refine ⟨_, ?_, F.swap, hI, h2⟩
    show fn_12_14 (n + 1) 58 (nI q) (nI b) (nI (q + (1000 - q))) y = _
    rw [e1]
    simp (disch := omega) only [fn_12_14, fn_12_51, ↓LCb LL, LC LL, cm_w2, Nat.reduceLeDiff, Nat.reduceLT, decide_true, Bool.and_self, Bool.and_true, eq_self, Nat.le_refl, Nat.lt_irrefl, some_if, Option.bind_some, Option.bind_none, Option.some.injEq, ↓reduceIte, reduceCtorEq, Bool.false_eq_true, Bool.true_eq_false, not_true_eq_false, not_false_eq_true, cmb0, cmb1, Nat.reduceAdd, Nat.reduceMul, Nat.reduceSub, Nat.add_zero, Bool.not_eq_true, Bool.not_eq_false, Nat.reduceEqDiff, Nat.reduceLeDiff, Nat.reduceLT, Int32.reduceLT, Int32.reduceLE, iin_nI, iin_lit, iin_m1, tn_nI, tn_lit, nI_lm, nI_ml, nI_al, nI_la, nI_add, pk_mul, nI_le_l, nI_l_le, nI_lt_l, nI_l_lt, nI_eq_l, nI_l_eq, nI_eqP, nI_leP, nI_ltP, nI_m1, m1_nI, nI_ll, m1_l, l_m1]
end LST
