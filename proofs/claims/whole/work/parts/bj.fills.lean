/-! what somebody fills: the class's loop in pieces; counting -/
def s80t (K : Nat → Int32 → Int32 → Int32 → cm_W → Option cm_W) (i1 i3 v18 v4 : Int32) (w : cm_W) : Option cm_W := (if cm_sh w 4 = some (.inl 4) then (cm_R w 4 8).bind fun r24 => (if cm_sh w r24 = some (.inl 9) then (fn_77 r24 i1 v18 v4 w).bind fun w27 => (if cm_sh w27 4 = some (.inl 4) then (fn_79 w27 4 (44 : Int32)).bind fun v30 => (if (cm_b v30) = 0 then fn_80_151 K 4 i1 i3 w27 else (if ¬ (cm_I w27 4 7) = (-1 : Int32) then fn_80_151 K 4 i1 i3 w27 else (fn_66 4 (1 : Int32) w27).bind fun w34 => fn_80_162 K 4 i1 (1 : Int32) i3 w34)) else none) else none) else none)
def s80m (K : Nat → Int32 → Int32 → Int32 → cm_W → Option cm_W) (i1 i3 v4 : Int32) (w : cm_W) : Option cm_W := (if cm_sh w 4 = some (.inl 4) then (cm_R w 4 8).bind fun r7 => (if cm_sh w r7 = some (.inl 9) then (cm_R w r7 0).bind fun r10 => (cm_R w 4 8).bind fun r12 => (if cm_sh w r12 = some (.inl 9) then (cm_R w r12 1).bind fun r15 => (if cm_sh w r15 = some (.inl 7) then (fn_68 w 4 r10 (cm_I w r15 2)).bind fun v18 => (if v18 = (-1 : Int32) then (fn_66 4 (0 : Int32) w).bind (s80t K i1 i3 v18 v4) else (cm_R w 4 8).bind fun r36 => (if cm_sh w r36 = some (.inl 9) then (fn_8 w r36 i1 v18).bind fun v39 => (if ¬ v39 = 0 then (fn_66 4 (0 : Int32) w).bind (s80t K i1 i3 v18 v4) else (fn_66 4 (1 : Int32) w).bind (s80t K i1 i3 v18 v4)) else none)) else none) else none) else none) else none)
/-- only the village's shares are written -/
def G7 (v c : Nat) (w y : cm_W) : Prop := Lay v c y ∧ (∀ a, a ≠ 30 - v + 7 → ∀ j, cm_I y a j = cm_I w a j) ∧ cm_L y = cm_L w
def cnz (h : Nat → Int32) : Nat := sgm (fun j => if h j = 0 then 0 else 1) 8
section FILLS
variable {v c v' c' u n m q k p t P Q i : Nat} {b : Nat → Int32} {w w' w0 x x' x0 y z y1 y2 y3 y4 y5 : cm_W} {f : Int32} {s : St}
theorem cnz_up {h : Nat → Int32} {j0 : Nat} {a : Int32} (h0 : h j0 = 0) (ha : a ≠ 0) : ∀ n, sgm (fun j => if (if j = j0 then a else h j) = 0 then 0 else 1) n = sgm (fun j => if h j = 0 then 0 else 1) n + if j0 < n then 1 else 0 := by
  intro n
  induction n with
  | zero => rfl
  | succ n ih =>
    show sgm _ n + (if (if n = j0 then a else h n) = 0 then 0 else 1) = sgm _ n + (if h n = 0 then 0 else 1) + _
    rw [ih]
    by_cases e : n = j0
    · subst e
      rw [if_pos rfl, if_neg ha, if_neg (Nat.lt_irrefl n), h0, if_pos rfl, if_pos (Nat.lt_succ_self n)]
    · rw [if_neg e]
      by_cases e2 : j0 < n
      · rw [if_pos e2, if_pos (show j0 < n + 1 by omega)]; omega
      · rw [if_neg e2, if_neg (show ¬ j0 < n + 1 by omega), Nat.add_zero, Nat.add_zero]
theorem cnz_le (h : Nat → Int32) : ∀ n, sgm (fun j => if h j = 0 then 0 else 1) n ≤ n := by
  intro n
  induction n with
  | zero => exact Nat.le_refl _
  | succ n ih =>
    show sgm _ n + (if h n = 0 then 0 else 1) ≤ n + 1
    split <;> omega
theorem cnz_all (h : Nat → Int32) : ∀ n, sgm (fun j => if h j = 0 then 0 else 1) n = n → ∀ j, j < n → h j ≠ 0 := by
  intro n
  induction n with
  | zero => intro _ j hj; omega
  | succ n ih =>
    intro e j hj
    have e : sgm (fun j => if h j = 0 then 0 else 1) n + (if h n = 0 then 0 else 1) = n + 1 := e
    have l := cnz_le h n
    by_cases z : h n = 0
    · rw [if_pos z] at e; omega
    · rw [if_neg z] at e
      by_cases e2 : j = n
      · rw [e2]; exact z
      · exact ih (by omega) j (by omega)
theorem cnz_ex (h : Nat → Int32) : ∀ n, 0 < sgm (fun j => if h j = 0 then 0 else 1) n → ∃ j, j < n ∧ h j ≠ 0 := by
  intro n
  induction n with
  | zero => intro e; exact absurd e (by show ¬ 0 < 0; omega)
  | succ n ih =>
    intro e
    have e : 0 < sgm (fun j => if h j = 0 then 0 else 1) n + (if h n = 0 then 0 else 1) := e
    by_cases z : h n = 0
    · rw [if_pos z] at e
      obtain ⟨j, h1, h2⟩ := ih (by omega)
      exact ⟨j, by omega, h2⟩
    · exact ⟨n, by omega, z⟩
theorem cnz_0 {h : Nat → Int32} (h0 : ∀ j, j < 8 → h j = 0) : cnz h = 0 := by
  by_cases z : cnz h = 0
  · exact z
  · obtain ⟨j, h1, h2⟩ := cnz_ex h 8 (by unfold cnz at z; omega)
    exact absurd (h0 j h1) h2
theorem G7.CR (g : G7 v c w y) (hv : v = 10 ∨ v = 20) (C : CR b n w p f) : CR b n y p f := C.eq (fun j _ _ => g.2.1 4 (by omega) j) (fun a h1 h2 j => g.2.1 a (by omega) j) (fun j => by rw [g.2.2])
theorem G7.rf (L : Lay v c w) : G7 v c w w := ⟨L, fun _ _ _ => rfl, rfl⟩
theorem shr77m (L : Lay v c w) (hu : u = 10 ∨ u = 20) (h2 : cm_I w (u + 5) 2 = nI P) (hP : P ≤ 12) (i1 i3 : Int32) : fn_77 u i1 (-1) i3 w = some w := by
  have TBt : TB 5 6 3 36 12 := Or.inr (Or.inl ⟨rfl, rfl, rfl, rfl, rfl⟩)
  have hs := has_ok (tv L hu TBt).1 h2 (by omega) i1
  have m0 : (-1 : Int32) < 0 := by decide
  cases h : cm_iin i1 P <;> rw [h] at hs <;> simp (disch := omega) only [fn_77, ↓LVb L hu, LV L hu, hs, m0, eq_self, Nat.le_refl, Nat.lt_irrefl, some_if, Option.bind_some, Option.bind_none, Option.some.injEq, ↓reduceIte, reduceCtorEq, Bool.false_eq_true, Bool.true_eq_false, not_true_eq_false, not_false_eq_true, cmb0, cmb1, Nat.reduceAdd, Nat.reduceMul, Nat.reduceSub, Nat.add_zero, Bool.not_eq_true, Bool.not_eq_false, Nat.reduceEqDiff, Nat.reduceLeDiff, Nat.reduceLT, Int32.reduceLT, Int32.reduceLE, iin_nI, iin_lit, iin_m1, tn_nI, tn_lit, nI_lm, nI_ml, nI_al, nI_la, nI_add, pk_mul, nI_le_l, nI_l_le, nI_lt_l, nI_l_lt, nI_eq_l, nI_l_eq, nI_eqP, nI_leP, nI_ltP, nI_m1, m1_nI, nI_ll, m1_l, l_m1]
theorem e48 (hv : v = 10 ∨ v = 20) (L : Lay v c w) {N : Nat} {i1 : Int32} (hk : k ≤ 8) : fn_80_48 (N + 1) 4 i1 1 (nI k) w = (fn_70 4 (1 : Int32) (99 : Int32) w).bind fun v4 => s80m (fn_80_48 N) i1 (nI k) v4.1 v4.2 := by
  rw [fn_80_48, if_neg (show ¬ (8 : Int32) < nI k from by rw [nI_lt_l (n := 8) (by decide) (by omega)]; show ¬ 8 < k; omega), if_neg (by decide), if_pos (LD L).1]
  rfl
theorem e48_0 {N : Nat} {i1 i3 : Int32} : fn_80_48 (N + 1) 4 i1 0 i3 w = some w := by
  rw [fn_80_48]
  by_cases z : (8 : Int32) < i3
  · rw [if_pos z]
  · rw [if_neg z, if_pos rfl]
theorem t_f (hv : v = 10 ∨ v = 20) (hnb : ∀ j, j < n → vp_nar .byte (b j) = b j) (L : Lay v c y) (C : CR b n y p f) (hf : f ≠ -1) (h2 : cm_I y (30 - v + 5) 2 = nI P) (hP : P ≤ 12) {N : Nat} (i1 i3 v18 v4 : Int32) (hj : v18 = -1 ∨ ∃ j, j < 8 ∧ v18 = nI j) : ∃ w1, s80t (fn_80_48 (N + 1)) i1 i3 v18 v4 y = some w1 ∧ G7 v c y w1 := by
  have hu : 30 - v = 10 ∨ 30 - v = 20 := by omega
  have key : ∀ y1, fn_77 (30 - v) i1 v18 v4 y = some y1 → G7 v c y y1 → ∃ w1, s80t (fn_80_48 (N + 1)) i1 i3 v18 v4 y = some w1 ∧ G7 v c y w1 := by
    intro y1 a1 G
    have C1 := G.CR hv C
    obtain ⟨kk, kk1, g6, g7, -⟩ := C1.g
    have e151 : fn_80_151 (fn_80_48 (N + 1)) 4 i1 i3 y1 = some y1 := by rw [fn_80_151, fn_80_162, e48_0]
    refine ⟨y1, ?_, G⟩
    rw [s80t, if_pos (LD L).1, bd L.2.2.2.2.2.2.2.1, if_pos (LV L hu).1, bd a1, if_pos (LD G.1).1, bd (show fn_79 y1 4 (44 : Int32) = some (sgok b n p 44) from sign79 G.1 C1 hnb (Or.inl rfl))]
    by_cases z : cm_b (sgok b n p 44) = 0
    · rw [if_pos z, e151]
    · rw [if_neg z, g7, if_pos hf, e151]
  rcases hj with rfl | ⟨j, hj, rfl⟩
  · exact key y (shr77m L hu h2 hP _ _) (G7.rf L)
  · refine key _ (shr77 L hu h2 hP i1 hj v4) ?_
    split
    · exact ⟨L, fun a ha j => I_ne ha, rfl⟩
    · exact G7.rf L
theorem fn8_t (hu : u = 10 ∨ u = 20) (L : Lay v c y) (h2 : cm_I y (u + 5) 2 = nI P) (hP : P ≤ 12) (h2t : cm_I y (u + 2) 2 = nI t) (ht : t ≤ 8) (i1 : Int32) {j : Nat} (hj : j < t) : fn_8 y u i1 (nI j) = some (if cm_iin i1 P = true then cm_I y (u + 7) (8 * tn i1 + j) else 0) := by
  have TBt : TB 5 6 3 36 12 := Or.inr (Or.inl ⟨rfl, rfl, rfl, rfl, rfl⟩)
  have TB2 : TB 2 3 4 32 8 := Or.inl ⟨rfl, rfl, rfl, rfl, rfl⟩
  have hs := has_ok (tv L hu TBt).1 h2 (by omega) i1
  have hs2 := has_ok (tv L hu TB2).1 h2t (by omega) (nI j)
  rw [iin_nI hj (by omega)] at hs2
  rcases iin_cs i1 (n := P) (by omega) with h | ⟨k, hk, rfl⟩
  · rw [h, if_neg (by decide)]
    simp (disch := omega) only [fn_8, ↓LVb L hu, LV L hu, hs, h, eq_self, Nat.le_refl, Nat.lt_irrefl, some_if, Option.bind_some, Option.bind_none, Option.some.injEq, ↓reduceIte, reduceCtorEq, Bool.false_eq_true, Bool.true_eq_false, not_true_eq_false, not_false_eq_true, cmb0, cmb1, Nat.reduceAdd, Nat.reduceMul, Nat.reduceSub, Nat.add_zero, Bool.not_eq_true, Bool.not_eq_false, Nat.reduceEqDiff, Nat.reduceLeDiff, Nat.reduceLT, Int32.reduceLT, Int32.reduceLE, iin_nI, iin_lit, iin_m1, tn_nI, tn_lit, nI_lm, nI_ml, nI_al, nI_la, nI_add, pk_mul, nI_le_l, nI_l_le, nI_lt_l, nI_l_lt, nI_eq_l, nI_l_eq, nI_eqP, nI_leP, nI_ltP, nI_m1, m1_nI, nI_ll, m1_l, l_m1]
  · have h := iin_nI hk (show P ≤ 2147483648 by omega)
    rw [h, if_pos rfl, tn_nIe (by omega)]
    simp (disch := omega) only [fn_8, ↓LVb L hu, LV L hu, hs, hs2, h, eq_self, Nat.le_refl, Nat.lt_irrefl, some_if, Option.bind_some, Option.bind_none, Option.some.injEq, ↓reduceIte, reduceCtorEq, Bool.false_eq_true, Bool.true_eq_false, not_true_eq_false, not_false_eq_true, cmb0, cmb1, Nat.reduceAdd, Nat.reduceMul, Nat.reduceSub, Nat.add_zero, Bool.not_eq_true, Bool.not_eq_false, Nat.reduceEqDiff, Nat.reduceLeDiff, Nat.reduceLT, Int32.reduceLT, Int32.reduceLE, iin_nI, iin_lit, iin_m1, tn_nI, tn_lit, nI_lm, nI_ml, nI_al, nI_la, nI_add, pk_mul, nI_le_l, nI_l_le, nI_lt_l, nI_l_lt, nI_eq_l, nI_l_eq, nI_eqP, nI_leP, nI_ltP, nI_m1, m1_nI, nI_ll, m1_l, l_m1]
theorem m_e (hv : v = 10 ∨ v = 20) (L : Lay v c y) (h2t : cm_I y (30 - v + 2) 2 = nI t) {r : Int32} (e : fn_68 y 4 (30 - v + 1) (nI t) = some r) {K : Nat → Int32 → Int32 → Int32 → cm_W → Option cm_W} (i1 i3 v4 : Int32) : s80m K i1 i3 v4 y = if r = -1 then (fn_66 4 0 y).bind (s80t K i1 i3 r v4) else (fn_8 y (30 - v) i1 r).bind fun v39 => if ¬ v39 = 0 then (fn_66 4 0 y).bind (s80t K i1 i3 r v4) else (fn_66 4 1 y).bind (s80t K i1 i3 r v4) := by
  have hu : 30 - v = 10 ∨ 30 - v = 20 := by omega
  have TB2 : TB 2 3 4 32 8 := Or.inl ⟨rfl, rfl, rfl, rfl, rfl⟩
  have r8 := L.2.2.2.2.2.2.2.1
  rw [s80m, if_pos (LD L).1, bd r8, if_pos (LV L hu).1, bd (LV L hu).2.1, bd r8, if_pos (LV L hu).1, bd (LV L hu).2.2.1, if_pos (tv L hu TB2).1, h2t, bd e, bd r8, if_pos (LV L hu).1]
theorem m_f (hv : v = 10 ∨ v = 20) (hn : n ≤ 900) (hnb : ∀ j, j < n → vp_nar .byte (b j) = b j) (L : Lay v c y) (C : CR b n y p f) (hf : f ≠ -1) (h2 : cm_I y (30 - v + 5) 2 = nI P) (hP : P ≤ 12) (h2t : cm_I y (30 - v + 2) 2 = nI t) (ht : t ≤ 8) {N : Nat} (i1 i3 v4 : Int32) : ∃ w1, s80m (fn_80_48 (N + 1)) i1 i3 v4 y = some w1 ∧ G7 v c y w1 := by
  have hu : 30 - v = 10 ∨ 30 - v = 20 := by omega
  have hs1 : cm_sh y (30 - v + 1) = some (.inr (.long, 8)) := by
    rcases hu with e | e <;> rw [e] <;> exact (L.sh (by decide) (by decide)).trans rfl
  have e := find68 L C hn (a1 := 30 - v + 1) (S := 8) hs1 ht (by omega)
  have rr : (if nmok b n p = true then fnd (cm_L y (30 - v + 1)) (vl b n p) t 0 else -1) = -1 ∨ ∃ j, j < t ∧ (if nmok b n p = true then fnd (cm_L y (30 - v + 1)) (vl b n p) t 0 else -1) = nI j := by
    by_cases nm : nmok b n p = true
    · rw [if_pos nm]
      rcases fnd_rg (g := cm_L y (30 - v + 1)) (X := vl b n p) t 0 with h | ⟨k, h1, h2, h3, -⟩
      · exact Or.inl h
      · exact Or.inr ⟨k, by omega, h3⟩
    · rw [if_neg nm]; exact Or.inl rfl
  generalize (if nmok b n p = true then fnd (cm_L y (30 - v + 1)) (vl b n p) t 0 else -1) = r at e rr
  rw [m_e hv L h2t e, accf L C hf 0, accf L C hf 1]
  rcases rr with rfl | ⟨j, hj, rfl⟩
  · rw [if_pos rfl]
    exact t_f hv hnb L C hf h2 hP i1 i3 (-1) v4 (Or.inl rfl)
  · rw [if_neg (nI_n1 (by omega)), bd (fn8_t hu L h2 hP h2t ht i1 hj)]
    have T := t_f hv hnb L C hf h2 hP (N := N) i1 i3 (nI j) v4 (Or.inr ⟨j, by omega, rfl⟩)
    generalize (if cm_iin i1 P = true then cm_I y (30 - v + 7) (8 * tn i1 + j) else 0) = r8
    by_cases z : r8 = 0
    · rw [if_neg (fun h => h z)]; exact T
    · rw [if_pos z]; exact T
/-- an iteration behind a FAULT -/
theorem it_f (hv : v = 10 ∨ v = 20) (hn : n ≤ 900) (hnb : ∀ j, j < n → vp_nar .byte (b j) = b j) (L : Lay v c y) (C : CR b n y p f) (hf : f ≠ -1) (h2 : cm_I y (30 - v + 5) 2 = nI P) (hP : P ≤ 12) (h2t : cm_I y (30 - v + 2) 2 = nI t) (ht : t ≤ 8) {N : Nat} (i1 : Int32) (hk : k ≤ 8) : ∃ w1, fn_80_48 (N + 2) 4 i1 1 (nI k) y = some w1 ∧ G7 v c y w1 := by
  obtain ⟨r, e⟩ := num70f L C hf (1 : Int32) (99 : Int32)
  obtain ⟨w1, a1, G⟩ := m_f hv hn hnb L C hf h2 hP h2t ht (N := N) i1 (nI k) r
  refine ⟨w1, ?_, G⟩
  rw [e48 hv L hk, bd e]
  exact a1
end FILLS
