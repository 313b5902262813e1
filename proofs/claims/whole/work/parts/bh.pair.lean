/-! tenths; pairs: both alike -/
def s82c (i j : Int32) (w : cm_W) : Option cm_W := (if cm_sh w 4 = some (.inl 4) then (fn_70 4 (1 : Int32) (999 : Int32) w).bind fun v36 => (if cm_sh v36.2 4 = some (.inl 4) then (if ¬ (cm_I v36.2 4 7) = (-1 : Int32) then some v36.2 else (cm_R v36.2 4 8).bind fun r40 => (if cm_sh v36.2 r40 = some (.inl 9) then (fn_81 r40 i j v36.1 v36.2).bind fun w43 => some w43 else none)) else none) else none)
def s82b (i : Int32) (w : cm_W) : Option cm_W := (if cm_sh w 4 = some (.inl 4) then (cm_R w 4 8).bind fun r19 => (if cm_sh w r19 = some (.inl 9) then (cm_R w r19 0).bind fun r22 => (cm_R w 4 8).bind fun r24 => (if cm_sh w r24 = some (.inl 9) then (cm_R w r24 1).bind fun r27 => (if cm_sh w r27 = some (.inl 7) then (fn_68 w 4 r22 (cm_I w r27 2)).bind fun v30 => (if v30 = (-1 : Int32) then (fn_66 4 (0 : Int32) w).bind (s82c i v30) else (if v30 = i then (fn_66 4 (0 : Int32) w).bind (s82c i v30) else (fn_66 4 (1 : Int32) w).bind (s82c i v30))) else none) else none) else none) else none)
section PAIRS
variable {v c v' c' u n m q k p t P Q : Nat} {b : Nat → Int32} {w w' w0 x x' x0 y z y1 y2 y3 y4 y5 : cm_W} {f : Int32} {s : St}
theorem ten_sim (hv : v = 10 ∨ v = 20) (hn : n ≤ 900) (S : SR v c v' c' b n s w0 x0 w x p t P Q m) {d e : Nat} (hd : d = 6 ∧ e = 17 ∨ d = 7 ∧ e = 18 ∨ d = 8 ∧ e = 19) : ∃ i y1 r z1, fn_70 4 (0 : Int32) (10 : Int32) w = some (i, y1) ∧ Lay v c y1 ∧ fn_206 96 (0 : Int32) (10 : Int32) x = some (r, z1) ∧ Lay v' c' z1 ∧ ((r = true ∧ ∃ p', SR v c v' c' b n s w0 x0 (cm_sI y1 (30 - v) d i) (cm_sI z1 96 e (cm_I z1 96 37)) p' t P Q m) ∨ (r = false ∧ SF v c v' c' b n s w0 x0 (cm_sI y1 (30 - v) d i) z1)) := by
  have hu : 30 - v = 10 ∨ 30 - v = 20 := by omega
  obtain ⟨⟨L, FW, C⟩, ⟨q, R, hq⟩, T, Pp, H, Qq, D⟩ := id S
  rcases nums hn L C R hq (lo := 0) (hi := 10) (by omega) (by omega) with ⟨i2, y3, z3, e1, F3, C3, k2, G3, R4, h37, r2⟩ | ⟨y3, z3, e1, F3, C3, k2, G3, R4⟩
  · refine ⟨nI i2, y3, true, z3, e1, F3.1, k2, G3.1, Or.inl ⟨rfl, _, ⟨F3.1, ?_, ?_⟩, ⟨_, R4.sI (by omega) ?_, rfl⟩, ?_, ?_, ?_, ?_, ?_⟩⟩
    · exact (FW.A hv F3).tr fun a ha => ⟨fun j => I_ne (by omega), fun j => rfl⟩
    · exact C3.eq (fun j _ _ => I_ne (by omega)) (fun a h1 h2 j => I_ne (by omega)) (fun j => rfl)
    · rcases hd with ⟨-, rfl⟩ | ⟨-, rfl⟩ | ⟨-, rfl⟩ <;> rfl
    · exact (T.cg hu F3.U G3.U).c2 (fun j => I_ne (by omega)) (fun j => I_ne (by omega)) (fun j => rfl) (I_nk (by omega)) (fun a j h1 h2 => I_ne (by omega)) (fun j => rfl)
    · exact (Pp.cg hu F3.U G3.U).c2 (fun j => I_ne (by omega)) (fun j => I_ne (by omega)) (fun j => rfl) (I_nk (by omega)) (fun a j h1 h2 => I_ne (by omega)) (fun j => rfl)
    · exact (H.cg hu F3.U G3.U).c2 (fun j => I_ne (by omega)) (fun a j h1 h2 => I_ne (by omega))
    · exact (Qq.cg hu F3.U G3.U).c2 (fun j => I_ne (by omega)) (fun j => I_ne (by omega)) (I_nk (by omega)) (fun a j h1 h2 => I_ne (by omega))
    · obtain ⟨d1, d2, d3, d4, d5, d6⟩ := D.cg hu F3.U G3.U
      rw [h37]
      rcases hd with ⟨rfl, rfl⟩ | ⟨rfl, rfl⟩ | ⟨rfl, rfl⟩
      · exact ⟨(I_nk (by omega)).trans d1, (I_nk (by omega)).trans d2, d3, ⟨by rw [I_eq, I_eq], by rw [I_eq]; exact r2⟩, by rw [I_nk (by omega), I_nk (by omega)]; exact d5, by rw [I_nk (by omega), I_nk (by omega)]; exact d6⟩
      · exact ⟨(I_nk (by omega)).trans d1, (I_nk (by omega)).trans d2, d3, by rw [I_nk (by omega), I_nk (by omega)]; exact d4, ⟨by rw [I_eq, I_eq], by rw [I_eq]; exact r2⟩, by rw [I_nk (by omega), I_nk (by omega)]; exact d6⟩
      · exact ⟨(I_nk (by omega)).trans d1, (I_nk (by omega)).trans d2, d3, by rw [I_nk (by omega), I_nk (by omega)]; exact d4, by rw [I_nk (by omega), I_nk (by omega)]; exact d5, ⟨by rw [I_eq, I_eq], by rw [I_eq]; exact r2⟩⟩
  · obtain ⟨f1, f2, f3, p', q', f4, f5⟩ := SF.mk (w1 := y3) hv S F3.1 (FW.A hv F3) F3.U C3 R4 (sk_p C)
    refine ⟨-1, y3, false, z3, e1, F3.1, k2, G3.1, Or.inr ⟨rfl, F3.1, ?_, ?_, p', q', ?_, f5⟩⟩
    · exact f2.tr fun a ha => ⟨fun j => I_ne (by omega), fun j => rfl⟩
    · unfold WD
      simp (disch := omega) only [I_ne]
      exact f3
    · exact f4.eq (fun j _ _ => I_ne (by omega)) (fun a h1 h2 j => I_ne (by omega)) (fun j => rfl)
/-- an old THING's name, by the reference -/
theorem old212 (R : RX v c b n s x0 x q) (h13 : cm_I x 96 13 = nI t) (ht : t ≤ 8) (hw : ∀ k, k < t → wdx (cm_L x 98 (8 + k)) = -1) : ((if nmok b n (sk b n q) = true then fnd (fun k => cm_L x 98 (8 + k)) (vl b n (sk b n q)) t 0 else -1) = -1 → ∃ z, fn_212 96 x = some (-1, z) ∧ FX v c x z ∧ RX v c b n s x0 z (sk b n q)) ∧ (∀ k, k < t → (if nmok b n (sk b n q) = true then fnd (fun k => cm_L x 98 (8 + k)) (vl b n (sk b n q)) t 0 else -1) = nI k → ∃ z, fn_212 96 x = some (nI k, z) ∧ FX v c x z ∧ RX v c b n s x0 z (sk b n q + ln b n (sk b n q))) := by
  obtain ⟨y, a1, F, h11, h36, -⟩ := word_ok R.L R.2.1 R.2.2.2 R.2.2.1
  have pn := sk_le (b := b) R.2.2.2
  generalize sk b n q = p at *
  have R1 := R.X F h11 pn
  have LY := F.1
  have f9 := find209 LY (by rw [F.2.2.1 13 (by omega) (by omega) (by omega)]; exact h13) ht (wv b n p)
  rw [F.2.2.2] at f9
  by_cases w0 : wv b n p = 0
  · have nm : ¬ nmok b n p = true := fun h => by
      obtain ⟨h1, h2, h3⟩ := of_decide_eq_true h
      exact wv_0.mp w0 ⟨h1, h3⟩
    rw [if_neg nm]
    refine ⟨fun _ => ⟨y, ?_, F, R1⟩, fun k hk h => ?_⟩
    · rw [w0] at a1
      simp (disch := omega) only [fn_212, LM R.L, a1, lgc_eq, eq_self, Nat.le_refl, Nat.lt_irrefl, some_if, Option.bind_some, Option.bind_none, Option.some.injEq, ↓reduceIte, reduceCtorEq, Bool.false_eq_true, Bool.true_eq_false, not_true_eq_false, not_false_eq_true, cmb0, cmb1, Nat.reduceAdd, Nat.reduceMul, Nat.reduceSub, Nat.add_zero, Bool.not_eq_true, Bool.not_eq_false, Nat.reduceEqDiff, Nat.reduceLeDiff, Nat.reduceLT, Int32.reduceLT, Int32.reduceLE, iin_nI, iin_lit, iin_m1, tn_nI, tn_lit, nI_lm, nI_ml, nI_al, nI_la, nI_add, pk_mul, nI_le_l, nI_l_le, nI_lt_l, nI_l_lt, nI_eq_l, nI_l_eq, nI_eqP, nI_leP, nI_ltP, nI_m1, m1_nI, nI_ll, m1_l, l_m1]
    · rw [m1_nI (by omega)] at h; exact h.elim
  · obtain ⟨k1, l8⟩ : kd b n p = 1 ∧ ln b n p ≤ 8 := by
      by_cases z : kd b n p = 1 ∧ ln b n p ≤ 8
      · exact z
      · exact absurd (wv_0.mpr z) w0
    have ww := wdx_wv b n p
    have vv := wv_vl k1 l8
    rw [← vv]
    have fe : (if nmok b n p = true then fnd (fun k => cm_L x 98 (8 + k)) (wv b n p) t 0 else -1) = fnd (fun k => cm_L x 98 (8 + k)) (wv b n p) t 0 := by
      by_cases wk : wd b n p = -1
      · rw [if_pos (show nmok b n p = true from decide_eq_true ⟨k1, wk, l8⟩)]
      · rw [if_neg (fun h => wk (of_decide_eq_true h).2.1)]
        refine (fnd_no t 0 fun j _ hj e => wk ?_).symm
        rw [← ww, ← e]
        exact hw j (by omega)
    rw [fe]
    rw [wl_1 k1] at h36
    refine ⟨fun h => ⟨y, ?_, F, R1⟩, fun k hk h => ⟨cm_sI y 96 11 (nI (p + ln b n p)), ?_, F.sI (by omega), R.X (F.sI (by omega)) I_eq (ln_pos (b := b) (n := n) (p := p) (Or.inl k1)).2⟩⟩
    · rw [h] at f9
      simp (disch := omega) only [fn_212, fn_212_15, LM R.L, a1, lgc_eq, w0, LM LY, f9, eq_self, Nat.le_refl, Nat.lt_irrefl, some_if, Option.bind_some, Option.bind_none, Option.some.injEq, ↓reduceIte, reduceCtorEq, Bool.false_eq_true, Bool.true_eq_false, not_true_eq_false, not_false_eq_true, cmb0, cmb1, Nat.reduceAdd, Nat.reduceMul, Nat.reduceSub, Nat.add_zero, Bool.not_eq_true, Bool.not_eq_false, Nat.reduceEqDiff, Nat.reduceLeDiff, Nat.reduceLT, Int32.reduceLT, Int32.reduceLE, iin_nI, iin_lit, iin_m1, tn_nI, tn_lit, nI_lm, nI_ml, nI_al, nI_la, nI_add, pk_mul, nI_le_l, nI_l_le, nI_lt_l, nI_l_lt, nI_eq_l, nI_l_eq, nI_eqP, nI_leP, nI_ltP, nI_m1, m1_nI, nI_ll, m1_l, l_m1]
    · rw [h] at f9
      simp (disch := omega) only [fn_212, fn_212_15, LM R.L, a1, lgc_eq, w0, LM LY, f9, h36, cm_w2, Nat.reduceLeDiff, Nat.reduceLT, decide_true, Bool.and_self, Bool.and_true, eq_self, Nat.le_refl, Nat.lt_irrefl, some_if, Option.bind_some, Option.bind_none, Option.some.injEq, ↓reduceIte, reduceCtorEq, Bool.false_eq_true, Bool.true_eq_false, not_true_eq_false, not_false_eq_true, cmb0, cmb1, Nat.reduceAdd, Nat.reduceMul, Nat.reduceSub, Nat.add_zero, Bool.not_eq_true, Bool.not_eq_false, Nat.reduceEqDiff, Nat.reduceLeDiff, Nat.reduceLT, Int32.reduceLT, Int32.reduceLE, iin_nI, iin_lit, iin_m1, tn_nI, tn_lit, nI_lm, nI_ml, nI_al, nI_la, nI_add, pk_mul, nI_le_l, nI_l_le, nI_lt_l, nI_l_lt, nI_eq_l, nI_l_eq, nI_eqP, nI_leP, nI_ltP, nI_m1, m1_nI, nI_ll, m1_l, l_m1]
/-- an old THING's name, by both -/
theorem olds (hv : v = 10 ∨ v = 20) (hn : n ≤ 900) (Ly : Lay v c y) (C : CR b n y p (-1)) (T : DT (30 - v) y z t) (R : RX v' c' b n s x0 z q) (hq : sk b n q = p) : (∃ k y1 z1, k < t ∧ fn_68 y 4 (30 - v + 1) (nI t) = some (nI k) ∧ fn_66 4 1 y = some y1 ∧ FA v c y y1 ∧ CR b n y1 (nxt b n p) (-1) ∧ fn_212 96 z = some (nI k, z1) ∧ FX v' c' z z1 ∧ RX v' c' b n s x0 z1 (p + ln b n p)) ∨ (∃ y1 z1, fn_68 y 4 (30 - v + 1) (nI t) = some (-1) ∧ fn_66 4 0 y = some y1 ∧ FA v c y y1 ∧ CR b n y1 p (nI p) ∧ fn_212 96 z = some (-1, z1) ∧ FX v' c' z z1 ∧ RX v' c' b n s x0 z1 p) := by
  have hu : 30 - v = 10 ∨ 30 - v = 20 := by omega
  have hs1 : cm_sh y (30 - v + 1) = some (.inr (.long, 8)) := by
    rcases hu with e | e <;> rw [e] <;> exact (Ly.sh (by decide) (by decide)).trans rfl
  have e := find68 Ly C hn (a1 := 30 - v + 1) (S := 8) hs1 T.1 (by omega)
  rw [fnd_cg (h := fun k => cm_L z 98 (8 + k)) t 0 (fun j _ hj => (T.2.2.2.2 j (by omega)).2.1)] at e
  obtain ⟨o1, o2⟩ := old212 R T.2.2.2.1 T.1 (fun k hk => (T.2.2.2.2 k hk).2.2.1)
  rw [hq] at o1 o2
  by_cases nm : nmok b n p = true
  · rw [if_pos nm] at e o1
    have o3 := fun k hk h => o2 k hk (by rw [if_pos nm]; exact h)
    rcases fnd_rg (g := fun k => cm_L z 98 (8 + k)) (X := vl b n p) t 0 with h | ⟨k, h1, h2, h3, -⟩
    · rw [h] at e
      obtain ⟨z1, a1, a2, a3⟩ := o1 h
      obtain ⟨y1, b1, b2, b3⟩ := acc0 Ly C
      exact Or.inr ⟨y1, z1, e, b1, b2, b3, a1, a2, a3⟩
    · rw [h3] at e
      obtain ⟨z1, a1, a2, a3⟩ := o3 k (by omega) h3
      have kp : kd b n p = 1 := (of_decide_eq_true nm).1
      obtain ⟨y1, b1, b2, b3⟩ := acc1 Ly C (kd_lt (b := b) (n := n) (p := p) (by omega))
      exact Or.inl ⟨k, y1, z1, by omega, e, b1, b2, b3, a1, a2, a3⟩
  · rw [if_neg nm] at e o1
    obtain ⟨z1, a1, a2, a3⟩ := o1 rfl
    obtain ⟨y1, b1, b2, b3⟩ := acc0 Ly C
    exact Or.inr ⟨y1, z1, e, b1, b2, b3, a1, a2, a3⟩
theorem s82c_f (L : Lay v c y) (C : CR b n y p f) (hf : f ≠ -1) (i j : Int32) : s82c i j y = some y := by
  obtain ⟨k, k1, g6, g7, -⟩ := C.g
  obtain ⟨r, e⟩ := num70f L C hf (1 : Int32) (999 : Int32)
  rw [s82c, if_pos (LD L).1, bd e]
  show (if cm_sh y 4 = some (.inl 4) then (if ¬ (cm_I y 4 7) = (-1 : Int32) then some y else _) else none) = some y
  rw [if_pos (LD L).1, g7, if_pos hf]
theorem s82b_e (hv : v = 10 ∨ v = 20) (L : Lay v c y) (h2 : cm_I y (30 - v + 2) 2 = nI t) {r : Int32} (e : fn_68 y 4 (30 - v + 1) (nI t) = some r) (i : Int32) : s82b i y = if r = -1 then (fn_66 4 0 y).bind (s82c i r) else if r = i then (fn_66 4 0 y).bind (s82c i r) else (fn_66 4 1 y).bind (s82c i r) := by
  have hu : 30 - v = 10 ∨ 30 - v = 20 := by omega
  have TBt : TB 2 3 4 32 8 := Or.inl ⟨rfl, rfl, rfl, rfl, rfl⟩
  have r8 := L.2.2.2.2.2.2.2.1
  rw [s82b, if_pos (LD L).1, bd r8, if_pos (LV L hu).1, bd (LV L hu).2.1, bd r8, if_pos (LV L hu).1, bd (LV L hu).2.2.1, if_pos (tv L hu TBt).1, h2, bd e]
theorem e82 (hv : v = 10 ∨ v = 20) (L : Lay v c y) (h2 : cm_I y (30 - v + 2) 2 = nI t) {r : Int32} (e : fn_68 y 4 (30 - v + 1) (nI t) = some r) : fn_82 4 y = if r = -1 then (fn_66 4 0 y).bind (s82b r) else (fn_66 4 1 y).bind (s82b r) := by
  have hu : 30 - v = 10 ∨ 30 - v = 20 := by omega
  have TBt : TB 2 3 4 32 8 := Or.inl ⟨rfl, rfl, rfl, rfl, rfl⟩
  have r8 := L.2.2.2.2.2.2.2.1
  rw [fn_82, if_pos (LD L).1, bd r8, if_pos (LV L hu).1, bd (LV L hu).2.1, bd r8, if_pos (LV L hu).1, bd (LV L hu).2.2.1, if_pos (tv L hu TBt).1, h2, bd e]
  rfl
theorem s82b_f (hv : v = 10 ∨ v = 20) (hn : n ≤ 900) (L : Lay v c y) (C : CR b n y p f) (hf : f ≠ -1) (h2 : cm_I y (30 - v + 2) 2 = nI t) (ht : t ≤ 8) (i : Int32) : s82b i y = some y := by
  have hu : 30 - v = 10 ∨ 30 - v = 20 := by omega
  have hs1 : cm_sh y (30 - v + 1) = some (.inr (.long, 8)) := by
    rcases hu with e | e <;> rw [e] <;> exact (L.sh (by decide) (by decide)).trans rfl
  have e := find68 L C hn (a1 := 30 - v + 1) (S := 8) hs1 ht (by omega)
  generalize (if nmok b n p = true then fnd (cm_L y (30 - v + 1)) (vl b n p) t 0 else -1) = r at e
  rw [s82b_e hv L h2 e, accf L C hf 0, accf L C hf 1]
  by_cases z1 : r = -1
  · rw [if_pos z1]; exact s82c_f L C hf _ _
  · rw [if_neg z1]
    by_cases z2 : r = i
    · rw [if_pos z2]; exact s82c_f L C hf _ _
    · rw [if_neg z2]; exact s82c_f L C hf _ _
theorem pair_f (hv : v = 10 ∨ v = 20) (hn : n ≤ 900) (L : Lay v c y) (C : CR b n y p f) (hf : f ≠ -1) (h2 : cm_I y (30 - v + 2) 2 = nI t) (ht : t ≤ 8) : fn_82 4 y = some y := by
  have hu : 30 - v = 10 ∨ 30 - v = 20 := by omega
  have hs1 : cm_sh y (30 - v + 1) = some (.inr (.long, 8)) := by
    rcases hu with e | e <;> rw [e] <;> exact (L.sh (by decide) (by decide)).trans rfl
  have e := find68 L C hn (a1 := 30 - v + 1) (S := 8) hs1 ht (by omega)
  generalize (if nmok b n p = true then fnd (cm_L y (30 - v + 1)) (vl b n p) t 0 else -1) = r at e
  rw [e82 hv L h2 e, accf L C hf 0, accf L C hf 1]
  by_cases z1 : r = -1
  · rw [if_pos z1]; exact s82b_f hv hn L C hf h2 ht _
  · rw [if_neg z1]; exact s82b_f hv hn L C hf h2 ht _
end PAIRS
