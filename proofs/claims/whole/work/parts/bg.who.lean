/-! a statement of one of the PEOPLE: both alike -/
/-- the class behind the manner -/
def s76 (J : Int64) (M : Int32) (w : cm_W) : Option cm_W := (if cm_sh w 4 = some (.inl 4) then (fn_70 4 (0 : Int32) (9999 : Int32) w).bind fun v17 => (if cm_sh v17.2 4 = some (.inl 4) then (if ¬ (cm_I v17.2 4 7) = (-1 : Int32) then some v17.2 else (cm_R v17.2 4 8).bind fun r21 => (if cm_sh v17.2 r21 = some (.inl 9) then (fn_75 r21 J M v17.1 v17.2).bind fun w24 => some w24 else none)) else none) else none)
section WHO
variable {v c v' c' u n m q k p t P Q : Nat} {b : Nat → Int32} {w w' w0 x x' x0 y z y1 y2 y3 y4 y5 : cm_W} {f : Int32} {s : St}
theorem wdx_wv (b : Nat → Int32) (n p : Nat) : wdx (wv b n p) = wd b n p := by
  by_cases h : wv b n p = 0
  · rw [h, wdx_0]
    have := wv_0.mp h
    by_cases k1 : kd b n p = 1
    · exact (wd_long k1 (by
        by_cases h8 : 8 < ln b n p
        · exact h8
        · exact absurd ⟨k1, by omega⟩ this)).symm
    · exact (if_neg k1).symm
  · exact wv_wdx h
theorem who_eval (hv : v = 10 ∨ v = 20) (L : Lay v c w) (L1 : Lay v c y1) {J : Int64} (a1 : fn_69 4 (30 - v + 5) w = some (J, y1)) (C : CR b n y1 p f) : fn_76 4 w = if wd b n p - 8 < 0 then (fn_66 4 0 y1).bind (s76 J (wd b n p - 8)) else (fn_66 4 1 y1).bind (s76 J (wd b n p - 8)) := by
  have hu : 30 - v = 10 ∨ 30 - v = 20 := by omega
  obtain ⟨k, k1, g6, g7, g5, r6, r7, r8, r9, pn⟩ := C.g
  have g9 : cm_ga y1 .int 9 (nI k) = true := by
    rw [ga_of (n := 901) ((L1.sh (a := 9) (by decide) (by decide)).trans rfl)]
    exact iin_nI k1 (by decide)
  rw [fn_76, if_pos (LD L).1, bd L.2.2.2.2.2.2.2.1, if_pos (LV L hu).1, bd (LV L hu).2.2.2.2.1, bd a1]
  show (if cm_sh y1 4 = some (.inl 4) then (cm_R y1 4 4).bind fun r10 => (if cm_ga y1 .int r10 (cm_I y1 4 6) = true then (if ((cm_I y1 r10 (cm_I y1 4 6).toNatClampNeg) - (8 : Int32)) < 0 then (fn_66 4 (0 : Int32) y1).bind (s76 J ((cm_I y1 r10 (cm_I y1 4 6).toNatClampNeg) - (8 : Int32))) else (fn_66 4 (1 : Int32) y1).bind (s76 J ((cm_I y1 r10 (cm_I y1 4 6).toNatClampNeg) - (8 : Int32)))) else none) else none) = _
  rw [if_pos (LD L1).1, bd (show cm_R y1 4 4 = some 9 from L1.R rfl), g6, if_pos g9, tn_nI (by omega), r9]
theorem s76_f (L : Lay v c y) (C : CR b n y p f) (hf : f ≠ -1) (J : Int64) (M : Int32) : s76 J M y = some y := by
  obtain ⟨k, k1, g6, g7, -⟩ := C.g
  obtain ⟨r, e⟩ := num70f L C hf (0 : Int32) (9999 : Int32)
  rw [s76, if_pos (LD L).1, bd e]
  show (if cm_sh y 4 = some (.inl 4) then (if ¬ (cm_I y 4 7) = (-1 : Int32) then some y else _) else none) = some y
  rw [if_pos (LD L).1, g7, if_pos hf]
theorem who_f (hv : v = 10 ∨ v = 20) (L : Lay v c w) (L1 : Lay v c y1) {J : Int64} (a1 : fn_69 4 (30 - v + 5) w = some (J, y1)) (C : CR b n y1 p f) (hf : f ≠ -1) : fn_76 4 w = some y1 := by
  rw [who_eval hv L L1 a1 C]
  by_cases z : wd b n p - 8 < 0
  · rw [if_pos z, bd (accf L1 C hf 0)]; exact s76_f L1 C hf _ _
  · rw [if_neg z, bd (accf L1 C hf 1)]; exact s76_f L1 C hf _ _
theorem who_fin (hv : v = 10 ∨ v = 20) (S : SR v c v' c' b n s w0 x0 w x p t P Q m) (hP : P < 12) {J : Int64} (hJ : wdx J = -1) {i1 i2 : Int32} (r1 : rg i1 6) {p1 q1 : Nat} (Ly : Lay v c y) (hFy : FW0 v w0 y) (hU : UW w y) (C : CR b n y p1 (-1)) (R : RX v' c' b n s x0 z q1) (hq : sk b n q1 = p1)
    (hz : (∀ a j, (a ≠ 96 ∨ 13 ≤ j ∧ j ≤ 19) → (a ≠ 104 ∨ j ≠ 12 + P) → cm_I z a j = cm_I x a j) ∧ ∀ a j, (a = 98 ∨ a = 99) → cm_L z a j = cm_L x a j) (z1 : cm_I z 104 (12 + P) = i1) (z2 : cm_I z 96 37 = i2) :
    ∃ w1 x1, fn_75 (30 - v) J i1 i2 y = some w1 ∧ fn_214_78 96 (nI (12 + P)) J z = some (true, x1) ∧ ∃ p', SR v c v' c' b n s w0 x0 w1 x1 p' t (P + 1) Q m := by
  obtain ⟨-, -, T, Pp, H, Qq, D⟩ := S
  have hu : 30 - v = 10 ∨ 30 - v = 20 := by omega
  obtain ⟨t1, t2, t3, t4, t5⟩ := Pp
  have a75 := add75 Ly hu (h0 := by rw [(hU _ (by omega) (by omega)).1]; exact t3) (h2 := by rw [(hU _ (by omega) (by omega)).1]; exact t2) hP J i1 i2
  generalize hw1 : (cm_sI (cm_sI (cm_sI (cm_sL (cm_sI y (30 - v + 5) 2 (nI (P + 1))) (30 - v + 4) P J) (30 - v + 6) (3 * P + 0) i1) (30 - v + 6) (3 * P + 1) i2) (30 - v + 6) (3 * P + 2) 0) = w1 at a75
  have fI : ∀ a j, a ≠ 30 - v + 6 → (a ≠ 30 - v + 5 ∨ j ≠ 2) → cm_I w1 a j = cm_I y a j := fun a j h1 h2 => by
    rw [← hw1, I_ne h1, I_ne h1, I_ne h1, I_sL, I_if, if_neg (by omega)]
  have f3 : ∀ j, j < 3 * P → cm_I w1 (30 - v + 6) j = cm_I y (30 - v + 6) j := fun j hj => by
    rw [← hw1, I_nk (by omega), I_nk (by omega), I_nk (by omega), I_sL, I_ne (by omega)]
  have f2 : cm_I w1 (30 - v + 5) 2 = nI (P + 1) := by
    rw [← hw1, I_ne (by omega), I_ne (by omega), I_ne (by omega), I_sL, I_eq]
  have n1 : cm_I w1 (30 - v + 6) (3 * P) = i1 := by rw [← hw1, I_nk (by omega), I_nk (by omega)]; exact I_eq
  have n2 : cm_I w1 (30 - v + 6) (3 * P + 1) = i2 := by rw [← hw1, I_nk (by omega), I_eq]
  have fL : ∀ a j, (a ≠ 30 - v + 4 ∨ j ≠ P) → cm_L w1 a j = cm_L y a j := fun a j h1 => by
    rw [← hw1, L_sI, L_sI, L_sI, L_if, if_neg (by omega), L_sI]
  have fJ : cm_L w1 (30 - v + 4) P = J := by rw [← hw1, L_sI, L_sI, L_sI, L_eq]
  have L1 : Lay v c w1 := by
    rw [← hw1]
    exact Lay.sL (Ly : Lay v c (cm_sI y (30 - v + 5) 2 (nI (P + 1)))) (by omega)
  have zL := R.L
  have x14 : cm_I z 96 14 = nI P := by rw [hz.1 _ _ (by omega) (by omega)]; exact t4
  have Ra : RX v' c' b n s x0 (cm_sI z 105 (12 + P) i2) q1 := R.sI (by omega) (decide_eq_false (by omega))
  have Rb : RX v' c' b n s x0 (cm_sI (cm_sI z 105 (12 + P) i2) 106 (12 + P) 0) q1 := Ra.sI (by omega) rfl
  have R1 : RX v' c' b n s x0 (cm_sI (cm_sL (cm_sI (cm_sI z 105 (12 + P) i2) 106 (12 + P) 0) 99 (12 + P) J) 96 14 (nI (P + 1))) q1 := (Rb.sL (Or.inr rfl)).sI (by omega) rfl
  generalize hx1 : cm_sI (cm_sL (cm_sI (cm_sI z 105 (12 + P) i2) 106 (12 + P) 0) 99 (12 + P) J) 96 14 (nI (P + 1)) = x1 at R1
  have gI : ∀ a j, (a ≠ 96 ∨ j ≠ 14) → (a ≠ 105 ∧ a ≠ 106 ∨ j ≠ 12 + P) → cm_I x1 a j = cm_I z a j := fun a j h h2 => by
    rw [← hx1, I_if, if_neg (by omega), I_sL, I_if, if_neg (by omega), I_if, if_neg (by omega)]
  have gL : ∀ a j, (a ≠ 99 ∨ j ≠ 12 + P) → cm_L x1 a j = cm_L z a j := fun a j h => by rw [← hx1, L_sI, L_if, if_neg (by omega)]; rfl
  have gJ : cm_L x1 99 (12 + P) = J := by rw [← hx1, L_sI, L_eq]
  have g105 : cm_I x1 105 (12 + P) = i2 := by rw [← hx1, I_ne (by omega), I_sL, I_ne (by omega), I_eq]
  have g106 : cm_I x1 106 (12 + P) = 0 := by rw [← hx1, I_ne (by omega), I_sL, I_eq]
  have g14 : cm_I x1 96 14 = nI (P + 1) := by rw [← hx1, I_eq]
  refine ⟨w1, x1, a75, ?_, p1, ⟨L1, ?_, ?_⟩, ⟨q1, R1, hq⟩, ?_, ?_, ?_, ?_, ?_⟩
  · rw [← hx1]
    simp (disch := omega) only [fn_214_78, ↓LMb zL, LM zL, R_sI, R_sL, sh_sI, sh_sL, ga_sI, I_sL, I_ne, x14, z2, cm_w2, Nat.reduceLeDiff, Nat.reduceLT, decide_true, Bool.and_self, Bool.and_true, eq_self, Nat.le_refl, Nat.lt_irrefl, some_if, Option.bind_some, Option.bind_none, Option.some.injEq, ↓reduceIte, reduceCtorEq, Bool.false_eq_true, Bool.true_eq_false, not_true_eq_false, not_false_eq_true, cmb0, cmb1, Nat.reduceAdd, Nat.reduceMul, Nat.reduceSub, Nat.add_zero, Bool.not_eq_true, Bool.not_eq_false, Nat.reduceEqDiff, Nat.reduceLeDiff, Nat.reduceLT, Int32.reduceLT, Int32.reduceLE, iin_nI, iin_lit, iin_m1, tn_nI, tn_lit, nI_lm, nI_ml, nI_al, nI_la, nI_add, pk_mul, nI_le_l, nI_l_le, nI_lt_l, nI_l_lt, nI_eq_l, nI_l_eq, nI_eqP, nI_leP, nI_ltP, nI_m1, m1_nI, nI_ll, m1_l, l_m1]
  · exact hFy.tr fun a ha => ⟨fun j => fI a j (by omega) (by omega), fun j => fL a j (by omega)⟩
  · exact C.eq (fun j _ _ => fI 4 j (by omega) (by omega)) (fun a h1 h2 j => fI a j (by omega) (by omega)) (fun j => fL 8 j (by omega))
  · exact T.c2 (fun j => by rw [fI _ _ (by omega) (by omega), (hU _ (by omega) (by omega)).1]) (fun j => by rw [fI _ _ (by omega) (by omega), (hU _ (by omega) (by omega)).1]) (fun j => by rw [fL _ _ (by omega), (hU _ (by omega) (by omega)).2]) (by rw [gI _ _ (by omega) (by omega), hz.1 _ _ (by omega) (by omega)]) (fun a j h1 h2 => by rw [gI _ _ (by omega) (by omega), hz.1 _ _ (by omega) (by omega)]) (fun j => by rw [gL _ _ (by omega), hz.2 _ _ (by omega)])
  · refine ⟨by omega, f2, ?_, g14, fun k hk => ?_⟩
    · rw [fI _ _ (by omega) (by omega), (hU _ (by omega) (by omega)).1]; exact t3
    · by_cases e : k = P
      · subst e
        have e104 : cm_I x1 104 (12 + k) = i1 := (gI _ _ (by omega) (by omega)).trans z1
        rw [n1, n2, e104, g105, gJ, fJ]
        exact ⟨rfl, rfl, rfl, hJ, r1⟩
      · obtain ⟨b1, b2, b3, b4, b5⟩ := t5 k (by omega)
        rw [f3 _ (by omega), f3 _ (by omega), (hU _ (by omega) (by omega)).1, (hU _ (by omega) (by omega)).1, fL _ _ (by omega), (hU _ (by omega) (by omega)).2, gI _ _ (by omega) (by omega), gI _ _ (by omega) (by omega), hz.1 _ _ (by omega) (by omega), hz.1 _ _ (by omega) (by omega), gL _ _ (by omega), hz.2 _ _ (by omega)]
        exact ⟨b1, b2, b3, b4, b5⟩
  · obtain ⟨h1, h2, h3⟩ := H
    have e7 : ∀ j, cm_I w1 (30 - v + 7) j = cm_I w (30 - v + 7) j := fun j => by rw [fI _ _ (by omega) (by omega), (hU _ (by omega) (by omega)).1]
    refine ⟨fun k hk j hj => by rw [e7]; exact h1 k hk j hj, fun k hk hk2 j hj => by rw [e7]; exact h2 k (by omega) hk2 j hj, fun k hk => ?_⟩
    by_cases e : k = P
    · subst e
      exact Or.inr ⟨g106, fun j hj => by rw [e7]; exact h2 k (Nat.le_refl _) (by omega) j hj⟩
    · simp only [e7]
      rw [gI 106 _ (by omega) (by omega), hz.1 106 _ (by omega) (by omega)]
      rcases h3 k (by omega) with ⟨a1, a2, a3⟩ | h
      · refine Or.inl ⟨a1, fun j hj => ?_, a3⟩
        rw [gI 107 _ (by omega) (by omega), hz.1 107 _ (by omega) (by omega)]
        exact a2 j hj
      · exact Or.inr h
  · exact Qq.c2 (fun j => by rw [fI _ _ (by omega) (by omega), (hU _ (by omega) (by omega)).1]) (fun j => by rw [fI _ _ (by omega) (by omega), (hU _ (by omega) (by omega)).1]) (by rw [gI _ _ (by omega) (by omega), hz.1 _ _ (by omega) (by omega)]) (fun a j h1 h2 => by rw [gI _ _ (by omega) (by omega), hz.1 _ _ (by omega) (by omega)])
  · exact D.c2 (fun j => by rw [fI _ _ (by omega) (by omega), (hU _ (by omega) (by omega)).1]) (fun j h1 h2 => by rw [gI _ _ (by omega) (by omega), hz.1 _ _ (by omega) (by omega)])
theorem who_sim (hv : v = 10 ∨ v = 20) (hn : n ≤ 900) (S : SR v c v' c' b n s w0 x0 w x p t P Q m) : ∃ w1 r x1, fn_76 4 w = some w1 ∧ fn_214 96 x = some (r, x1) ∧ ((r = true ∧ ∃ p', SR v c v' c' b n s w0 x0 w1 x1 p' t (P + 1) Q m) ∨ (r = false ∧ SF v c v' c' b n s w0 x0 w1 x1)) := by
  have hu : 30 - v = 10 ∨ 30 - v = 20 := by omega
  obtain ⟨⟨L, FW, C⟩, ⟨q, R, hq⟩, T, Pp, H, Qq, D⟩ := id S
  have TBt : TB 5 6 3 36 12 := Or.inr (Or.inl ⟨rfl, rfl, rfl, rfl, rfl⟩)
  have N := new69 L hv C hn T Pp (a1 := 30 - v + 5) (tv L hu TBt).1 (tF L hu TBt Pp.2.2.1 Pp.2.1 Pp.1)
  have pn := C.le
  have flt : ∀ {y1 : cm_W} {x1 : cm_W} {p1 q1 : Nat} {J : Int64}, fn_69 4 (30 - v + 5) w = some (J, y1) → FA v c w y1 → CR b n y1 p1 (nI p1) → RX v' c' b n s x0 x1 q1 → sk b n q1 = p1 → p1 ≤ 900 → fn_76 4 w = some y1 ∧ SF v c v' c' b n s w0 x0 y1 x1 := fun {y1 x1 p1 q1 J} a1 F1 C1 R1 hq1 h9 =>
    ⟨who_f hv L F1.1 a1 C1 (nI_n1 h9), SF.mk hv S F1.1 (FW.A hv F1) F1.U C1 R1 hq1⟩
  by_cases t8 : P = 12
  · obtain ⟨y1, a1, F1, C1⟩ := N.2 (fun h => by have := h.2.2.2; rw [decide_eq_true t8] at this; cases this)
    obtain ⟨g1, g2⟩ := flt a1 F1 C1 R hq (by omega)
    refine ⟨y1, false, x, g1, ?_, Or.inr ⟨rfl, g2⟩⟩
    rw [fn_214, if_pos (LM R.L).1, Pp.2.2.2.1, if_neg (fun h => h (by rw [t8]; rfl))]
  have t8' : P < 12 := by have := Pp.1; omega
  have e214 : fn_214 96 x = fn_214_19 96 (nI (12 + P)) x := by
    rw [fn_214, if_pos (LM R.L).1, Pp.2.2.2.1, if_pos (show ¬ nI P = (12 : Int32) from fun h => t8 ((nI_eq (a := P) (b := 12) (by omega) (by decide)).mp h)), show (12 : Int32) + nI P = nI (12 + P) from nI_al 12 P]
  have M := new211 R T.2.2.2.1 T.1 Pp.2.2.2.1 Pp.1
  rw [hq] at M
  by_cases nm : nmok b n p = true ∧ fnd (fun k => cm_L x 98 (8 + k)) (vl b n p) t 0 = -1 ∧ fnd (fun k => cm_L x 99 (12 + k)) (vl b n p) P 0 = -1
  rotate_left
  · obtain ⟨y1, a1, F1, C1⟩ := N.2 (fun h => nm ⟨h.1, h.2.1, h.2.2.1⟩)
    obtain ⟨z1, b1, G1, R1⟩ := M.2 nm
    obtain ⟨g1, g2⟩ := flt a1 F1 C1 R1 (sk_p C) (by omega)
    refine ⟨y1, false, z1, g1, ?_, Or.inr ⟨rfl, g2⟩⟩
    rw [e214, fn_214_19, if_pos (LM R.L).1, bd b1]
    rfl
  obtain ⟨y1, a1, F1, C1⟩ := N.1 ⟨nm.1, nm.2.1, nm.2.2, decide_eq_false t8⟩
  obtain ⟨z1, b1, G1, R1, J0, Jw⟩ := M.1 nm
  have hq1 : sk b n (p + ln b n p) = nxt b n p := rfl
  generalize nxt b n p = p1 at *
  generalize vl b n p = J at *
  have J0' : ¬ lg_cmp J (0 : Int64) = 0 := fun h => J0 ((lgc_eq _ _).mp h)
  have pn1 := C1.le
  have ev := who_eval hv L F1.1 a1 C1
  -- the MANNER
  obtain ⟨z2, b2, G2, h11, h36, -⟩ := word_ok R1.L R1.2.1 R1.2.2.2 R1.2.2.1
  rw [hq1] at b2 h11 h36
  have R2 := R1.X G2 h11 pn1
  have m7 := m207 z2 (wv b n p1)
  rw [wdx_wv] at m7
  have s104 : cm_sh z2 104 = some (.inr (.int, 24)) := (G2.1.sh (by decide) (by decide)).trans rfl
  have g104 : ∀ z' : cm_W, Lay v' c' z' → cm_ga z' .int 104 (nI (12 + P)) = true := fun z' Lz => by
    rw [ga_of (n := 24) ((Lz.sh (a := 104) (by decide) (by decide)).trans rfl)]
    exact iin_nI (by omega) (by decide)
  have e32 : fn_214 96 x = if ¬ (if wd b n p1 - 8 < 0 then (-1 : Int32) else wd b n p1 - 8) = (-1 : Int32) then fn_214_57 96 (nI (12 + P)) J (cm_sI z2 104 (12 + P) (if wd b n p1 - 8 < 0 then (-1 : Int32) else wd b n p1 - 8)) else some (false, cm_sI z2 104 (12 + P) (if wd b n p1 - 8 < 0 then (-1 : Int32) else wd b n p1 - 8)) := by
    rw [e214, fn_214_19, if_pos (LM R.L).1, bd b1]
    show (if ¬ lg_cmp J (0 : Int64) = 0 then fn_214_32 96 (nI (12 + P)) J z1 else some (false, z1)) = _
    rw [if_pos J0', fn_214_32, if_pos (LM G1.1).1, bd (show cm_R z1 96 26 = some 104 from G1.1.R rfl), bd b2]
    show ((fn_207 z2 (wv b n p1)).bind fun v25 => (if cm_ga z2 .int 104 (nI (12 + P)) = true then (if cm_w2 96 143 104 = true then (if cm_sh z2 96 = some (.inl 11) then (cm_R (cm_sI z2 104 (nI (12 + P)).toNatClampNeg v25) 96 26).bind fun r30 => (if cm_ga z2 .int r30 (nI (12 + P)) = true then (if ¬ (cm_I (cm_sI z2 104 (nI (12 + P)).toNatClampNeg v25) r30 (nI (12 + P)).toNatClampNeg) = (-1 : Int32) then fn_214_57 96 (nI (12 + P)) J (cm_sI z2 104 (nI (12 + P)).toNatClampNeg v25) else some (false, (cm_sI z2 104 (nI (12 + P)).toNatClampNeg v25))) else none) else none) else none) else none)) = _
    have Lz : ∀ i : Int32, Lay v' c' (cm_sI z2 104 (12 + P) i) := fun i => G2.1
    rw [bd m7, if_pos (g104 _ G2.1), if_pos (show cm_w2 96 143 104 = true from rfl), if_pos (LM G2.1).1, tn_nI (by omega), bd (show cm_R (cm_sI z2 104 (12 + P) _) 96 26 = some 104 from (Lz _).R rfl), if_pos (g104 _ G2.1), I_eq]
  have U2 := G1.U.tr G2.U
  by_cases mn : wd b n p1 - 8 < 0
  · rw [if_pos mn] at ev
    rw [if_pos mn, if_neg (fun h => h rfl)] at e32
    obtain ⟨y2, d1, F2, C2⟩ := acc0 F1.1 C1
    refine ⟨y2, false, _, ?_, e32, Or.inr ⟨rfl, SF.mk hv S F2.1 ((FW.A hv F1).A hv F2) (F1.U.tr F2.U) C2 (R2.sI (by omega) (decide_eq_false (by omega))) (sk_p C1)⟩⟩
    rw [ev, bd d1]
    exact s76_f F2.1 C2 (nI_n1 (by omega)) _ _
  rw [if_neg mn] at ev e32
  obtain ⟨j, hj, hj8, ej, k1⟩ : ∃ j, j < 14 ∧ 8 ≤ j ∧ wd b n p1 = nI j ∧ kd b n p1 = 1 := by
    rcases wd_cs (b := b) (n := n) (p := p1) with ⟨j, hj, e, k1, -⟩ | e
    · refine ⟨j, hj, ?_, e, k1⟩
      by_cases z : 8 ≤ j
      · exact z
      · exfalso
        apply mn
        rw [e]
        have : ∀ j : Fin 8, nI j.1 - 8 < 0 := by decide +kernel
        exact this ⟨j, by omega⟩
    · exfalso; apply mn; rw [e]; decide
  have em : wd b n p1 - 8 = nI (j - 8) := by rw [ej]; exact pk_sub (b := 8) hj8
  rw [em] at ev e32
  rw [if_pos (nI_n1 (by omega))] at e32
  obtain ⟨y2, d1, F2, C2⟩ := acc1 F1.1 C1 (kd_lt (b := b) (n := n) (p := p1) (by omega))
  have F12 := F1.tr F2
  rw [wl_1 k1] at h36
  -- the PURSE
  have R3 : RX v' c' b n s x0 (cm_sI (cm_sI z2 104 (12 + P) (nI (j - 8))) 96 11 (nI (p1 + ln b n p1))) (p1 + ln b n p1) := by
    have Ra : RX v' c' b n s x0 (cm_sI z2 104 (12 + P) (nI (j - 8))) p1 := R2.sI (by omega) (decide_eq_false (by omega))
    exact Ra.X ((FX.rf Ra.L).sI (by omega)) I_eq (ln_pos (b := b) (n := n) (p := p1) (Or.inl k1)).2
  have e57 : fn_214_57 96 (nI (12 + P)) J (cm_sI z2 104 (12 + P) (nI (j - 8))) = (fn_206 96 (0 : Int32) (9999 : Int32) (cm_sI (cm_sI z2 104 (12 + P) (nI (j - 8))) 96 11 (nI (p1 + ln b n p1)))).bind fun v17 => (if ¬ (cm_b v17.1) = 0 then fn_214_78 96 (nI (12 + P)) J v17.2 else some (false, v17.2)) := by
    have e36 : cm_I (cm_sI z2 104 (12 + P) (nI (j - 8))) 96 36 = nI (p1 + ln b n p1) := by rw [I_ne (by omega)]; exact h36
    rw [fn_214_57, if_pos (show cm_sh (cm_sI z2 104 (12 + P) (nI (j - 8))) 96 = some (.inl 11) from (LM G2.1).1), if_pos (show cm_w2 96 143 96 = true from rfl), e36]
  rcases nums hn F2.1 C2 R3 rfl (lo := 0) (hi := 9999) (by omega) (by omega) with ⟨i2, y3, z3, e1, F3, C3, k2, G3, R4, h37, r2⟩ | ⟨y3, z3, e1, F3, C3, k2, G3, R4⟩
  · have F13 := F12.tr F3
    have hz : (∀ a j, (a ≠ 96 ∨ 13 ≤ j ∧ j ≤ 19) → (a ≠ 104 ∨ j ≠ 12 + P) → cm_I z3 a j = cm_I x a j) ∧ ∀ a j, (a = 98 ∨ a = 99) → cm_L z3 a j = cm_L x a j := by
      refine ⟨fun a j h1 h2 => ?_, fun a j h1 => ?_⟩
      · rw [G3.U.1 a j h1, I_if, if_neg (by omega), I_if, if_neg (by omega), U2.1 a j h1]
      · rw [G3.U.2 a j h1, L_sI, L_sI, U2.2 a j h1]
    obtain ⟨w1, x1, A1, A2, A3⟩ := who_fin hv S t8' Jw (i1 := nI (j - 8)) (i2 := nI i2) ⟨j - 8, by omega, rfl⟩ F13.1 (FW.A hv F13) F13.U C3 R4 rfl hz (by rw [G3.2.1 _ (by omega), I_ne (by omega), I_eq]) h37
    refine ⟨w1, true, x1, ?_, ?_, Or.inl ⟨rfl, A3⟩⟩
    · obtain ⟨kk, kk1, g6, g7, -⟩ := C3.g
      rw [ev, bd d1, s76, if_pos (LD F2.1).1, bd (show fn_70 4 (0 : Int32) (9999 : Int32) y2 = some (nI i2, y3) from e1)]
      show (if cm_sh y3 4 = some (.inl 4) then (if ¬ (cm_I y3 4 7) = (-1 : Int32) then some y3 else (cm_R y3 4 8).bind fun r21 => (if cm_sh y3 r21 = some (.inl 9) then (fn_75 r21 J (nI (j - 8)) (nI i2) y3).bind fun w24 => some w24 else none)) else none) = _
      rw [if_pos (LD F3.1).1, g7, if_neg (fun h => h rfl), bd F3.1.2.2.2.2.2.2.2.1, if_pos (LV F3.1 hu).1, bd A1]
    · rw [e32, e57, bd (show fn_206 96 (0 : Int32) (9999 : Int32) _ = some (true, z3) from k2)]
      exact A2
  · have F13 := F12.tr F3
    have f1 : ¬ nI (nxt b n p1) = -1 := nI_n1 (Nat.le_trans C2.le hn)
    refine ⟨y3, false, z3, ?_, ?_, Or.inr ⟨rfl, SF.mk hv S F13.1 (FW.A hv F13) F13.U C3 R4 (sk_p C3)⟩⟩
    · obtain ⟨kk, kk1, g6, g7, -⟩ := C3.g
      rw [ev, bd d1, s76, if_pos (LD F2.1).1, bd (show fn_70 4 (0 : Int32) (9999 : Int32) y2 = some (-1, y3) from e1)]
      show (if cm_sh y3 4 = some (.inl 4) then (if ¬ (cm_I y3 4 7) = (-1 : Int32) then some y3 else _) else none) = _
      rw [if_pos (LD F3.1).1, g7, if_pos f1]
    · rw [e32, e57, bd (show fn_206 96 (0 : Int32) (9999 : Int32) _ = some (false, z3) from k2)]
      rfl
end WHO
