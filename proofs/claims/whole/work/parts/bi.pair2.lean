/-! pairs: the simulation -/
section PAIRS2
variable {v c v' c' u n m q k p t P Q : Nat} {b : Nat → Int32} {w w' w0 x x' x0 y z y1 y2 y3 y4 y5 : cm_W} {f : Int32} {s : St}
theorem pair_fin (hv : v = 10 ∨ v = 20) (S : SR v c v' c' b n s w0 x0 w x p t P Q m) (hQ : Q < 6) {k1 k2 : Nat} {i3 : Int32} (h1 : k1 < t) (h2 : k2 < t) (h12 : k1 ≠ k2) (r3 : rg i3 1000) {p1 q1 : Nat} (Ly : Lay v c y) (hFy : FW0 v w0 y) (hU : UW w y) (C : CR b n y p1 (-1)) (R : RX v' c' b n s x0 z q1) (hq : sk b n q1 = p1) (hz : UX x z) (z2 : cm_I z 96 37 = i3) :
    ∃ w1 x1, fn_81 (30 - v) (nI k1) (nI k2) i3 y = some w1 ∧ fn_216_69 96 (nI (6 + Q)) (nI k1) (nI k2) z = some (true, x1) ∧ ∃ p', SR v c v' c' b n s w0 x0 w1 x1 p' t P (Q + 1) m := by
  obtain ⟨-, -, T, Pp, H, Qq, D⟩ := S
  have hu : 30 - v = 10 ∨ 30 - v = 20 := by omega
  have ht8 := T.1
  obtain ⟨t1, t2, t3, t4, t5⟩ := Qq
  have a81 := add81 Ly hu (h0 := by rw [(hU _ (by omega) (by omega)).1]; exact t3) (h2 := by rw [(hU _ (by omega) (by omega)).1]; exact t2) hQ (nI k1) (nI k2) i3
  generalize hw1 : (cm_sI (cm_sI (cm_sI (cm_sI y (30 - v + 8) 2 (nI (Q + 1))) (30 - v + 9) (3 * Q + 0) (nI k1)) (30 - v + 9) (3 * Q + 1) (nI k2)) (30 - v + 9) (3 * Q + 2) i3) = w1 at a81
  have fI : ∀ a j, a ≠ 30 - v + 9 → (a ≠ 30 - v + 8 ∨ j ≠ 2) → cm_I w1 a j = cm_I y a j := fun a j h1 h2 => by
    rw [← hw1, I_ne h1, I_ne h1, I_ne h1, I_if, if_neg (by omega)]
  have f3 : ∀ j, j < 3 * Q → cm_I w1 (30 - v + 9) j = cm_I y (30 - v + 9) j := fun j hj => by
    rw [← hw1, I_nk (by omega), I_nk (by omega), I_nk (by omega), I_ne (by omega)]
  have f2 : cm_I w1 (30 - v + 8) 2 = nI (Q + 1) := by
    rw [← hw1, I_ne (by omega), I_ne (by omega), I_ne (by omega), I_eq]
  have n1 : cm_I w1 (30 - v + 9) (3 * Q + 0) = nI k1 := by rw [← hw1, I_nk (by omega), I_nk (by omega), I_eq]
  have n2 : cm_I w1 (30 - v + 9) (3 * Q + 1) = nI k2 := by rw [← hw1, I_nk (by omega), I_eq]
  have n3 : cm_I w1 (30 - v + 9) (3 * Q + 2) = i3 := by rw [← hw1, I_eq]
  have fL : ∀ a j, cm_L w1 a j = cm_L y a j := fun a j => by rw [← hw1]; rfl
  have L1 : Lay v c w1 := by rw [← hw1]; exact Ly
  have zL := R.L
  have x15 : cm_I z 96 15 = nI Q := by rw [hz.1 _ _ (by omega)]; exact t4
  have Ra : RX v' c' b n s x0 (cm_sI z 108 (6 + Q) (nI k1)) q1 := R.sI (by omega) (decide_eq_false (by omega))
  have Rb : RX v' c' b n s x0 (cm_sI (cm_sI z 108 (6 + Q) (nI k1)) 109 (6 + Q) (nI k2)) q1 := Ra.sI (by omega) (decide_eq_false (by omega))
  have Rc : RX v' c' b n s x0 (cm_sI (cm_sI (cm_sI z 108 (6 + Q) (nI k1)) 109 (6 + Q) (nI k2)) 110 (6 + Q) i3) q1 := Rb.sI (by omega) (decide_eq_false (by omega))
  have R1 : RX v' c' b n s x0 (cm_sI (cm_sI (cm_sI (cm_sI z 108 (6 + Q) (nI k1)) 109 (6 + Q) (nI k2)) 110 (6 + Q) i3) 96 15 (nI (Q + 1))) q1 := Rc.sI (by omega) rfl
  generalize hx1 : cm_sI (cm_sI (cm_sI (cm_sI z 108 (6 + Q) (nI k1)) 109 (6 + Q) (nI k2)) 110 (6 + Q) i3) 96 15 (nI (Q + 1)) = x1 at R1
  have gI : ∀ a j, (a ≠ 96 ∨ j ≠ 15) → (¬ (108 ≤ a ∧ a ≤ 110) ∨ j ≠ 6 + Q) → cm_I x1 a j = cm_I z a j := fun a j h h2 => by
    rw [← hx1, I_if, if_neg (by omega), I_if, if_neg (by omega), I_if, if_neg (by omega), I_if, if_neg (by omega)]
  have gL : ∀ a j, cm_L x1 a j = cm_L z a j := fun a j => by rw [← hx1]; rfl
  have g8 : cm_I x1 108 (6 + Q) = nI k1 := by rw [← hx1, I_ne (by omega), I_ne (by omega), I_ne (by omega), I_eq]
  have g9 : cm_I x1 109 (6 + Q) = nI k2 := by rw [← hx1, I_ne (by omega), I_ne (by omega), I_eq]
  have g10 : cm_I x1 110 (6 + Q) = i3 := by rw [← hx1, I_ne (by omega), I_eq]
  have g15 : cm_I x1 96 15 = nI (Q + 1) := by rw [← hx1, I_eq]
  refine ⟨w1, x1, a81, ?_, p1, ⟨L1, ?_, ?_⟩, ⟨q1, R1, hq⟩, ?_, ?_, ?_, ?_, ?_⟩
  · rw [← hx1]
    simp (disch := omega) only [fn_216_69, ↓LMb zL, LM zL, R_sI, sh_sI, ga_sI, I_ne, x15, z2, cm_w2, Nat.reduceLeDiff, Nat.reduceLT, decide_true, Bool.and_self, Bool.and_true, eq_self, Nat.le_refl, Nat.lt_irrefl, some_if, Option.bind_some, Option.bind_none, Option.some.injEq, ↓reduceIte, reduceCtorEq, Bool.false_eq_true, Bool.true_eq_false, not_true_eq_false, not_false_eq_true, cmb0, cmb1, Nat.reduceAdd, Nat.reduceMul, Nat.reduceSub, Nat.add_zero, Bool.not_eq_true, Bool.not_eq_false, Nat.reduceEqDiff, Nat.reduceLeDiff, Nat.reduceLT, Int32.reduceLT, Int32.reduceLE, iin_nI, iin_lit, iin_m1, tn_nI, tn_lit, nI_lm, nI_ml, nI_al, nI_la, nI_add, pk_mul, nI_le_l, nI_l_le, nI_lt_l, nI_l_lt, nI_eq_l, nI_l_eq, nI_eqP, nI_leP, nI_ltP, nI_m1, m1_nI, nI_ll, m1_l, l_m1]
  · exact hFy.tr fun a ha => ⟨fun j => fI a j (by omega) (by omega), fun j => fL a j⟩
  · exact C.eq (fun j _ _ => fI 4 j (by omega) (by omega)) (fun a h1 h2 j => fI a j (by omega) (by omega)) (fun j => fL 8 j)
  · exact T.c2 (fun j => by rw [fI _ _ (by omega) (by omega), (hU _ (by omega) (by omega)).1]) (fun j => by rw [fI _ _ (by omega) (by omega), (hU _ (by omega) (by omega)).1]) (fun j => by rw [fL, (hU _ (by omega) (by omega)).2]) (by rw [gI _ _ (by omega) (by omega), hz.1 _ _ (by omega)]) (fun a j h1 h2 => by rw [gI _ _ (by omega) (by omega), hz.1 _ _ (by omega)]) (fun j => by rw [gL, hz.2 _ _ (by omega)])
  · exact Pp.c2 (fun j => by rw [fI _ _ (by omega) (by omega), (hU _ (by omega) (by omega)).1]) (fun j => by rw [fI _ _ (by omega) (by omega), (hU _ (by omega) (by omega)).1]) (fun j => by rw [fL, (hU _ (by omega) (by omega)).2]) (by rw [gI _ _ (by omega) (by omega), hz.1 _ _ (by omega)]) (fun a j h1 h2 => by rw [gI _ _ (by omega) (by omega), hz.1 _ _ (by omega)]) (fun j => by rw [gL, hz.2 _ _ (by omega)])
  · exact H.c2 (fun j => by rw [fI _ _ (by omega) (by omega), (hU _ (by omega) (by omega)).1]) (fun a j h1 h2 => by rw [gI _ _ (by omega) (by omega), hz.1 _ _ (by omega)])
  · refine ⟨by omega, f2, ?_, g15, fun k hk => ?_⟩
    · rw [fI _ _ (by omega) (by omega), (hU _ (by omega) (by omega)).1]; exact t3
    · by_cases e : k = Q
      · subst e
        rw [g8, g9, g10]
        refine ⟨fun cc hc => ?_, ⟨k1, h1, rfl⟩, ⟨k2, h2, rfl⟩, fun h => h12 ((nI_eq (by omega) (by omega)).mp h), r3⟩
        rcases (show cc = 0 ∨ cc = 1 ∨ cc = 2 by omega) with rfl | rfl | rfl
        · rw [n1]; exact g8.symm
        · rw [n2]; exact g9.symm
        · rw [n3]; exact g10.symm
      · obtain ⟨b1, b2, b3, b4, b5⟩ := t5 k (by omega)
        refine ⟨fun cc hc => ?_, ?_, ?_, ?_, ?_⟩
        · rw [f3 _ (by omega), (hU _ (by omega) (by omega)).1, gI _ _ (by omega) (by omega), hz.1 _ _ (by omega)]; exact b1 cc hc
        · rw [gI _ _ (by omega) (by omega), hz.1 _ _ (by omega)]; exact b2
        · rw [gI _ _ (by omega) (by omega), hz.1 _ _ (by omega)]; exact b3
        · rw [gI _ _ (by omega) (by omega), hz.1 _ _ (by omega), gI _ _ (by omega) (by omega), hz.1 _ _ (by omega)]; exact b4
        · rw [gI _ _ (by omega) (by omega), hz.1 _ _ (by omega)]; exact b5
  · exact D.c2 (fun j => by rw [fI _ _ (by omega) (by omega), (hU _ (by omega) (by omega)).1]) (fun j h1 h2 => by rw [gI _ _ (by omega) (by omega), hz.1 _ _ (by omega)])
theorem pair_sim (hv : v = 10 ∨ v = 20) (hn : n ≤ 900) (S : SR v c v' c' b n s w0 x0 w x p t P Q m) (hQ : Q < 6) : ∃ w1 r x1, fn_82 4 w = some w1 ∧ fn_216 96 x = some (r, x1) ∧ ((r = true ∧ ∃ p', SR v c v' c' b n s w0 x0 w1 x1 p' t P (Q + 1) m) ∨ (r = false ∧ SF v c v' c' b n s w0 x0 w1 x1)) := by
  have hu : 30 - v = 10 ∨ 30 - v = 20 := by omega
  obtain ⟨⟨L, FW, C⟩, ⟨q, R, hq⟩, T, Pp, H, Qq, D⟩ := id S
  have pn := C.le
  rcases olds hv hn L C T R hq with ⟨k1, y1, z1, l1, e1, d1, F1, C1, b1, G1, R1⟩ | ⟨y1, z1, e1, d1, F1, C1, b1, G1, R1⟩
  rotate_left
  · have f1 : nI p ≠ -1 := nI_n1 (by omega)
    refine ⟨y1, false, z1, ?_, ?_, Or.inr ⟨rfl, SF.mk hv S F1.1 (FW.A hv F1) F1.U C1 R1 (sk_p C)⟩⟩
    · rw [e82 hv L T.2.1 e1, if_pos rfl, bd d1]
      exact s82b_f hv hn F1.1 C1 f1 (by rw [F1.2.1 _ (by omega)]; exact T.2.1) T.1 _
    · rw [fn_216, if_pos (LM R.L).1, bd b1]; rfl
  have ht8 := T.1
  have n1 : nI k1 ≠ -1 := nI_n1 (by omega)
  have ec1 : fn_82 4 w = s82b (nI k1) y1 := by rw [e82 hv L T.2.1 e1, if_neg n1, bd d1]
  have er1 : fn_216 96 x = fn_216_20 96 (nI (6 + Q)) (nI k1) z1 := by
    rw [fn_216, if_pos (LM R.L).1, bd b1]
    show (if ¬ nI k1 = (-1 : Int32) then fn_216_20 96 ((6 : Int32) + cm_I x 96 15) (nI k1) z1 else some (false, z1)) = _
    rw [if_pos n1, Qq.2.2.2.1, show (6 : Int32) + nI Q = nI (6 + Q) from nI_al 6 Q]
  obtain ⟨z2, b2, G2, h11, -, -⟩ := blanks_ok R1.L R1.2.1 R1.2.2.2 R1.2.2.1
  have hq1 : sk b n (p + ln b n p) = nxt b n p := rfl
  rw [hq1] at h11
  have pn1 := C1.le
  generalize nxt b n p = p1 at *
  have R2 := R1.X G2 h11 pn1
  have U2 := G1.U.tr G2.U
  have T1 := T.cg hu F1.U U2
  have er2 : fn_216_20 96 (nI (6 + Q)) (nI k1) z1 = (fn_212 96 z2).bind fun v26 => (if ¬ v26.1 = (-1 : Int32) then fn_216_43 96 (nI (6 + Q)) (nI k1) (nI p1) v26.1 v26.2 else some (false, v26.2)) := by
    rw [fn_216_20, if_pos (LM R1.L).1, bd b2, if_pos (LM G2.1).1, h11]
  rcases olds hv hn F1.1 C1 T1 R2 (sk_p C1) with ⟨k2, y2, z3, l2, e2, d2, F2, C2, b3, G3, R3⟩ | ⟨y2, z3, e2, d2, F2, C2, b3, G3, R3⟩
  rotate_left
  · have f1 : nI p1 ≠ -1 := nI_n1 (by omega)
    refine ⟨y2, false, z3, ?_, ?_, Or.inr ⟨rfl, SF.mk hv S F2.1 ((FW.A hv F1).A hv F2) (F1.U.tr F2.U) C2 R3 (sk_p C1)⟩⟩
    · rw [ec1, s82b_e hv F1.1 T1.2.1 e2, if_pos rfl, bd d2]
      exact s82c_f F2.1 C2 f1 _ _
    · rw [er1, er2, bd b3]; rfl
  have n2 : nI k2 ≠ -1 := nI_n1 (by omega)
  have er3 : fn_216_20 96 (nI (6 + Q)) (nI k1) z1 = fn_216_43 96 (nI (6 + Q)) (nI k1) (nI p1) (nI k2) z3 := by
    rw [er2, bd b3]
    show (if ¬ nI k2 = (-1 : Int32) then fn_216_43 96 (nI (6 + Q)) (nI k1) (nI p1) (nI k2) z3 else some (false, z3)) = _
    rw [if_pos n2]
  by_cases e12 : k2 = k1
  · subst e12
    obtain ⟨y2', d2', F2', C2'⟩ := acc0 F1.1 C1
    have f1 : nI p1 ≠ -1 := nI_n1 (by omega)
    refine ⟨y2', false, cm_sI z3 96 11 (nI p1), ?_, ?_, Or.inr ⟨rfl, SF.mk hv S F2'.1 ((FW.A hv F1).A hv F2') (F1.U.tr F2'.U) C2' (R3.X ((FX.rf R3.L).sI (by omega)) I_eq pn1) (sk_p C1)⟩⟩
    · rw [ec1, s82b_e hv F1.1 T1.2.1 e2, if_neg n2, if_pos rfl, bd d2']
      exact s82c_f F2'.1 C2' f1 _ _
    · rw [er1, er3, fn_216_43, if_neg (fun h => h rfl), if_pos (LM G3.1).1, if_pos (show cm_w2 96 143 96 = true from rfl)]
  have n12 : ¬ nI k2 = nI k1 := fun h => e12 ((nI_eq (by omega) (by omega)).mp h)
  have ec2 : fn_82 4 w = s82c (nI k1) (nI k2) y2 := by
    rw [ec1, s82b_e hv F1.1 T1.2.1 e2, if_neg n2, if_neg n12, bd d2]
  have er4 : fn_216 96 x = fn_216_56 96 (nI (6 + Q)) (nI k1) (nI k2) z3 := by
    rw [er1, er3, fn_216_43, if_pos (fun h => n12 h.symm)]
  have F12 := F1.tr F2
  rcases nums hn F2.1 C2 R3 rfl (lo := 1) (hi := 999) (by omega) (by omega) with ⟨i2, y3, z4, e3, F3, C3, k3, G4, R4, h37, r2⟩ | ⟨y3, z4, e3, F3, C3, k3, G4, R4⟩
  · have F13 := F12.tr F3
    obtain ⟨w1, x1, A1, A2, A3⟩ := pair_fin hv S hQ l1 l2 (fun h => e12 h.symm) r2 F13.1 (FW.A hv F13) F13.U C3 R4 rfl ((U2.tr G3.U).tr G4.U) h37
    refine ⟨w1, true, x1, ?_, ?_, Or.inl ⟨rfl, A3⟩⟩
    · obtain ⟨kk, kk1, g6, g7, -⟩ := C3.g
      rw [ec2, s82c, if_pos (LD F2.1).1, bd (show fn_70 4 (1 : Int32) (999 : Int32) y2 = some (nI i2, y3) from e3)]
      show (if cm_sh y3 4 = some (.inl 4) then (if ¬ (cm_I y3 4 7) = (-1 : Int32) then some y3 else (cm_R y3 4 8).bind fun r40 => (if cm_sh y3 r40 = some (.inl 9) then (fn_81 r40 (nI k1) (nI k2) (nI i2) y3).bind fun w43 => some w43 else none)) else none) = _
      rw [if_pos (LD F3.1).1, g7, if_neg (fun h => h rfl), bd F3.1.2.2.2.2.2.2.2.1, if_pos (LV F3.1 hu).1, bd A1]
    · rw [er4, fn_216_56, if_pos (LM G3.1).1, bd (show fn_206 96 (1 : Int32) (999 : Int32) z3 = some (true, z4) from k3)]
      exact A2
  · have F13 := F12.tr F3
    have f1 : ¬ nI (nxt b n p1) = -1 := nI_n1 (Nat.le_trans C2.le hn)
    refine ⟨y3, false, z4, ?_, ?_, Or.inr ⟨rfl, SF.mk hv S F13.1 (FW.A hv F13) F13.U C3 R4 (sk_p C3)⟩⟩
    · obtain ⟨kk, kk1, g6, g7, -⟩ := C3.g
      rw [ec2, s82c, if_pos (LD F2.1).1, bd (show fn_70 4 (1 : Int32) (999 : Int32) y2 = some (-1, y3) from e3)]
      show (if cm_sh y3 4 = some (.inl 4) then (if ¬ (cm_I y3 4 7) = (-1 : Int32) then some y3 else _) else none) = _
      rw [if_pos (LD F3.1).1, g7, if_pos f1]
    · rw [er4, fn_216_56, if_pos (LM G3.1).1, bd (show fn_206 96 (1 : Int32) (999 : Int32) z3 = some (false, z4) from k3)]
      rfl
end PAIRS2
