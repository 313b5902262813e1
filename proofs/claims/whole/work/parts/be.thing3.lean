/-! a statement of a THING: the simulation -/
section THG3
variable {v c v' c' u n m q k p t P Q : Nat} {b : Nat → Int32} {w w' w0 x x' x0 y z y1 y2 y3 y4 y5 : cm_W} {f : Int32} {s : St}
theorem DT.c2 (h : DT u w x t) (e1 : ∀ j, cm_I w' (u + 2) j = cm_I w (u + 2) j) (e2 : ∀ j, cm_I w' (u + 3) j = cm_I w (u + 3) j) (e3 : ∀ j, cm_L w' (u + 1) j = cm_L w (u + 1) j) (e4 : cm_I x' 96 13 = cm_I x 96 13) (e5 : ∀ a j, 100 ≤ a → a ≤ 103 → cm_I x' a j = cm_I x a j) (e6 : ∀ j, cm_L x' 98 j = cm_L x 98 j) : DT u w' x' t := by
  obtain ⟨h1, h2, h3, h4, h5⟩ := h
  refine ⟨h1, by rw [e1]; exact h2, by rw [e1]; exact h3, by rw [e4]; exact h4, fun k hk => ?_⟩
  obtain ⟨a1, a2, a3, a4⟩ := h5 k hk
  refine ⟨fun c hc => ?_, ?_, ?_, ?_⟩
  · rw [e2, e5 _ _ (by omega) (by omega)]; exact a1 c hc
  · rw [e3, e6]; exact a2
  · rw [e6]; exact a3
  · rw [e5 _ _ (by omega) (by omega), e5 _ _ (by omega) (by omega), e5 _ _ (by omega) (by omega), e5 _ _ (by omega) (by omega)]; exact a4
theorem DP.c2 (h : DP u w x P) (e1 : ∀ j, cm_I w' (u + 5) j = cm_I w (u + 5) j) (e2 : ∀ j, cm_I w' (u + 6) j = cm_I w (u + 6) j) (e3 : ∀ j, cm_L w' (u + 4) j = cm_L w (u + 4) j) (e4 : cm_I x' 96 14 = cm_I x 96 14) (e5 : ∀ a j, 104 ≤ a → a ≤ 105 → cm_I x' a j = cm_I x a j) (e6 : ∀ j, cm_L x' 99 j = cm_L x 99 j) : DP u w' x' P := by
  obtain ⟨h1, h2, h3, h4, h5⟩ := h
  refine ⟨h1, by rw [e1]; exact h2, by rw [e1]; exact h3, by rw [e4]; exact h4, fun k hk => ?_⟩
  obtain ⟨a1, a2, a3, a4, a5⟩ := h5 k hk
  rw [e2, e2, e3, e5 _ _ (by omega) (by omega), e5 _ _ (by omega) (by omega), e6]
  exact ⟨a1, a2, a3, a4, a5⟩
theorem DH.c2 (h : DH u w x t P) (e1 : ∀ j, cm_I w' (u + 7) j = cm_I w (u + 7) j) (e2 : ∀ a j, 106 ≤ a → a ≤ 107 → cm_I x' a j = cm_I x a j) : DH u w' x' t P := by
  have e3 : ∀ j, cm_I x' 106 j = cm_I x 106 j := fun j => e2 _ _ (by omega) (by omega)
  have e4 : ∀ j, cm_I x' 107 j = cm_I x 107 j := fun j => e2 _ _ (by omega) (by omega)
  unfold DH
  simp only [e1, e3, e4]
  exact h
theorem DQ.c2 (h : DQ u w x t Q) (e1 : ∀ j, cm_I w' (u + 8) j = cm_I w (u + 8) j) (e2 : ∀ j, cm_I w' (u + 9) j = cm_I w (u + 9) j) (e4 : cm_I x' 96 15 = cm_I x 96 15) (e5 : ∀ a j, 108 ≤ a → a ≤ 110 → cm_I x' a j = cm_I x a j) : DQ u w' x' t Q := by
  obtain ⟨h1, h2, h3, h4, h5⟩ := h
  refine ⟨h1, by rw [e1]; exact h2, by rw [e1]; exact h3, by rw [e4]; exact h4, fun k hk => ?_⟩
  obtain ⟨a1, a2, a3, a4, a5⟩ := h5 k hk
  refine ⟨fun c hc => ?_, ?_, ?_, ?_, ?_⟩
  · rw [e2, e5 _ _ (by omega) (by omega)]; exact a1 c hc
  · rw [e5 _ _ (by omega) (by omega)]; exact a2
  · rw [e5 _ _ (by omega) (by omega)]; exact a3
  · rw [e5 _ _ (by omega) (by omega), e5 _ _ (by omega) (by omega)]; exact a4
  · rw [e5 _ _ (by omega) (by omega)]; exact a5
theorem DS.c2 (h : DS u w x m) (e1 : ∀ j, cm_I w' u j = cm_I w u j) (e4 : ∀ j, 16 ≤ j → j ≤ 19 → cm_I x' 96 j = cm_I x 96 j) : DS u w' x' m := by
  unfold DS
  rw [e1, e1, e1, e1, e4 _ (by omega) (by omega), e4 _ (by omega) (by omega), e4 _ (by omega) (by omega), e4 _ (by omega) (by omega)]
  exact h
/-- the class has added the THING, the reference too: both go on -/
theorem thing_fin (hv : v = 10 ∨ v = 20) (S : SR v c v' c' b n s w0 x0 w x p t P Q m) (ht : t < 8) {J : Int64} (hJ : wdx J = -1) {i1 i2 i3 i4 : Int32} (r1 : rg i1 1000) (r2 : rg i2 100) (r3 : rg i3 10) (r4 : rg i4 100) {p1 q1 : Nat} (Ly : Lay v c y) (hFy : FW0 v w0 y) (hU : UW w y) (C : CR b n y p1 (-1)) (R : RX v' c' b n s x0 z q1) (hq : sk b n q1 = p1)
    (hz : (∀ a j, (a ≠ 96 ∨ 13 ≤ j ∧ j ≤ 19) → (¬ (100 ≤ a ∧ a ≤ 103) ∨ j ≠ 8 + t) → cm_I z a j = cm_I x a j) ∧ ∀ a j, (a = 98 ∨ a = 99) → cm_L z a j = cm_L x a j) (z1 : cm_I z 100 (8 + t) = i1) (z2 : cm_I z 101 (8 + t) = i2) (z3 : cm_I z 102 (8 + t) = i3) (z4 : cm_I z 103 (8 + t) = i4) :
    ∃ w1 x1, fn_74_70 4 J i1 i2 i3 i4 y = some w1 ∧ fn_213_136 96 (nI (8 + t)) J z = some (true, x1) ∧ ∃ p', SR v c v' c' b n s w0 x0 w1 x1 p' (t + 1) P Q m := by
  obtain ⟨-, -, T, Pp, H, Qq, D⟩ := S
  have hu : 30 - v = 10 ∨ 30 - v = 20 := by omega
  obtain ⟨t1, t2, t3, t4, t5⟩ := T
  obtain ⟨k, k1, g6, g7, -⟩ := C.g
  have a73 := add73 Ly hu (h0 := by rw [(hU _ (by omega) (by omega)).1]; exact t3) (h2 := by rw [(hU _ (by omega) (by omega)).1]; exact t2) ht J i1 i2 i3 i4
  generalize hw1 : (cm_sI (cm_sI (cm_sI (cm_sI (cm_sL (cm_sI y (30 - v + 2) 2 (nI (t + 1))) (30 - v + 1) t J) (30 - v + 3) (4 * t + 0) i1) (30 - v + 3) (4 * t + 1) i2) (30 - v + 3) (4 * t + 2) i3) (30 - v + 3) (4 * t + 3) i4) = w1 at a73
  have fI : ∀ a j, a ≠ 30 - v + 3 → (a ≠ 30 - v + 2 ∨ j ≠ 2) → cm_I w1 a j = cm_I y a j := fun a j h1 h2 => by
    rw [← hw1, I_ne h1, I_ne h1, I_ne h1, I_ne h1, I_sL, I_if, if_neg (by omega)]
  have f3 : ∀ j, j < 4 * t → cm_I w1 (30 - v + 3) j = cm_I y (30 - v + 3) j := fun j hj => by
    rw [← hw1, I_nk (by omega), I_nk (by omega), I_nk (by omega), I_nk (by omega), I_sL, I_ne (by omega)]
  have f2 : cm_I w1 (30 - v + 2) 2 = nI (t + 1) := by
    rw [← hw1, I_ne (by omega), I_ne (by omega), I_ne (by omega), I_ne (by omega), I_sL, I_eq]
  have n1 : cm_I w1 (30 - v + 3) (4 * t + 0) = i1 := by rw [← hw1, I_nk (by omega), I_nk (by omega), I_nk (by omega), I_eq]
  have n2 : cm_I w1 (30 - v + 3) (4 * t + 1) = i2 := by rw [← hw1, I_nk (by omega), I_nk (by omega), I_eq]
  have n3 : cm_I w1 (30 - v + 3) (4 * t + 2) = i3 := by rw [← hw1, I_nk (by omega), I_eq]
  have n4 : cm_I w1 (30 - v + 3) (4 * t + 3) = i4 := by rw [← hw1, I_eq]
  have fL : ∀ a j, (a ≠ 30 - v + 1 ∨ j ≠ t) → cm_L w1 a j = cm_L y a j := fun a j h1 => by
    rw [← hw1, L_sI, L_sI, L_sI, L_sI, L_if, if_neg (by omega), L_sI]
  have fJ : cm_L w1 (30 - v + 1) t = J := by rw [← hw1, L_sI, L_sI, L_sI, L_sI, L_eq]
  have L1 : Lay v c w1 := by
    rw [← hw1]
    exact Lay.sL (Ly : Lay v c (cm_sI y (30 - v + 2) 2 (nI (t + 1)))) (by omega)
  have zL := R.L
  have x13 : cm_I z 96 13 = nI t := by rw [hz.1 _ _ (by omega) (by omega)]; exact t4
  have R1 : RX v' c' b n s x0 (cm_sI (cm_sL z 98 (8 + t) J) 96 13 (nI (t + 1))) q1 := (R.sL (Or.inl rfl)).sI (by omega) rfl
  have gI : ∀ a j, (a ≠ 96 ∨ j ≠ 13) → cm_I (cm_sI (cm_sL z 98 (8 + t) J) 96 13 (nI (t + 1))) a j = cm_I z a j := fun a j h => by rw [I_if, if_neg (by omega)]; rfl
  have gL : ∀ a j, (a ≠ 98 ∨ j ≠ 8 + t) → cm_L (cm_sI (cm_sL z 98 (8 + t) J) 96 13 (nI (t + 1))) a j = cm_L z a j := fun a j h => by rw [L_sI, L_if, if_neg (by omega)]
  have gJ : cm_L (cm_sI (cm_sL z 98 (8 + t) J) 96 13 (nI (t + 1))) 98 (8 + t) = J := by rw [L_sI, L_eq]
  refine ⟨w1, cm_sI (cm_sL z 98 (8 + t) J) 96 13 (nI (t + 1)), ?_, ?_, p1, ⟨L1, ?_, ?_⟩, ⟨q1, R1, hq⟩, ?_, ?_, ?_, ?_, ?_⟩
  · rw [fn_74_70, if_pos (LD Ly).1, g7, if_neg (fun h => h rfl), bd (show cm_R y 4 8 = some (30 - v) from Ly.2.2.2.2.2.2.2.1), if_pos (LV Ly hu).1, bd a73]
  · simp (disch := omega) only [fn_213_136, ↓LMb zL, LM zL, R_sL, sh_sL, I_sL, x13, cm_w2, Nat.reduceLeDiff, Nat.reduceLT, decide_true, Bool.and_self, Bool.and_true, eq_self, Nat.le_refl, Nat.lt_irrefl, some_if, Option.bind_some, Option.bind_none, Option.some.injEq, ↓reduceIte, reduceCtorEq, Bool.false_eq_true, Bool.true_eq_false, not_true_eq_false, not_false_eq_true, cmb0, cmb1, Nat.reduceAdd, Nat.reduceMul, Nat.reduceSub, Nat.add_zero, Bool.not_eq_true, Bool.not_eq_false, Nat.reduceEqDiff, Nat.reduceLeDiff, Nat.reduceLT, Int32.reduceLT, Int32.reduceLE, iin_nI, iin_lit, iin_m1, tn_nI, tn_lit, nI_lm, nI_ml, nI_al, nI_la, nI_add, pk_mul, nI_le_l, nI_l_le, nI_lt_l, nI_l_lt, nI_eq_l, nI_l_eq, nI_eqP, nI_leP, nI_ltP, nI_m1, m1_nI, nI_ll, m1_l, l_m1]
  · exact hFy.tr fun a ha => ⟨fun j => fI a j (by omega) (by omega), fun j => fL a j (by omega)⟩
  · exact C.eq (fun j _ _ => fI 4 j (by omega) (by omega)) (fun a h1 h2 j => fI a j (by omega) (by omega)) (fun j => fL 8 j (by omega))
  · refine ⟨by omega, f2, ?_, I_eq, fun k hk => ?_⟩
    · rw [fI _ _ (by omega) (by omega), (hU _ (by omega) (by omega)).1]; exact t3
    · by_cases e : k = t
      · subst e
        rw [gI 100 _ (by omega), gI 101 _ (by omega), gI 102 _ (by omega), gI 103 _ (by omega), z1, z2, z3, z4, gJ, fJ]
        refine ⟨fun cc hc => ?_, rfl, hJ, r1, r2, r3, r4⟩
        rcases (show cc = 0 ∨ cc = 1 ∨ cc = 2 ∨ cc = 3 by omega) with rfl | rfl | rfl | rfl
        · rw [n1, gI _ _ (by omega)]; exact z1.symm
        · rw [n2, gI _ _ (by omega)]; exact z2.symm
        · rw [n3, gI _ _ (by omega)]; exact z3.symm
        · rw [n4, gI _ _ (by omega)]; exact z4.symm
      · obtain ⟨a1, a2, a3, a4⟩ := t5 k (by omega)
        refine ⟨fun cc hc => ?_, ?_, ?_, ?_⟩
        · rw [f3 _ (by omega), (hU _ (by omega) (by omega)).1, gI _ _ (by omega), hz.1 _ _ (by omega) (by omega)]; exact a1 cc hc
        · rw [fL _ _ (by omega), (hU _ (by omega) (by omega)).2, gL _ _ (by omega), hz.2 _ _ (by omega)]; exact a2
        · rw [gL _ _ (by omega), hz.2 _ _ (by omega)]; exact a3
        · rw [gI _ _ (by omega), gI _ _ (by omega), gI _ _ (by omega), gI _ _ (by omega), hz.1 _ _ (by omega) (by omega), hz.1 _ _ (by omega) (by omega), hz.1 _ _ (by omega) (by omega), hz.1 _ _ (by omega) (by omega)]; exact a4
  · exact Pp.c2 (fun j => by rw [fI _ _ (by omega) (by omega), (hU _ (by omega) (by omega)).1]) (fun j => by rw [fI _ _ (by omega) (by omega), (hU _ (by omega) (by omega)).1]) (fun j => by rw [fL _ _ (by omega), (hU _ (by omega) (by omega)).2]) (by rw [gI _ _ (by omega), hz.1 _ _ (by omega) (by omega)]) (fun a j h1 h2 => by rw [gI _ _ (by omega), hz.1 _ _ (by omega) (by omega)]) (fun j => by rw [gL _ _ (by omega), hz.2 _ _ (by omega)])
  · have H2 := H.c2 (w' := w1) (x' := cm_sI (cm_sL z 98 (8 + t) J) 96 13 (nI (t + 1))) (fun j => by rw [fI _ _ (by omega) (by omega), (hU _ (by omega) (by omega)).1]) (fun a j h1 h2 => by rw [gI _ _ (by omega), hz.1 _ _ (by omega) (by omega)])
    obtain ⟨h1, h2, h3⟩ := H2
    refine ⟨fun k hk j hj => ⟨(h1 k hk j hj).1, fun h => (h1 k hk j hj).2 (by omega)⟩, h2, fun k hk => ?_⟩
    rcases h3 k hk with ⟨a1, a2, j, a3, a4⟩ | h
    · exact Or.inl ⟨a1, a2, j, by omega, a4⟩
    · exact Or.inr h
  · have Q2 := Qq.c2 (w' := w1) (x' := cm_sI (cm_sL z 98 (8 + t) J) 96 13 (nI (t + 1))) (fun j => by rw [fI _ _ (by omega) (by omega), (hU _ (by omega) (by omega)).1]) (fun j => by rw [fI _ _ (by omega) (by omega), (hU _ (by omega) (by omega)).1]) (by rw [gI _ _ (by omega), hz.1 _ _ (by omega) (by omega)]) (fun a j h1 h2 => by rw [gI _ _ (by omega), hz.1 _ _ (by omega) (by omega)])
    obtain ⟨h1, h2, h3, h4, h5⟩ := Q2
    refine ⟨h1, h2, h3, h4, fun k hk => ?_⟩
    obtain ⟨a1, a2, a3, a4, a5⟩ := h5 k hk
    exact ⟨a1, rg_mono a2 (by omega), rg_mono a3 (by omega), a4, a5⟩
  · exact D.c2 (fun j => by rw [fI _ _ (by omega) (by omega), (hU _ (by omega) (by omega)).1]) (fun j h1 h2 => by rw [gI _ _ (by omega), hz.1 _ _ (by omega) (by omega)])
end THG3
