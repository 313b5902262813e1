/-! the village's statements: both go through them alike -/
section LOOP
variable {v c v' c' u n m q k p t P Q i j : Nat} {b : Nat → Int32} {w w' w0 x x' x0 y z y1 y2 y3 y4 y5 z1 : cm_W} {f : Int32} {s : St}
theorem e6665 (L : Lay v c w) : fn_66 4 0 w = fn_65 4 w := by
  rw [fn_66, if_pos rfl, fn_66_12, if_pos (LD L).1]
  cases fn_65 4 w <;> rfl
theorem e86_k (L : Lay v c w) (C : CR b n w p f) : fn_86_95 4 w = if kd b n p = 0 then fn_86_111 4 w else (fn_66 4 0 w).bind (fn_86_111 4) := by
  obtain ⟨k, k1, g6, g7, g5, r6, r7, r8, r9, pn⟩ := C.g
  have g9 : cm_ga w .int 6 (nI k) = true := by
    rw [ga_of (n := 901) ((L.sh (a := 6) (by decide) (by decide)).trans rfl)]
    exact iin_nI k1 (by decide)
  have := kd_le b n p
  rw [fn_86_95, if_pos (LD L).1, bd (show cm_R w 4 1 = some 6 from L.R rfl), g6, if_pos g9, tn_nI (by omega), r6, e6665 L]
  by_cases z : kd b n p = 0
  · rw [if_pos z, z, if_pos (show nI 0 = (0 : Int32) from rfl)]
  · rw [if_neg z, if_neg (show ¬ nI (kd b n p) = (0 : Int32) from fun h => z ((nI_eq (a := kd b n p) (b := 0) (by omega) (by decide)).mp h))]
theorem e86_f (L : Lay v c w) (C : CR b n w p f) (hf : f ≠ -1) : fn_86_95 4 w = fn_86_111 4 w := by
  rw [e86_k L C]
  by_cases z : kd b n p = 0
  · rw [if_pos z]
  · rw [if_neg z, bd (accf L C hf 0)]
theorem e86_s (L : Lay v c w) (C : CR b n w p f) {N : Nat} (hm : m ≤ 50) : fn_86_36 (N + 1) 4 (nI m) w = if m = 50 then fn_86_95 4 w else if kd b n p = 0 then fn_86_95 4 w else if ¬ f = -1 then fn_86_95 4 w else (fn_83 4 w).bind fun w22 => (if cm_sh w22 4 = some (.inl 4) then (fn_79 w22 4 (59 : Int32)).bind fun v25 => (fn_66 4 (cm_b v25) w22).bind fun w27 => (if cm_sh w27 4 = some (.inl 4) then (cm_R w27 4 8).bind fun r30 => (if cm_sh w27 r30 = some (.inl 9) then (if cm_w2 4 30 r30 = true then fn_86_36 N 4 (nI m + (1 : Int32)) (cm_sI w27 r30 9 ((cm_I w27 r30 9) + (1 : Int32))) else none) else none) else none) else none) := by
  obtain ⟨k, k1, g6, g7, g5, r6, r7, r8, r9, pn⟩ := C.g
  have g9 : cm_ga w .int 6 (nI k) = true := by
    rw [ga_of (n := 901) ((L.sh (a := 6) (by decide) (by decide)).trans rfl)]
    exact iin_nI k1 (by decide)
  have := kd_le b n p
  rw [fn_86_36]
  by_cases z : m = 50
  · rw [if_pos z, if_pos (by rw [nI_le_l (n := 50) (by decide) (by omega)]; show 50 ≤ m; omega)]
  rw [if_neg z, if_neg (by rw [nI_le_l (n := 50) (by decide) (by omega)]; show ¬ 50 ≤ m; omega), if_pos (LD L).1, bd (show cm_R w 4 1 = some 6 from L.R rfl), g6, if_pos g9, tn_nI (by omega), r6, g7]
  by_cases z : kd b n p = 0
  · rw [if_pos z, z, if_pos (show nI 0 = (0 : Int32) from rfl)]
  · rw [if_neg z, if_neg (show ¬ nI (kd b n p) = (0 : Int32) from fun h => z ((nI_eq (a := kd b n p) (b := 0) (by omega) (by decide)).mp h))]
theorem e86_sf (L : Lay v c w) (C : CR b n w p f) (hf : f ≠ -1) {N : Nat} (hm : m ≤ 50) : fn_86_36 (N + 1) 4 (nI m) w = fn_86_111 4 w := by
  rw [e86_s L C hm, e86_f L C hf, if_pos hf, ite_self, ite_self]
theorem SF.pp (S : SF v c v' c' b n s w0 x0 w x) (hv : v = 10 ∨ v = 20) (i : Int32) : SF v c v' c' b n s w0 x0 (cm_sI w (30 - v) 9 i) x := by
  obtain ⟨f1, f2, f3, p', q', f4, f5⟩ := S
  refine ⟨f1, ?_, ?_, p', q', ?_, f5⟩
  · exact f2.tr fun a ha => ⟨fun j => I_ne (by omega), fun j => rfl⟩
  · unfold WD
    simp (disch := omega) only [I_ne]
    exact f3
  · exact f4.eq (fun j _ _ => I_ne (by omega)) (fun a h1 h2 j => I_ne (by omega)) (fun j => rfl)
theorem SR.pp (S : SR v c v' c' b n s w0 x0 w x p t P Q m) (hv : v = 10 ∨ v = 20) (hm : m < 50) {q1 : Nat} (R : RX v' c' b n s x0 x q1) (hq : sk b n q1 = p) : SR v c v' c' b n s w0 x0 (cm_sI w (30 - v) 9 (nI (m + 1))) (cm_sI x 96 16 (nI (m + 1))) p t P Q (m + 1) := by
  have hu : 30 - v = 10 ∨ 30 - v = 20 := by omega
  obtain ⟨⟨L, FW, C⟩, -, T, Pp, H, Qq, D⟩ := S
  refine ⟨⟨L, ?_, ?_⟩, ⟨q1, R.sI (by omega) rfl, hq⟩, ?_, ?_, ?_, ?_, ?_⟩
  · exact FW.tr fun a ha => ⟨fun j => I_ne (by omega), fun j => rfl⟩
  · exact C.eq (fun j _ _ => I_ne (by omega)) (fun a h1 h2 j => I_ne (by omega)) (fun j => rfl)
  · exact T.c2 (fun j => I_ne (by omega)) (fun j => I_ne (by omega)) (fun j => rfl) (I_nk (by omega)) (fun a j h1 h2 => I_ne (by omega)) (fun j => rfl)
  · exact Pp.c2 (fun j => I_ne (by omega)) (fun j => I_ne (by omega)) (fun j => rfl) (I_nk (by omega)) (fun a j h1 h2 => I_ne (by omega)) (fun j => rfl)
  · exact H.c2 (fun j => I_ne (by omega)) (fun a j h1 h2 => I_ne (by omega))
  · exact Qq.c2 (fun j => I_ne (by omega)) (fun j => I_ne (by omega)) (I_nk (by omega)) (fun a j h1 h2 => I_ne (by omega))
  · obtain ⟨d1, d2, d3, d4, d5, d6⟩ := D
    refine ⟨I_eq, I_eq, by omega, ?_, ?_, ?_⟩
    · rw [I_nk (by omega), I_nk (by omega)]; exact d4
    · rw [I_nk (by omega), I_nk (by omega)]; exact d5
    · rw [I_nk (by omega), I_nk (by omega)]; exact d6
theorem loop86 (hv : v = 10 ∨ v = 20) (hn : n ≤ 900) (hnb : ∀ j, j < n → vp_nar .byte (b j) = b j) : ∀ d m, m + d = 50 → ∀ (w x : cm_W) (p t P Q N M : Nat), d + 1 < N → d < M → SR v c v' c' b n s w0 x0 w x p t P Q m → RX v' c' b n s x0 x p → ∃ wA r x1, fn_86_36 N 4 (nI m) w = fn_86_111 4 wA ∧ fn_218_42 M 96 x = some (r, x1) ∧ ((r = true ∧ ∃ p' t' P' Q' m', SR v c v' c' b n s w0 x0 wA x1 p' t' P' Q' m') ∨ (r = false ∧ SF v c v' c' b n s w0 x0 wA x1)) := by
  have hu : 30 - v = 10 ∨ 30 - v = 20 := by omega
  intro d
  induction d with
  | zero =>
    intro m hm w x p t P Q N M hN hM S R
    obtain ⟨N, rfl⟩ : ∃ a, N = a + 1 := ⟨N - 1, by omega⟩
    obtain ⟨M, rfl⟩ : ∃ a, M = a + 1 := ⟨M - 1, by omega⟩
    obtain ⟨⟨L, FW, C⟩, ⟨q, -, -⟩, T, Pp, H, Qq, D⟩ := id S
    have pn := C.le
    have ec := e86_s L C (N := N) (m := m) (by omega)
    rw [if_pos (by omega), e86_k L C] at ec
    have er : fn_218_42 (M + 1) 96 x = if nI n ≤ nI p then some (true, x) else some (false, x) := by
      rw [fn_218_42, if_pos (LM R.L).1, R.2.1.1, R.2.2.1, D.2.1, show m = 50 by omega, if_pos (show nI 50 = (50 : Int32) from rfl)]
    by_cases z : kd b n p = 0
    · have hp : n ≤ p := kd_0.mp z
      rw [if_pos z] at ec
      rw [if_pos ((nI_leI (by omega) (by omega)).mpr hp)] at er
      exact ⟨w, true, x, ec, er, Or.inl ⟨rfl, p, t, P, Q, m, S⟩⟩
    · have hp : ¬ n ≤ p := fun h => z (kd_0.mpr h)
      obtain ⟨y, a0, F0, C0⟩ := acc0 L C
      rw [if_neg z, bd a0] at ec
      rw [if_neg (fun h => hp ((nI_leI (by omega) (by omega)).mp h))] at er
      exact ⟨y, false, x, ec, er, Or.inr ⟨rfl, SF.mk hv S F0.1 (FW.A hv F0) F0.U C0 R (sk_p C)⟩⟩
  | succ d ih =>
    intro m hm w x p t P Q N M hN hM S R
    obtain ⟨N, rfl⟩ : ∃ a, N = a + 2 := ⟨N - 2, by omega⟩
    obtain ⟨M, rfl⟩ : ∃ a, M = a + 1 := ⟨M - 1, by omega⟩
    obtain ⟨⟨L, FW, C⟩, ⟨q, -, -⟩, T, Pp, H, Qq, D⟩ := id S
    have pn := C.le
    have ec := e86_s L C (N := N + 1) (m := m) (by omega)
    rw [if_neg (show ¬ m = 50 by omega), if_neg (show ¬ ¬ (-1 : Int32) = -1 from fun h => h rfl)] at ec
    have er : fn_218_42 (M + 1) 96 x = if nI n ≤ nI p then some (true, x) else (fn_217 96 x).bind fun v8 => (if (cm_b v8.1) = 0 then some (false, v8.2) else (if cm_sh v8.2 96 = some (.inl 11) then (fn_205 96 (59 : Int32) v8.2).bind fun v12 => (if ¬ (cm_b v12.1) = 0 then fn_218_80 (fn_218_42 M) 96 v12.2 else some (false, v12.2)) else none)) := by
      rw [fn_218_42, if_pos (LM R.L).1, R.2.1.1, R.2.2.1, D.2.1, if_neg (show ¬ nI m = (50 : Int32) from fun h => by
        have := (nI_eq (a := m) (b := 50) (by omega) (by decide)).mp h
        omega)]
    by_cases z : kd b n p = 0
    · have hp : n ≤ p := kd_0.mp z
      rw [if_pos z, e86_k L C, if_pos z] at ec
      rw [if_pos ((nI_leI (by omega) (by omega)).mpr hp)] at er
      exact ⟨w, true, x, ec, er, Or.inl ⟨rfl, p, t, P, Q, m, S⟩⟩
    have hp : ¬ n ≤ p := fun h => z (kd_0.mpr h)
    rw [if_neg z] at ec
    rw [if_neg (fun h => hp ((nI_leI (by omega) (by omega)).mp h))] at er
    have w2 : cm_w2 4 30 (30 - v) = true := (w2v hu (30 - v) (by omega) (by omega)).2
    obtain ⟨w1, r, x1, g1, g2, g3⟩ := stmt_sim hv hn hnb S
    rw [bd g1] at ec
    rw [bd g2] at er
    have e1 : nI m + (1 : Int32) = nI (m + 1) := nI_1 m
    rw [e1] at ec
    -- behind a FAULT
    have tail : ∀ (y : cm_W) (p1 : Nat) (f : Int32), Lay v c y → CR b n y p1 f → f ≠ -1 → (if cm_sh y 4 = some (.inl 4) then (cm_R y 4 8).bind fun r30 => (if cm_sh y r30 = some (.inl 9) then (if cm_w2 4 30 r30 = true then fn_86_36 (N + 1) 4 (nI (m + 1)) (cm_sI y r30 9 ((cm_I y r30 9) + (1 : Int32))) else none) else none) else none) = fn_86_111 4 (cm_sI y (30 - v) 9 (cm_I y (30 - v) 9 + 1)) := by
      intro y p1 f Ly Cy hf
      have Cz : CR b n (cm_sI y (30 - v) 9 (cm_I y (30 - v) 9 + 1)) p1 f := Cy.eq (fun j _ _ => I_ne (by omega)) (fun a h1 h2 j => I_ne (by omega)) (fun j => rfl)
      rw [if_pos (LD Ly).1, bd Ly.2.2.2.2.2.2.2.1, if_pos (LV Ly hu).1, if_pos w2]
      have Lz : Lay v c (cm_sI y (30 - v) 9 (cm_I y (30 - v) 9 + 1)) := Ly
      exact e86_sf (m := m + 1) Lz Cz hf (by omega)
    rcases g3 with ⟨rfl, p1, t1, P1, Q1, S1⟩ | ⟨rfl, S1⟩
    rotate_left
    · obtain ⟨f1, f2, f3, p', q', f4, f5⟩ := id S1
      have hf : nI (sk b n q') ≠ -1 := nI_n1 (Nat.le_trans (sk_le f5.2.2.2) hn)
      rw [if_pos (LD f1).1, bd (show fn_79 w1 4 (59 : Int32) = some (sgok b n p' 59) from sign79 f1 f4 hnb (Or.inr rfl)), bd (accf f1 f4 hf _), tail w1 p' _ f1 f4 hf] at ec
      exact ⟨_, false, x1, ec, er, Or.inr ⟨rfl, S1.pp hv _⟩⟩
    obtain ⟨⟨L1, FW1, C1⟩, ⟨q1, R1, hq1⟩, T1, Pp1, H1, Qq1, D1⟩ := id S1
    obtain ⟨z1, k1, G1, h11⟩ := sign_ok R1.L R1.2.1 R1.2.2.2 R1.2.2.1 59
    rw [hq1] at k1 h11
    rw [if_neg (show ¬ cm_b true = 0 by decide), if_pos (LM R1.L).1, bd (show fn_205 96 (59 : Int32) x1 = some (sgok b n p1 59, z1) from k1)] at er
    rw [if_pos (LD L1).1, bd (show fn_79 w1 4 (59 : Int32) = some (sgok b n p1 59) from sign79 L1 C1 hnb (Or.inr rfl))] at ec
    cases sg : sgok b n p1 59
    · rw [sg] at ec er h11
      rw [if_neg (by decide)] at h11
      rw [if_neg (show ¬ ¬ cm_b false = 0 by decide)] at er
      obtain ⟨y, a0, F0, C0⟩ := acc0 L1 C1
      have p9 := C1.le
      have hf : nI p1 ≠ -1 := nI_n1 (by omega)
      rw [bd (show fn_66 4 (cm_b false) w1 = some y from a0), tail y p1 _ F0.1 C0 hf] at ec
      exact ⟨_, false, z1, ec, er, Or.inr ⟨rfl, (SF.mk hv S1 F0.1 (FW1.A hv F0) F0.U C0 (R1.X G1 h11 p9) (sk_p C1)).pp hv _⟩⟩
    · rw [sg] at ec er h11
      rw [if_pos rfl] at h11
      rw [if_pos (show ¬ cm_b true = 0 by decide)] at er
      obtain ⟨kd3, pl2⟩ := sg_kd (Or.inr rfl) sg
      obtain ⟨y, a1, F1, C2⟩ := acc1 L1 C1 pl2
      have R2 := R1.X G1 h11 (by omega)
      have hnx : nxt b n p1 = sk b n (p1 + 1) := by unfold nxt; rw [ln_3 kd3]
      have S2 := (S1.mv hv F1 C2 G1 R2 hnx.symm).pp hv (by omega) R2 hnx.symm
      obtain ⟨-, ⟨q3, -, -⟩, -⟩ := id S2
      have R3 : RX v' c' b n s x0 (cm_sI z1 96 16 (nI (m + 1))) (p1 + 1) := R2.sI (by omega) rfl
      obtain ⟨z2, b2, G2, e11, -, -⟩ := blanks_ok R3.L R3.2.1 R3.2.2.2 R3.2.2.1
      rw [← hnx] at e11
      have R4 := R3.X G2 e11 C2.le
      have S3 := S2.mv hv (FA.rf S2.1.1) S2.1.2.2 G2 R4 (sk_p C2)
      obtain ⟨wA, r, x2, c1, c2, c3⟩ := ih (m + 1) (by omega) _ z2 _ _ _ _ (N + 1) M (by omega) (by omega) S3 R4
      refine ⟨wA, r, x2, ?_, ?_, c3⟩
      · rw [ec, bd (show fn_66 4 (cm_b true) w1 = some y from a1), if_pos (LD F1.1).1, bd F1.1.2.2.2.2.2.2.2.1, if_pos (LV F1.1 hu).1, if_pos w2]
        have e9 : cm_I y (30 - v) 9 + 1 = nI (m + 1) := by
          rw [F1.2.1 _ (by omega), D1.1]; exact nI_1 m
        rw [e9]
        exact c1
      · have e16 : cm_I z1 96 16 + 1 = nI (m + 1) := by
          rw [G1.2.2.1 16 (by omega) (by omega) (by omega), D1.2.1]; exact nI_1 m
        rw [er, fn_218_80, if_pos (LM G1.1).1, if_pos (show cm_w2 96 143 96 = true from rfl), e16, bd b2]
        exact c2
end LOOP
