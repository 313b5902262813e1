/-! a statement: both alike, all kinds -/
section SAID2
variable {v c v' c' u n m q k p t P Q i j : Nat} {b : Nat → Int32} {w w' w0 x x' x0 y z y1 y2 y3 y4 y5 z1 : cm_W} {f : Int32} {s : St}
/-- the outcome of both -/
def OUT (v c v' c' : Nat) (b : Nat → Int32) (n : Nat) (s : St) (w0 x0 : cm_W) (m : Nat) (A : Option cm_W) (B : Option (Bool × cm_W)) : Prop := ∃ w1 r x1, A = some w1 ∧ B = some (r, x1) ∧ ((r = true ∧ ∃ p' t' P' Q', SR v c v' c' b n s w0 x0 w1 x1 p' t' P' Q' m) ∨ (r = false ∧ SF v c v' c' b n s w0 x0 w1 x1))
theorem n126 (hv : v = 10 ∨ v = 20) (hn : n ≤ 900) (S : SR v c v' c' b n s w0 x0 w x p t P Q m) {d e : Nat} {a1 a2 : Int32} {F : Nat → cm_W → Option cm_W} (hd : (d = 6 ∧ e = 17 ∧ a1 = 1 ∧ a2 = 0 ∧ F = fn_83_120) ∨ (d = 7 ∧ e = 18 ∧ a1 = 0 ∧ a2 = 1 ∧ F = fn_83_137) ∨ (d = 8 ∧ e = 19 ∧ a1 = 0 ∧ a2 = 0 ∧ F = fn_83_154)) : OUT v c v' c' b n s w0 x0 m (F 4 w) (fn_217_126 96 a1 a2 x) := by
  have hu : 30 - v = 10 ∨ 30 - v = 20 := by omega
  have L := S.1.1
  obtain ⟨q, R, hq⟩ := S.2.1
  have w2 : cm_w2 4 30 (30 - v) = true := (w2v hu (30 - v) (by omega) (by omega)).2
  obtain ⟨i, y1, r, z1, e1, L1, e2, M1, h⟩ := ten_sim hv hn S (d := d) (e := e) (by omega)
  refine ⟨cm_sI y1 (30 - v) d i, r, if r = true then cm_sI z1 96 e (cm_I z1 96 37) else z1, ?_, ?_, ?_⟩
  · rcases hd with ⟨rfl, rfl, rfl, rfl, rfl⟩ | ⟨rfl, rfl, rfl, rfl, rfl⟩ | ⟨rfl, rfl, rfl, rfl, rfl⟩
    · rw [fn_83_120, if_pos (LD L).1, bd L.2.2.2.2.2.2.2.1, bd e1, if_pos (LV L1 hu).1, if_pos w2]
    · rw [fn_83_137, if_pos (LD L).1, bd L.2.2.2.2.2.2.2.1, bd e1, if_pos (LV L1 hu).1, if_pos w2]
    · rw [fn_83_154, if_pos (LD L).1, bd L.2.2.2.2.2.2.2.1, bd e1, if_pos (LV L1 hu).1, if_pos w2]
  · rw [fn_217_126, if_pos (LM R.L).1, bd e2]
    cases r
    · rfl
    · have c2 : cm_w2 96 143 96 = true := rfl
      rcases hd with ⟨rfl, rfl, rfl, rfl, rfl⟩ | ⟨rfl, rfl, rfl, rfl, rfl⟩ | ⟨rfl, rfl, rfl, rfl, rfl⟩
      · show fn_217_138 96 1 0 z1 = _
        rw [fn_217_138, if_neg (by decide), if_pos (LM M1).1, if_pos c2, if_pos rfl]
      · show fn_217_138 96 0 1 z1 = _
        rw [fn_217_138, if_pos rfl, fn_217_153, if_neg (by decide), if_pos (LM M1).1, if_pos c2, if_pos rfl]
      · show fn_217_138 96 0 0 z1 = _
        rw [fn_217_138, if_pos rfl, fn_217_153, if_pos rfl, fn_217_168, if_pos (LM M1).1, if_pos c2, if_pos rfl]
  · rcases h with ⟨rfl, p', h⟩ | ⟨rfl, h⟩
    · exact Or.inl ⟨rfl, p', t, P, Q, h⟩
    · exact Or.inr ⟨rfl, h⟩
theorem stmt_sim (hv : v = 10 ∨ v = 20) (hn : n ≤ 900) (hnb : ∀ j, j < n → vp_nar .byte (b j) = b j) (S : SR v c v' c' b n s w0 x0 w x p t P Q m) : OUT v c v' c' b n s w0 x0 m (fn_83 4 w) (fn_217 96 x) := by
  have hu : 30 - v = 10 ∨ 30 - v = 20 := by omega
  obtain ⟨⟨L, FW, C⟩, ⟨q, R, hq⟩, T, Pp, H, Qq, D⟩ := id S
  have pn := C.le
  have hp := sk_p C
  have e := e83 hv L C Qq.1 Qq.2.1 Qq.2.2.1
  obtain ⟨ya, a0, F0, C0⟩ := acc0 L C
  -- nothing that begins a statement
  have bad : (wd b n p < 0 ∨ (6 : Int32) < wd b n p) → wd b n p ≠ 0 → wd b n p ≠ 1 → wd b n p ≠ 2 → wd b n p ≠ 3 → wd b n p ≠ 4 → wd b n p ≠ 5 → wd b n p ≠ 6 → OUT v c v' c' b n s w0 x0 m (fn_83 4 w) (fn_217 96 x) := by
    intro h h0 h1 h2 h3 h4 h5 h6
    have e' : fn_83 4 w = some ya := by
      have : (fn_66 4 0 w).bind (s83 (wd b n p)) = some ya := by
        rw [bd a0, s83, if_neg h0, if_neg h1, if_neg h2, if_neg h3, if_neg h4, if_neg h5, if_neg h6]
      rw [e]
      by_cases z : wd b n p < 0
      · rw [if_pos z]; exact this
      · rw [if_neg z, if_pos (h.resolve_left z)]; exact this
    obtain ⟨z1, b1, G1, R1⟩ := n217a R (by rw [hq]; exact h0)
    rw [hq] at R1
    obtain ⟨z2, b2, G2, R2⟩ := n217b R1 (by rw [hp]; exact h1)
    rw [hp] at R2
    obtain ⟨z3, b3, G3, R3⟩ := n217c R2 (by rw [hp]; exact h2)
    rw [hp] at R3
    obtain ⟨z4, b4, G4, R4⟩ := n217d R3 (by rw [hp]; exact h3)
    rw [hp] at R4
    obtain ⟨z5, b5, G5, R5⟩ := n217j R4 (by rw [hp]; exact h4) (by rw [hp]; exact h5) (by rw [hp]; exact h6)
    rw [hp] at R5
    exact ⟨ya, false, z5, e', by rw [b1, b2, b3, b4, b5], Or.inr ⟨rfl, SF.mk hv S F0.1 (FW.A hv F0) F0.U C0 R5 hp⟩⟩
  rcases wd_cs (b := b) (n := n) (p := p) with ⟨j, hj, ew, k1, -⟩ | ew
  rotate_left
  · exact bad (Or.inl (by rw [ew]; decide)) (by rw [ew]; decide) (by rw [ew]; decide) (by rw [ew]; decide) (by rw [ew]; decide) (by rw [ew]; decide) (by rw [ew]; decide) (by rw [ew]; decide)
  by_cases j7 : 7 ≤ j
  · have : ∀ j : Fin 14, 7 ≤ j.1 → (6 : Int32) < nI j.1 ∧ nI j.1 ≠ 0 ∧ nI j.1 ≠ 1 ∧ nI j.1 ≠ 2 ∧ nI j.1 ≠ 3 ∧ nI j.1 ≠ 4 ∧ nI j.1 ≠ 5 ∧ nI j.1 ≠ 6 := by decide +kernel
    obtain ⟨g, g0, g1, g2, g3, g4, g5, g6⟩ := this ⟨j, hj⟩ j7
    rw [← ew] at g g0 g1 g2 g3 g4 g5 g6
    exact bad (Or.inr g) g0 g1 g2 g3 g4 g5 g6
  obtain ⟨y1, c1, F1, C1⟩ := acc1 L C (kd_lt (b := b) (n := n) (p := p) (by omega))
  have ne : ∀ i, i < 7 → i ≠ j → wd b n p ≠ nI i := fun i hi h a => by
    rw [ew] at a
    exact h ((nI_eq (a := j) (b := i) (by omega) (by omega)).mp a).symm
  have go : j ≠ 3 → fn_83 4 w = s83 (wd b n p) y1 := by
    intro h3
    have : ∀ j : Fin 7, ¬ nI j.1 < 0 ∧ ¬ (6 : Int32) < nI j.1 := by decide +kernel
    obtain ⟨g1, g2⟩ := this ⟨j, by omega⟩
    rw [← ew] at g1 g2
    rw [e, if_neg g1, if_neg g2, if_pos (show ¬ wd b n p = 3 from ne 3 (by omega) (fun a => h3 a.symm)), bd c1]
  obtain ⟨S1⟩ : Nonempty (∀ z, FX v' c' x z → RX v' c' b n s x0 z (p + ln b n p) → SR v c v' c' b n s w0 x0 y1 z (nxt b n p) t P Q m) := ⟨fun z G R1 => S.mv hv F1 C1 G R1 rfl⟩
  by_cases j0 : j = 0
  · subst j0
    obtain ⟨z1, a1, G1, R1⟩ := tk_y R (j := 0) (by omega) (by rw [hq]; exact ew) (by rw [hq]; exact k1)
    rw [hq] at R1
    obtain ⟨w1, r, x1, g1, g2, g3⟩ := thing_sim hv hn (S1 z1 G1 R1)
    refine ⟨w1, r, x1, ?_, ?_, ?_⟩
    · rw [go (by omega), ew, s83, if_pos (show nI 0 = (0 : Int32) from rfl), if_pos (LD F1.1).1, g1]; rfl
    · rw [fn_217, if_pos (LM R.L).1, bd (show fn_204 96 (499967946343 : Int64) x = some (true, z1) from a1)]
      show (if cm_sh z1 96 = some (.inl 11) then (fn_213 96 z1).bind fun v56 => some (v56.1, v56.2) else none) = _
      rw [if_pos (LM G1.1).1, bd g2]
    · rcases g3 with ⟨h, p', h2⟩ | h
      · exact Or.inl ⟨h, p', _, _, _, h2⟩
      · exact Or.inr h
  obtain ⟨z1, b1, G1, R1⟩ := n217a R (by rw [hq]; exact ne 0 (by omega) (fun a => j0 a.symm))
  rw [hq] at R1
  by_cases j1 : j = 1
  · subst j1
    obtain ⟨z2, a1, G2, R2⟩ := tk_y R1 (j := 1) (by omega) (by rw [hp]; exact ew) (by rw [hp]; exact k1)
    rw [hp] at R2
    obtain ⟨w1, r, x1, g1, g2, g3⟩ := who_sim hv hn (S1 z2 (G1.tr G2) R2)
    refine ⟨w1, r, x1, ?_, ?_, ?_⟩
    · rw [go (by omega), ew, s83, if_neg (by decide), if_pos (show nI 1 = (1 : Int32) from rfl), fn_83_99, if_pos (LD F1.1).1, g1]; rfl
    · rw [b1, fn_217_15, if_pos (LM R1.L).1, bd (show fn_204 96 (7825519 : Int64) z1 = some (true, z2) from a1)]
      show (if cm_sh z2 96 = some (.inl 11) then (fn_214 96 z2).bind fun v49 => some (v49.1, v49.2) else none) = _
      rw [if_pos (LM G2.1).1, bd g2]
    · rcases g3 with ⟨h, p', h2⟩ | h
      · exact Or.inl ⟨h, p', _, _, _, h2⟩
      · exact Or.inr h
  obtain ⟨z2, b2, G2, R2⟩ := n217b R1 (by rw [hp]; exact ne 1 (by omega) (fun a => j1 a.symm))
  rw [hp] at R2
  by_cases j2 : j = 2
  · subst j2
    obtain ⟨z3, a1, G3, R3⟩ := tk_y R2 (j := 2) (by omega) (by rw [hp]; exact ew) (by rw [hp]; exact k1)
    rw [hp] at R3
    obtain ⟨w1, r, x1, g1, g2, g3⟩ := fills_sim hv hn hnb (S1 z3 ((G1.tr G2).tr G3) R3)
    refine ⟨w1, r, x1, ?_, ?_, ?_⟩
    · rw [go (by omega), ew, s83, if_neg (by decide), if_neg (by decide), if_pos (show nI 2 = (2 : Int32) from rfl), fn_83_106, if_pos (LD F1.1).1, g1]; rfl
    · rw [b1, b2, fn_217_30, if_pos (LM R2.L).1, bd (show fn_204 96 (439855377523 : Int64) z2 = some (true, z3) from a1)]
      show (if cm_sh z3 96 = some (.inl 11) then (fn_215 96 z3).bind fun v42 => some (v42.1, v42.2) else none) = _
      rw [if_pos (LM G3.1).1, bd g2]
    · rcases g3 with ⟨h, p', h2⟩ | h
      · exact Or.inl ⟨h, p', _, _, _, h2⟩
      · exact Or.inr h
  obtain ⟨z3, b3, G3, R3⟩ := n217c R2 (by rw [hp]; exact ne 2 (by omega) (fun a => j2 a.symm))
  rw [hp] at R3
  have G13 := (G1.tr G2).tr G3
  by_cases j3 : j = 3
  · subst j3
    have h15 : cm_I z3 96 15 = nI Q := (G13.2.2.1 15 (by omega) (by omega) (by omega)).trans Qq.2.2.2.1
    obtain ⟨o1, o2⟩ := n217e (Q := Q) R3 (by rw [hp]; exact ew) h15 Qq.1 (by rw [hp]; exact k1)
    rw [hp] at o1 o2
    rw [if_neg (by rw [ew]; decide), if_neg (by rw [ew]; decide), if_neg (by rw [ew]; decide)] at e
    by_cases q6 : Q = 6
    · obtain ⟨z4, b4, G4, R4⟩ := o1 q6
      refine ⟨ya, false, z4, ?_, by rw [b1, b2, b3, b4], Or.inr ⟨rfl, SF.mk hv S F0.1 (FW.A hv F0) F0.U C0 R4 hp⟩⟩
      rw [e, if_pos q6, bd a0, ew, s83, if_neg (by decide), if_neg (by decide), if_neg (by decide), if_pos (show nI 3 = (3 : Int32) from rfl), fn_83_113, if_pos (LD F0.1).1, pair_f hv hn F0.1 C0 (nI_n1 (by omega)) (t := t) (by rw [F0.2.1 _ (by omega)]; exact T.2.1) T.1]
      rfl
    · obtain ⟨z4, b4, G4, R4⟩ := o2 q6
      obtain ⟨w1, r, x1, g1, g2, g3⟩ := pair_sim hv hn (S1 z4 (G13.tr G4) R4) (by have := Qq.1; omega)
      refine ⟨w1, r, x1, ?_, ?_, ?_⟩
      · rw [e, if_neg q6, bd c1, ew, s83, if_neg (by decide), if_neg (by decide), if_neg (by decide), if_pos (show nI 3 = (3 : Int32) from rfl), fn_83_113, if_pos (LD F1.1).1, g1]; rfl
      · rw [b1, b2, b3, b4, bd g2]
      · rcases g3 with ⟨h, p', h2⟩ | h
        · exact Or.inl ⟨h, p', _, _, _, h2⟩
        · exact Or.inr h
  obtain ⟨z4, b4, G4, R4⟩ := n217d R3 (by rw [hp]; exact ne 3 (by omega) (fun a => j3 a.symm))
  rw [hp] at R4
  have G14 := G13.tr G4
  by_cases j4 : j = 4
  · subst j4
    obtain ⟨z5, b5, G5, R5⟩ := n217f R4 (by rw [hp]; exact ew) (by rw [hp]; exact k1)
    rw [hp] at R5
    have := n126 hv hn (S1 z5 (G14.tr G5) R5) (d := 6) (e := 17) (Or.inl ⟨rfl, rfl, rfl, rfl, rfl⟩)
    rw [go (by omega), ew, b1, b2, b3, b4, b5]
    exact this
  by_cases j5 : j = 5
  · subst j5
    obtain ⟨z5, b5, G5, R5⟩ := n217g R4 (by rw [hp]; exact ew) (by rw [hp]; exact k1)
    rw [hp] at R5
    have := n126 hv hn (S1 z5 (G14.tr G5) R5) (d := 7) (e := 18) (Or.inr (Or.inl ⟨rfl, rfl, rfl, rfl, rfl⟩))
    rw [go (by omega), ew, b1, b2, b3, b4, b5]
    exact this
  obtain rfl : j = 6 := by omega
  obtain ⟨z5, b5, G5, R5⟩ := n217i R4 (by rw [hp]; exact ew) (by rw [hp]; exact k1)
  rw [hp] at R5
  have := n126 hv hn (S1 z5 (G14.tr G5) R5) (d := 8) (e := 19) (Or.inr (Or.inr ⟨rfl, rfl, rfl, rfl, rfl⟩))
  rw [go (by omega), ew, b1, b2, b3, b4, b5]
  exact this
end SAID2
