/-! a village: both take it over alike, or neither does -/
section VIL
variable {v c v' c' u n m q k p t P Q A j : Nat} {b : Nat → Int32} {w w1 W w' w0 x x1 x' x0 y z : cm_W} {f : Int32} {s s1 s' : St}
theorem G_new (g : GG v c w s) (FW : FW0 v w w1) (LW : Lay (30 - v) c W) (WI : ∀ a j, (a < 30 ∨ 41 ≤ a ∨ j = 0 ∧ a < 40) → (a ≠ 2 ∨ j ≠ 1 ∧ j ≠ 4 ∧ j ≠ 7) → cm_I W a j = cm_I w1 a j) (WL : cm_L W = cm_L w1) (W2 : cm_I W 2 1 = 0 ∧ cm_I W 2 4 = -1 ∧ cm_I W 2 7 = 0) (W3 : cm_I W 31 2 = 0 ∧ cm_I W 33 2 = 0 ∧ cm_I W 35 2 = 0 ∧ cm_I W 37 2 = 0 ∧ cm_I W 30 6 = 0) (W4 : ∀ j, j < P → cm_I W 40 j = cm_I w1 (30 - v + 6) (3 * j + 1))
    (T : DT (30 - v) w1 x1 t) (Pp : DP (30 - v) w1 x1 P) (Qq : DQ (30 - v) w1 x1 t Q) (D : DS (30 - v) w1 x1 m) (Z : DZ (30 - v) w1 x1 t P) (F : FM (30 - v) c x0 x1 s1) (h1 : ∀ a, a < 96 → ∀ j, cm_I x0 a j = cm_I W a j) (h2 : cm_L x0 = cm_L W) (s9 : s1 96 9 = 0) (s97 : ∀ k, s1 97 k = s 97 k) :
    ∃ y, fn_220_73 96 1 x1 = some (cm_I w1 (30 - v) 9, y) ∧ GG (30 - v) c y (cm_I y) := by
  obtain ⟨L, M, C, Zz, I⟩ := id g
  have hv := L.1
  have hu : 30 - v = 10 ∨ 30 - v = 20 := by omega
  obtain ⟨Lx, Mx, F3, F4, F5⟩ := F
  obtain ⟨t1, t2, t3, t4, t5⟩ := T
  obtain ⟨p1, p2, p3, p4, p5⟩ := Pp
  obtain ⟨q1, q2, q3, q4, q5⟩ := Qq
  obtain ⟨d1, d2, d3, ⟨d4, r4⟩, ⟨d5, r5⟩, d6, r6⟩ := D
  have Lz : Lay (30 - v) c (cm_sI x1 96 12 (-1)) := Lx
  obtain ⟨y, a1, Ly, fr, zL, ⟨e1, e2, e3, e4, e5, e6, e7⟩, ⟨e8, e38, e39, e51, e58, e73⟩, yT, yP, yQ⟩ := over219 Lz (t := t) (P := P) (Q := Q) (by rw [I_nk (by omega)]; exact t4) t1 (by rw [I_nk (by omega)]; exact p4) p1 (by rw [I_nk (by omega)]; exact q4) q1
  have zi : ∀ a j, (a ≠ 96 ∨ j ≠ 12) → cm_I (cm_sI x1 96 12 (-1)) a j = cm_I x1 a j := fun a j h => by rw [I_if, if_neg (by omega)]
  simp only [zi 96 16 (by omega), zi 96 17 (by omega), zi 96 18 (by omega), zi 96 19 (by omega)] at e4 e5 e6 e7
  have e12 : cm_I y 96 12 = -1 := by rw [fr _ _ (by omega), I_eq]
  have e9 : cm_I y 96 9 = 0 := by rw [fr _ _ (by omega), zi _ _ (by omega), Mx 96 9 rfl, s9]
  have yW : ∀ a, a < 96 → ∀ j, cm_I y a j = cm_I W a j := fun a ha j => by rw [fr _ _ (by omega), zi _ _ (by omega), (F3 a ha).1, h1 a ha]
  have yw : ∀ a j, (a < 30 ∨ 41 ≤ a ∧ a < 96 ∨ j = 0 ∧ a < 40) → (a ≠ 2 ∨ j ≠ 1 ∧ j ≠ 4 ∧ j ≠ 7) → cm_I y a j = cm_I w1 a j := fun a j h h' => by rw [yW a (by omega), WI a j (by omega) h']
  have yo : ∀ a j, (a < 4 ∨ v ≤ a ∧ a < v + 10 ∨ 41 ≤ a ∧ a < 96 ∨ j = 0 ∧ 30 ≤ a ∧ a < 40) → (a ≠ 2 ∨ j ≠ 1 ∧ j ≠ 4 ∧ j ≠ 7) → cm_I y a j = cm_I w a j := fun a j h h' => by
    rw [yw a j (by omega) h', (FW a (by omega)).1]
  have nT' : nT (cm_I y) = t := by unfold nT; rw [e1]; exact tn_nI (by omega)
  have nP' : nP (cm_I y) = P := by unfold nP; rw [e2]; exact tn_nI (by omega)
  have nQ' : nQ (cm_I y) = Q := by unfold nQ; rw [e3]; exact tn_nI (by omega)
  have nM' : nM (cm_I y) = 0 := by unfold nM; rw [e8]; rfl
  have nB' : nB (cm_I y) = 0 := by unfold nB; rw [e38]; rfl
  have nR' : nR (cm_I y) = 0 := by unfold nR; rw [e39]; rfl
  have nL' : nL (cm_I y) = 0 := by unfold nL; rw [e51]; rfl
  have nK' : nK (cm_I y) = 0 := by unfold nK; rw [e58]; rfl
  have nA' : nA (cm_I y) = 0 := by unfold nA; rw [e9]; rfl
  have nG' : nG (cm_I y) = 0 := by unfold nG; rw [e73]; rfl
  -- the shares
  have sh : ∀ p, p < P → ∀ j, j < t → cm_I y 107 (8 * p + j) = cm_I w1 (30 - v + 7) (8 * p + j) := fun p hp j hj => by
    rw [(yP p hp).2 j (by omega), zi 106 _ (by omega), zi 107 _ (by omega)]
    rcases (Z p hp).1 with ⟨b1, b2, -⟩ | ⟨b1, b2⟩
    · rw [if_pos b1]; exact (b2 j hj).1
    · rw [if_neg (by rw [b1]; decide), if_pos hj]; exact (b2 j hj).symm
  have e100 : fn_220_73 96 1 x1 = some (cm_I w1 (30 - v) 9, y) := by
    have e100 : fn_220_73 96 1 x1 = fn_220_100 96 (cm_sI x1 96 12 (-1)) := by
      rw [fn_220_73, if_neg (by decide), if_pos (LM Lx).1, if_pos (show cm_w2 96 143 96 = true from rfl), if_pos (by decide)]
    rw [e100, fn_220_100, if_pos (LM Lz).1, bd a1, if_pos (LM Ly).1, e4, d1, d2]
  refine ⟨y, e100, Ly, fun _ _ _ => rfl, ⟨⟨?_, ?_, ?_, fun k hk => ?_, fun k hk => ?_⟩, ⟨⟨?_, ?_, ?_, ?_, ?_, ?_, ?_⟩, ⟨?_, ?_, ?_⟩, fun k hk c hc => ?_, fun p hp => ⟨?_, ?_, ?_⟩, fun p hp j hj => ?_, fun k hk c hc => ?_⟩, ⟨⟨?_, ?_, ?_, ?_, ?_⟩, ⟨?_, ?_, ?_, ?_⟩, fun k hk => ?_, fun k hk => ?_, fun k hk => ?_, fun k hk => ?_, fun k hk => ?_, fun p hp => ?_⟩, fun i hi => ?_, fun i hi => ?_, ?_⟩, ⟨?_, fun i hi => ?_⟩, ⟨⟨?_, ?_⟩, ⟨?_, ?_⟩, ⟨?_, ?_⟩, ⟨?_, ?_, ?_⟩, fun k hk => ?_, fun p hp => ⟨?_, fun j hj => ?_, fun h0 => ?_⟩, fun k hk => ?_⟩, ⟨⟨?_, ?_⟩, ⟨?_, ?_⟩, ⟨?_, ?_⟩, ⟨?_, ?_⟩, ⟨?_, ?_⟩, fun k hk => ?_, ?_, fun k hk => ?_, fun k hk => ?_, fun k hk => ?_, fun k hk => ?_⟩, ⟨?_, ?_⟩, ⟨?_, ?_⟩, fun i hi => ?_⟩
  -- RelC
  · rw [yW _ (by omega), e9]; exact W2.1
  · rw [yW _ (by omega), e12]; exact W2.2.1
  · rw [yW _ (by omega), e73]; exact W2.2.2
  · rw [yo _ _ (by omega) (by omega), C.1.2.2.2.1 k hk, fr 97 k (by omega), zi _ _ (by omega), Mx 97 k (decide_eq_true hk), s97]
  · rw [nA'] at hk; omega
  -- VilC
  · rw [yw _ _ (by omega) (by omega), t2, e1]
  · rw [yw _ _ (by omega) (by omega), p2, e2]
  · rw [yw _ _ (by omega) (by omega), q2, e3]
  · rw [yw _ _ (by omega) (by omega), d1, e4, d2]
  · rw [yw _ _ (by omega) (by omega), d4, e5]
  · rw [yw _ _ (by omega) (by omega), d5, e6]
  · rw [yw _ _ (by omega) (by omega), d6, e7]
  · rw [yw _ _ (by omega) (by omega)]; exact t3
  · rw [yw _ _ (by omega) (by omega)]; exact p3
  · rw [yw _ _ (by omega) (by omega)]; exact q3
  · rw [nT'] at hk
    rw [yw _ _ (by omega) (by omega), yT k hk c hc, zi _ _ (by omega)]
    exact (t5 k hk).1 c hc
  · rw [nP'] at hp
    rw [yw _ _ (by omega) (by omega), (yP p hp).1.1, zi _ _ (by omega)]
    exact (p5 p hp).1
  · rw [nP'] at hp
    rw [yw _ _ (by omega) (by omega), (yP p hp).1.2.2, zi _ _ (by omega)]
    exact (p5 p hp).2.1
  · rw [nP'] at hp
    rw [yw _ _ (by omega) (by omega), (Z p hp).2]
    unfold shs
    rw [nT']
    exact fup_cg fun j a hj => by rw [sh p hp j hj]
  · rw [nP'] at hp
    rw [nT'] at hj
    rw [yw _ _ (by omega) (by omega), sh p hp j hj]
  · rw [nQ'] at hk
    rw [yw _ _ (by omega) (by omega), yQ k hk c hc, zi _ _ (by omega)]
    exact (q5 k hk).1 c hc
  -- StC
  · rw [yW _ (by omega), e38]; exact W3.1
  · rw [yW _ (by omega), e39]; exact W3.2.1
  · rw [yW _ (by omega), e51]; exact W3.2.2.1
  · rw [yW _ (by omega), e58]; exact W3.2.2.2.1
  · rw [yW _ (by omega), e8]; exact W3.2.2.2.2
  · rw [yo _ _ (by omega) (by omega)]; exact C.2.2.1.2.1.1
  · rw [yo _ _ (by omega) (by omega)]; exact C.2.2.1.2.1.2.1
  · rw [yo _ _ (by omega) (by omega)]; exact C.2.2.1.2.1.2.2.1
  · rw [yo _ _ (by omega) (by omega)]; exact C.2.2.1.2.1.2.2.2
  · rw [nB'] at hk; omega
  · rw [nR'] at hk; omega
  · rw [nL'] at hk; omega
  · rw [nK'] at hk; omega
  · rw [nB'] at hk; omega
  · rw [nP'] at hp
    rw [yW _ (by omega), W4 p hp, (yP p hp).1.2.1, zi _ _ (by omega)]
    exact (p5 p hp).2.1
  · rw [yo _ _ (by omega) (by omega), yo _ _ (by omega) (by omega), yo _ _ (by omega) (by omega), yo _ _ (by omega) (by omega)]
    exact C.2.2.2.1 i hi
  · rw [nG'] at hi; omega
  · rw [show 30 - (30 - v) = v by omega, yo _ _ (by omega) (by omega), yo _ _ (by omega) (by omega), yo _ _ (by omega) (by omega)]
    exact C.2.1.2.1
  -- RelZ
  · have a30 : cm_L y 30 7 = cm_L w 30 7 := by
      rw [zL]
      show cm_L x1 30 7 = _
      rw [(F3 30 (by omega)).2, h2, WL, (FW 30 (by omega)).2]
    have a96 : cm_L y 96 71 = cm_L w 96 71 := by
      rw [zL]
      show cm_L x1 96 71 = _
      rw [F5, h2, WL, (FW 96 (by omega)).2]
    rw [a30, a96]; exact Zz.1
  · rw [nG'] at hi; omega
  -- InvV
  · rw [nT']; exact e1
  · rw [nT']; exact t1
  · rw [nP']; exact e2
  · rw [nP']; exact p1
  · rw [nQ']; exact e3
  · rw [nQ']; exact q1
  · rw [e5]; exact r4
  · rw [e6]; exact r5
  · rw [e7]; exact r6
  · rw [nT'] at hk
    obtain ⟨k1, k2, k3, k4⟩ := (t5 k hk).2.2.2
    have c0 := yT k hk 0 (by omega)
    have c1 := yT k hk 1 (by omega)
    have c2 := yT k hk 2 (by omega)
    have c3 := yT k hk 3 (by omega)
    rw [zi _ _ (by omega)] at c0 c1 c2 c3
    exact ⟨by rw [show cm_I y 100 k = cm_I x1 100 (8 + k) from c0]; exact k1, by rw [show cm_I y 101 k = cm_I x1 101 (8 + k) from c1]; exact k2, by rw [show cm_I y 102 k = cm_I x1 102 (8 + k) from c2]; exact k3, by rw [show cm_I y 103 k = cm_I x1 103 (8 + k) from c3]; exact k4⟩
  · rw [nP'] at hp
    rw [(yP p hp).1.1, zi _ _ (by omega)]; exact (p5 p hp).2.2.2.2
  · rw [nP'] at hp
    rw [nT'] at hj
    rw [sh p hp j hj]
    rcases (Z p hp).1 with ⟨b1, b2, -⟩ | ⟨b1, b2⟩
    · exact (b2 j hj).2
    · rw [b2 j hj]; exact ⟨1, by omega, rfl⟩
  · rw [nP'] at hp
    rw [nT'] at h0 ⊢
    rcases (Z p hp).1 with ⟨b1, b2, j, j1, j2⟩ | ⟨b1, b2⟩
    · exact ⟨j, j1, by rw [sh p hp j j1]; exact j2⟩
    · exact ⟨0, h0, by rw [sh p hp 0 h0, b2 0 h0]; decide⟩
  · rw [nQ'] at hk
    rw [nT']
    obtain ⟨-, k1, k2, k3, k4⟩ := q5 k hk
    have c0 := yQ k hk 0 (by omega)
    have c1 := yQ k hk 1 (by omega)
    have c2 := yQ k hk 2 (by omega)
    rw [zi _ _ (by omega)] at c0 c1 c2
    rw [show cm_I y 108 k = cm_I x1 108 (6 + k) from c0, show cm_I y 109 k = cm_I x1 109 (6 + k) from c1, show cm_I y 110 k = cm_I x1 110 (6 + k) from c2]
    exact ⟨k1, k2, k3, k4⟩
  -- InvS
  · rw [nM', e8]; rfl
  · rw [nM']; omega
  · rw [nB', e38]; rfl
  · rw [nB']; omega
  · rw [nR', e39]; rfl
  · rw [nR']; omega
  · rw [nL', e51]; rfl
  · rw [nL']; omega
  · rw [nK', e58]; rfl
  · rw [nK']; omega
  · rw [nB'] at hk; omega
  · exact ⟨fun _ => 0, fun b hb => by rw [nB'] at hb; omega⟩
  · rw [nB'] at hk; omega
  · rw [nR'] at hk; omega
  · rw [nL'] at hk; omega
  · rw [nK'] at hk; omega
  · rw [nA', e9]; rfl
  · rw [nA']; omega
  · rw [nG', e73]; rfl
  · rw [nG']; omega
  · rw [nG'] at hi; omega
end VIL
