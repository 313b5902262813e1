/-! what somebody fills: the simulation -/
def s80 (i1 : Int32) (w : cm_W) : Option cm_W := (if cm_sh w 4 = some (.inl 4) then (cm_R w 4 8).bind fun r90 => (if cm_sh w r90 = some (.inl 9) then (fn_78 r90 i1 w).bind fun w93 => fn_80_48 cm_N 4 i1 (1 : Int32) (0 : Int32) w93 else none) else none)
section FILLS3
variable {v c v' c' u n m q k p t P Q i : Nat} {b : Nat → Int32} {w w' w0 x x' x0 y z y1 y2 y3 y4 y5 z1 : cm_W} {f : Int32} {s : St}
theorem nums2 (hn : n ≤ 900) (Ly : Lay v c y) (C : CR b n y p (-1)) (R : RX v' c' b n s x0 z q) (hq : sk b n q = p) {lo hi : Nat} (hlo : lo < 10000) (hhi : hi < 10000) : (∃ a y1 z1, lo ≤ a ∧ a ≤ hi ∧ fn_70 4 (nI lo) (nI hi) y = some (nI a, y1) ∧ FA v c y y1 ∧ CR b n y1 (sk b n (p + nl b n p)) (-1) ∧ fn_206 96 (nI lo) (nI hi) z = some (true, z1) ∧ FX v' c' z z1 ∧ RX v' c' b n s x0 z1 (p + nl b n p) ∧ cm_I z1 96 37 = nI a) ∨ (∃ y1 z1, fn_70 4 (nI lo) (nI hi) y = some (-1, y1) ∧ FA v c y y1 ∧ CR b n y1 p (nI p) ∧ fn_206 96 (nI lo) (nI hi) z = some (false, z1) ∧ FX v' c' z z1 ∧ RX v' c' b n s x0 z1 p) := by
  obtain ⟨c1, c2⟩ := num70 Ly C hn hlo hhi
  obtain ⟨d1, d2⟩ := numR R hlo hhi
  rw [hq] at d1 d2
  cases h : numok b n p lo hi
  · obtain ⟨y1, a1, a2, a3⟩ := c2 h
    obtain ⟨z1, b1, b2, b3⟩ := d2 h
    exact Or.inr ⟨y1, z1, a1, a2, a3, b1, b2, b3⟩
  · obtain ⟨y1, a1, a2, a3⟩ := c1 h
    obtain ⟨z1, b1, b2, b3, b4, b5⟩ := d1 h
    obtain ⟨h1, h2, h3, h4⟩ := of_decide_eq_true h
    exact Or.inl ⟨_, y1, z1, h3, h4, a1, a2, a3, b1, b2, b3, b4⟩
theorem fl_loop (hv : v = 10 ∨ v = 20) (hn : n ≤ 900) (hnb : ∀ j, j < n → vp_nar .byte (b j) = b j) (hi : i < P) : ∀ d k, k + d = 9 → ∀ (y z : cm_W) (p N M : Nat), d + 1 < N → d < M → FI v c v' c' b n s w0 x0 y z p t P Q m i k → ∃ w1 r x1, fn_80_48 N 4 (nI i) 1 (nI k) y = some w1 ∧ fn_215_82 M 96 (nI (8 * (12 + i))) z = some (r, x1) ∧ ((r = true ∧ ∃ p', SR v c v' c' b n s w0 x0 w1 x1 p' t P Q m) ∨ (r = false ∧ SF v c v' c' b n s w0 x0 w1 x1)) := by
  have hu : 30 - v = 10 ∨ 30 - v = 20 := by omega
  intro d
  induction d with
  | zero =>
    intro k hk y z p N M hN hM F
    have h6 := F.2.2.2.2.2.2.2.2
    have h7 : k ≤ 8 := Nat.le_trans (Nat.le_of_eq h6.symm) (cnz_le (fun j => cm_I y (30 - v + 7) (8 * i + j)) 8)
    omega
  | succ d ih =>
    intro k hk y z p N M hN hM F
    obtain ⟨N, rfl⟩ : ∃ a, N = a + 2 := ⟨N - 2, by omega⟩
    obtain ⟨M, rfl⟩ : ∃ a, M = a + 1 := ⟨M - 1, by omega⟩
    obtain ⟨⟨L, FW, C⟩, ⟨q, R, hq⟩, ⟨T, Pp, Qq, D⟩, hs1, hs2, hs3, hs4, hs5, hs6⟩ := id F
    have hP := Pp.1
    have ht := T.1
    rcases nums2 hn L C R hq (lo := 1) (hi := 99) (by omega) (by omega) with ⟨a, y1, z1, l1, l2, e1, F1, C1, k1, G1, R1, h37⟩ | ⟨y1, z1, e1, F1, C1, k1, G1, R1⟩
    rotate_left
    · have f1 : nI p ≠ -1 := nI_n1 (by have := C.le; omega)
      obtain ⟨w1, b1, Gw⟩ := m_f hv hn hnb F1.1 C1 f1 (P := P) (t := t) (by rw [F1.2.1 _ (by omega)]; exact Pp.2.1) hP (by rw [F1.2.1 _ (by omega)]; exact T.2.1) ht (N := N) (nI i) (nI k) (-1)
      refine ⟨w1, false, z1, ?_, ?_, Or.inr ⟨rfl, F.sf hv F1 Gw C1 R1 (sk_p C)⟩⟩
      · rw [e48 hv L (by omega), bd (show fn_70 4 (1 : Int32) (99 : Int32) y = some (-1, y1) from e1)]
        exact b1
      · rw [fn_215_82, if_pos (LM R.L).1, bd (show fn_206 96 (1 : Int32) (99 : Int32) z = some (false, z1) from k1)]
        rfl
    have ec1 : fn_80_48 (N + 2) 4 (nI i) 1 (nI k) y = s80m (fn_80_48 (N + 1)) (nI i) (nI k) (nI a) y1 := by
      rw [e48 hv L (by omega), bd (show fn_70 4 (1 : Int32) (99 : Int32) y = some (nI a, y1) from e1)]
    have er1 : fn_215_82 (M + 1) 96 (nI (8 * (12 + i))) z = fn_215_94 (fn_215_82 M) 96 (nI (8 * (12 + i))) z1 := by
      rw [fn_215_82, if_pos (LM R.L).1, bd (show fn_206 96 (1 : Int32) (99 : Int32) z = some (true, z1) from k1)]
      rfl
    obtain ⟨z2, b2, G2, h11, -, -⟩ := blanks_ok R1.L R1.2.1 R1.2.2.2 R1.2.2.1
    have pn1 := C1.le
    generalize hp1 : sk b n (p + nl b n p) = p1 at *
    have R2 := R1.X G2 h11 pn1
    have FI1 := F.st hv F1 C1 (G1.tr G2) R2 (sk_p C1)
    obtain ⟨-, -, ⟨T1, Pp1, Qq1, D1⟩, hr1, hr2, hr3, hr4, hr5, hr6⟩ := id FI1
    have er2 : fn_215_94 (fn_215_82 M) 96 (nI (8 * (12 + i))) z1 = (fn_212 96 z2).bind fun v19 => (if ¬ v19.1 = (-1 : Int32) then fn_215_124 (fn_215_82 M) 96 (nI (8 * (12 + i))) (nI a) (nI p1) v19.1 v19.2 else some (false, v19.2)) := by
      rw [fn_215_94, if_pos (LM R1.L).1, bd b2, if_pos (LM G2.1).1, h37, h11]
    rcases olds hv hn F1.1 C1 T1 R2 (sk_p C1) with ⟨j, y2, z3, lj, e2, d2, F2, C2, b3, G3, R3⟩ | ⟨y2, z3, e2, d2, F2, C2, b3, G3, R3⟩
    rotate_left
    · have f1 : nI p1 ≠ -1 := nI_n1 (by omega)
      obtain ⟨w1, c1, Gw⟩ := t_f hv hnb F2.1 C2 f1 (P := P) (by rw [F2.2.1 _ (by omega)]; exact Pp1.2.1) hP (N := N) (nI i) (nI k) (-1) (nI a) (Or.inl rfl)
      refine ⟨w1, false, z3, ?_, ?_, Or.inr ⟨rfl, FI1.sf hv F2 Gw C2 R3 (sk_p C1)⟩⟩
      · rw [ec1, m_e hv F1.1 T1.2.1 e2, if_pos rfl, bd d2]; exact c1
      · rw [er1, er2, bd b3]; rfl
    have nj : nI j ≠ -1 := nI_n1 (by omega)
    have er3 : fn_215_82 (M + 1) 96 (nI (8 * (12 + i))) z = fn_215_124 (fn_215_82 M) 96 (nI (8 * (12 + i))) (nI a) (nI p1) (nI j) z3 := by
      rw [er1, er2, bd b3]
      show (if ¬ nI j = (-1 : Int32) then _ else _) = _
      rw [if_pos nj]
    have e8 := fn8_t hu F1.1 Pp1.2.1 hP T1.2.1 ht (nI i) lj
    rw [iin_nI hi (by omega), if_pos rfl, tn_nIe (by omega)] at e8
    have i47 : nI (8 * (12 + i)) + nI j = nI (8 * (12 + i) + j) := nI_add _ _
    have g107 : ∀ z' : cm_W, Lay v' c' z' → cm_ga z' .int 107 (nI (8 * (12 + i) + j)) = true := fun z' Lz => by
      rw [ga_of (n := 192) ((Lz.sh (a := 107) (by decide) (by decide)).trans rfl)]
      exact iin_nI (by omega) (by decide)
    have z107 : cm_I z3 107 (8 * (12 + i) + j) = cm_I y1 (30 - v + 7) (8 * i + j) := by
      rw [G3.2.1 _ (by omega)]; exact hr5 j (by omega)
    obtain ⟨hh, hh1, ehh⟩ := (hr1 i (by omega) j (by omega)).1
    have er4 : fn_215_124 (fn_215_82 M) 96 (nI (8 * (12 + i))) (nI a) (nI p1) (nI j) z3 = if nI hh ≤ 0 then fn_215_145 (fn_215_82 M) 96 (nI (8 * (12 + i))) (nI a) (nI j) z3 else some (false, cm_sI z3 96 11 (nI p1)) := by
      rw [fn_215_124, if_pos (LM G3.1).1, bd (show cm_R z3 96 29 = some 107 from G3.1.R rfl), i47, if_pos (g107 _ G3.1), tn_nI (by omega), z107, ehh, if_pos (show cm_w2 96 143 96 = true from rfl)]
    by_cases h0 : hh = 0
    rotate_left
    · -- told twice
      have f1 : nI p1 ≠ -1 := nI_n1 (by omega)
      obtain ⟨y2', d2', F2', C2'⟩ := acc0 F1.1 C1
      obtain ⟨w1, c1, Gw⟩ := t_f hv hnb F2'.1 C2' f1 (P := P) (by rw [F2'.2.1 _ (by omega)]; exact Pp1.2.1) hP (N := N) (nI i) (nI k) (nI j) (nI a) (Or.inr ⟨j, by omega, rfl⟩)
      refine ⟨w1, false, cm_sI z3 96 11 (nI p1), ?_, ?_, Or.inr ⟨rfl, FI1.sf hv F2' Gw C2' (R3.X ((FX.rf R3.L).sI (by omega)) I_eq pn1) (sk_p C1)⟩⟩
      · have hne : ¬ cm_I y1 (30 - v + 7) (8 * i + j) = 0 := by
          rw [ehh]
          exact fun h => h0 ((nI_eq (a := hh) (b := 0) (by omega) (by decide)).mp h)
        rw [ec1, m_e hv F1.1 T1.2.1 e2, if_neg nj, bd e8, if_pos hne, bd d2']
        exact c1
      · have hle : ¬ nI hh ≤ 0 := by
          rw [nI_l_le (n := 0) (by decide) (by omega)]
          show ¬ hh ≤ 0
          omega
        rw [er3, er4, if_neg hle]
    subst h0
    have hz0 : cm_I y1 (30 - v + 7) (8 * i + j) = 0 := ehh
    rw [if_pos (show nI 0 ≤ (0 : Int32) by decide)] at er4
    have FI2 := FI1.st hv F2 C2 G3 R3 rfl
    have hz0' : cm_I y2 (30 - v + 7) (8 * i + j) = 0 := by rw [F2.2.1 _ (by omega)]; exact hz0
    have FI3 := FI2.add hv hi lj hz0' l1 (by omega)
    obtain ⟨⟨L3, -, C3⟩, ⟨q3, R4, hq3⟩, -⟩ := id FI3
    have s77 : fn_77 (30 - v) (nI i) (nI j) (nI a) y2 = some (cm_sI y2 (30 - v + 7) (8 * i + j) (nI a)) := by
      have := shr77 F2.1 hu (P := P) (by rw [F2.2.1 _ (by omega)]; exact Pp1.2.1) hP (nI i) (j := j) (by omega) (nI a)
      rw [iin_nI hi (by omega), if_pos rfl, tn_nIe (by omega)] at this
      exact this
    have R4' : RX v' c' b n s x0 (cm_sI z3 107 (8 * (12 + i) + j) (nI a)) (p1 + ln b n p1) := R3.sI (by omega) (decide_eq_false (by omega))
    obtain ⟨z5, k5, G5, h115⟩ := sign_ok R4'.L R4'.2.1 R4'.2.2.2 R4'.2.2.1 44
    have k5 : fn_205 96 (44 : Int32) (cm_sI z3 107 (8 * (12 + i) + j) (nI a)) = some (sgok b n (nxt b n p1) 44, z5) := k5
    have h115 : cm_I z5 96 11 = nI (if sgok b n (nxt b n p1) 44 = true then nxt b n p1 + 1 else nxt b n p1) := h115
    have er5 : fn_215_82 (M + 1) 96 (nI (8 * (12 + i))) z = if ¬ (cm_b (sgok b n (nxt b n p1) 44)) = 0 then fn_215_82 M 96 (nI (8 * (12 + i))) z5 else some (true, z5) := by
      rw [er3, er4, fn_215_145, if_pos (LM G3.1).1, bd (show cm_R z3 96 29 = some 107 from G3.1.R rfl), i47, if_pos (g107 _ G3.1), if_pos (show cm_w2 96 143 107 = true from rfl), tn_nI (by omega), bd k5]
    have s79 : fn_79 (cm_sI y2 (30 - v + 7) (8 * i + j) (nI a)) 4 (44 : Int32) = some (sgok b n (nxt b n p1) 44) := sign79 L3 C3 hnb (Or.inl rfl)
    obtain ⟨kk, kk1, g6, g7, -⟩ := C3.g
    have ec2 : fn_80_48 (N + 2) 4 (nI i) 1 (nI k) y = if (cm_b (sgok b n (nxt b n p1) 44)) = 0 then fn_80_151 (fn_80_48 (N + 1)) 4 (nI i) (nI k) (cm_sI y2 (30 - v + 7) (8 * i + j) (nI a)) else (fn_66 4 (1 : Int32) (cm_sI y2 (30 - v + 7) (8 * i + j) (nI a))).bind fun w34 => fn_80_162 (fn_80_48 (N + 1)) 4 (nI i) (1 : Int32) (nI k) w34 := by
      rw [ec1, m_e hv F1.1 T1.2.1 e2, if_neg nj, bd e8, if_neg (fun h => h hz0), bd d2, s80t, if_pos (LD F2.1).1, bd F2.1.2.2.2.2.2.2.2.1, if_pos (LV F2.1 hu).1, bd s77, if_pos (LD L3).1, bd s79, g7, if_neg (fun h : ¬ (-1 : Int32) = -1 => h rfl)]
    generalize hp2 : nxt b n p1 = p2 at *
    cases sg : sgok b n p2 44
    · rw [sg] at ec2 er5 h115
      rw [if_pos (show cm_b false = 0 from rfl)] at ec2
      rw [if_neg (fun h => h (show cm_b false = 0 from rfl))] at er5
      rw [if_neg (by decide)] at h115
      have R5 := R4'.X G5 h115 C3.le
      have FI4 := FI3.st hv (FA.rf L3) C3 G5 R5 (sk_p C3)
      exact ⟨_, true, z5, by rw [ec2, fn_80_151, fn_80_162, e48_0], er5, Or.inl ⟨rfl, p2, FI4.sr hi (by omega)⟩⟩
    · rw [sg] at ec2 er5 h115
      rw [if_neg (show ¬ cm_b true = 0 by decide)] at ec2
      rw [if_pos (show ¬ cm_b true = 0 by decide)] at er5
      rw [if_pos rfl] at h115
      obtain ⟨kd3, pl2⟩ := sg_kd (Or.inl rfl) sg
      obtain ⟨y4, a4, F4, C4⟩ := acc1 L3 C3 pl2
      have R5 := R4'.X G5 h115 (by omega)
      have FI4 := FI3.st hv F4 C4 G5 R5 (by unfold nxt; rw [ln_3 kd3])
      obtain ⟨w1, r, x1, g1, g2, g3⟩ := ih (k + 1) (by omega) y4 z5 _ (N + 1) M (by omega) (by omega) FI4
      refine ⟨w1, r, x1, ?_, by rw [er5]; exact g2, g3⟩
      rw [ec2, bd a4, fn_80_162, nI_1]
      exact g1
end FILLS3
