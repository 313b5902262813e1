/-! a statement of a THING: the simulation, step by step -/
section THG4
variable {v c v' c' u n m q k p t P Q : Nat} {b : Nat → Int32} {w w' w0 x x' x0 y z y1 y2 y3 y4 y5 : cm_W} {f : Int32} {s : St}
/-- a number, by both: the class from p, the reference from q -/
theorem nums (hn : n ≤ 900) (Ly : Lay v c y) (C : CR b n y p (-1)) (R : RX v' c' b n s x0 z q) (hq : sk b n q = p) {lo hi : Nat} (hlo : lo < 10000) (hhi : hi < 10000) : (∃ a y1 z1, fn_70 4 (nI lo) (nI hi) y = some (nI a, y1) ∧ FA v c y y1 ∧ CR b n y1 (sk b n (p + nl b n p)) (-1) ∧ fn_206 96 (nI lo) (nI hi) z = some (true, z1) ∧ FX v' c' z z1 ∧ RX v' c' b n s x0 z1 (p + nl b n p) ∧ cm_I z1 96 37 = nI a ∧ rg (nI a) (hi + 1)) ∨ (∃ y1 z1, fn_70 4 (nI lo) (nI hi) y = some (-1, y1) ∧ FA v c y y1 ∧ CR b n y1 p (nI p) ∧ fn_206 96 (nI lo) (nI hi) z = some (false, z1) ∧ FX v' c' z z1 ∧ RX v' c' b n s x0 z1 p) := by
  obtain ⟨c1, c2⟩ := num70 Ly C hn hlo hhi
  obtain ⟨d1, d2⟩ := numR R hlo hhi
  rw [hq] at d1 d2
  cases h : numok b n p lo hi
  · obtain ⟨y1, a1, a2, a3⟩ := c2 h
    obtain ⟨z1, b1, b2, b3⟩ := d2 h
    exact Or.inr ⟨y1, z1, a1, a2, a3, b1, b2, b3⟩
  · obtain ⟨y1, a1, a2, a3⟩ := c1 h
    obtain ⟨z1, b1, b2, b3, b4, b5⟩ := d1 h
    exact Or.inl ⟨_, y1, z1, a1, a2, a3, b1, b2, b3, b4, b5⟩
theorem CR.le (C : CR b n w p f) : p ≤ n := by
  obtain ⟨k, m, -, -, rfl, -⟩ := C
  exact pos_le b n k
theorem sk_p (C : CR b n w p f) : sk b n p = p := sk_id C.nb
theorem thing_sim (hv : v = 10 ∨ v = 20) (hn : n ≤ 900) (S : SR v c v' c' b n s w0 x0 w x p t P Q m) : ∃ w1 r x1, fn_74 4 w = some w1 ∧ fn_213 96 x = some (r, x1) ∧ ((r = true ∧ ∃ p', SR v c v' c' b n s w0 x0 w1 x1 p' (t + 1) P Q m) ∨ (r = false ∧ SF v c v' c' b n s w0 x0 w1 x1)) := by
  have hu : 30 - v = 10 ∨ 30 - v = 20 := by omega
  obtain ⟨⟨L, FW, C⟩, ⟨q, R, hq⟩, T, Pp, H, Qq, D⟩ := id S
  have TBt : TB 2 3 4 32 8 := Or.inl ⟨rfl, rfl, rfl, rfl, rfl⟩
  have N := new69 L hv C hn T Pp (a1 := 30 - v + 2) (tv L hu TBt).1 (tF L hu TBt T.2.2.1 T.2.1 T.1)
  have pn := C.le
  -- from a FAULT on nothing comes
  have flt : ∀ {y1 : cm_W} {x1 : cm_W} {p1 q1 : Nat} {J : Int64}, fn_69 4 (30 - v + 2) w = some (J, y1) → FA v c w y1 → CR b n y1 p1 (nI p1) → RX v' c' b n s x0 x1 q1 → sk b n q1 = p1 → p1 ≤ 900 → fn_74 4 w = some y1 ∧ SF v c v' c' b n s w0 x0 y1 x1 := fun {y1 x1 p1 q1 J} a1 F1 C1 R1 hq1 h9 => by
    have f1 := nI_n1 h9
    obtain ⟨r1, e1⟩ := num70f F1.1 C1 f1 (0 : Int32) (999 : Int32)
    obtain ⟨r2, e2⟩ := num70f F1.1 C1 f1 (0 : Int32) (99 : Int32)
    obtain ⟨r3, e3⟩ := num70f F1.1 C1 f1 (0 : Int32) (9 : Int32)
    exact ⟨th_f hv L F1.1 F1.1 F1.1 F1.1 a1 e1 e2 e3 C1 f1, SF.mk hv S F1.1 (FW.A hv F1) F1.U C1 R1 hq1⟩
  by_cases t8 : t = 8
  · obtain ⟨y1, a1, F1, C1⟩ := N.2 (fun h => by have := h.2.2.2; rw [decide_eq_true t8] at this; cases this)
    obtain ⟨g1, g2⟩ := flt a1 F1 C1 R hq (by omega)
    refine ⟨y1, false, x, g1, ?_, Or.inr ⟨rfl, g2⟩⟩
    rw [fn_213, if_pos (LM R.L).1, T.2.2.2.1, if_neg (fun h => h (by rw [t8]; rfl))]
  have t8' : t < 8 := by have := T.1; omega
  have e213 : fn_213 96 x = fn_213_19 96 (nI (8 + t)) x := by
    rw [fn_213, if_pos (LM R.L).1, T.2.2.2.1, if_pos (show ¬ nI t = (8 : Int32) from fun h => t8 ((nI_eq (a := t) (b := 8) (by omega) (by decide)).mp h)), show (8 : Int32) + nI t = nI (8 + t) from nI_al 8 t]
  have M := new211 R T.2.2.2.1 T.1 Pp.2.2.2.1 Pp.1
  rw [hq] at M
  by_cases nm : nmok b n p = true ∧ fnd (fun k => cm_L x 98 (8 + k)) (vl b n p) t 0 = -1 ∧ fnd (fun k => cm_L x 99 (12 + k)) (vl b n p) P 0 = -1
  rotate_left
  · obtain ⟨y1, a1, F1, C1⟩ := N.2 (fun h => nm ⟨h.1, h.2.1, h.2.2.1⟩)
    obtain ⟨z1, b1, G1, R1⟩ := M.2 nm
    obtain ⟨g1, g2⟩ := flt a1 F1 C1 R1 (sk_p C) (by omega)
    refine ⟨y1, false, z1, g1, ?_, Or.inr ⟨rfl, g2⟩⟩
    rw [e213, fn_213_19, if_pos (LM R.L).1, bd b1]
    rfl
  obtain ⟨y1, a1, F1, C1⟩ := N.1 ⟨nm.1, nm.2.1, nm.2.2, decide_eq_false t8⟩
  obtain ⟨z1, b1, G1, R1, J0, Jw⟩ := M.1 nm
  have hq1 : sk b n (p + ln b n p) = nxt b n p := rfl
  generalize nxt b n p = p1 at *
  generalize vl b n p = J at *
  have J0' : ¬ lg_cmp J (0 : Int64) = 0 := fun h => J0 ((lgc_eq _ _).mp h)
  -- the WORTH
  rcases nums hn F1.1 C1 R1 hq1 (lo := 0) (hi := 999) (by omega) (by omega) with ⟨i1, y2, z2, e1, F2, C2, k1, G2, R2, h1, r1⟩ | ⟨y2, z2, e1, F2, C2, k1, G2, R2⟩
  rotate_left
  · have f1 := nI_n1 (show p1 ≤ 900 by have := C1.le; omega)
    obtain ⟨r2, e2⟩ := num70f F2.1 C2 f1 (0 : Int32) (99 : Int32)
    obtain ⟨r3, e3⟩ := num70f F2.1 C2 f1 (0 : Int32) (9 : Int32)
    refine ⟨y2, false, z2, th_f hv L F1.1 F2.1 F2.1 F2.1 a1 e1 e2 e3 C2 f1, ?_, Or.inr ⟨rfl, SF.mk hv S F2.1 ((FW.A hv F1).A hv F2) (F1.U.tr F2.U) C2 R2 (sk_p C2)⟩⟩
    rw [e213, fn_213_19, if_pos (LM R.L).1, bd b1]
    show (if lg_cmp J (0 : Int64) = 0 then some (false, z1) else (if cm_sh z1 96 = some (.inl 11) then (fn_206 96 (0 : Int32) (999 : Int32) z1).bind fun v49 => (if ¬ (cm_b v49.1) = 0 then fn_213_43 96 (nI (8 + t)) J v49.2 else some (false, v49.2)) else none)) = _
    rw [if_neg J0', if_pos (LM G1.1).1, bd (show fn_206 96 (0 : Int32) (999 : Int32) z1 = some (false, z2) from k1)]
    rfl
  have e213b : fn_213 96 x = fn_213_43 96 (nI (8 + t)) J z2 := by
    rw [e213, fn_213_19, if_pos (LM R.L).1, bd b1]
    show (if lg_cmp J (0 : Int64) = 0 then some (false, z1) else (if cm_sh z1 96 = some (.inl 11) then (fn_206 96 (0 : Int32) (999 : Int32) z1).bind fun v49 => (if ¬ (cm_b v49.1) = 0 then fn_213_43 96 (nI (8 + t)) J v49.2 else some (false, v49.2)) else none)) = _
    rw [if_neg J0', if_pos (LM G1.1).1, bd (show fn_206 96 (0 : Int32) (999 : Int32) z1 = some (true, z2) from k1)]
    rfl
  have U2 := G1.U.tr G2.U
  have F12 := F1.tr F2
  have gat : ∀ a, 100 ≤ a → a ≤ 103 → ∀ z' : cm_W, Lay v' c' z' → cm_ga z' .int a (nI (8 + t)) = true := fun a h1 h2 z' Lz => by
    have : cm_sh z' a = some (.inr (.int, 16)) := by
      rcases (show a = 100 ∨ a = 101 ∨ a = 102 ∨ a = 103 by omega) with rfl | rfl | rfl | rfl <;> exact (Lz.sh (by decide) (by decide)).trans rfl
    rw [ga_of this]
    exact iin_nI (by omega) (by decide)
  have w2a : ∀ a, 100 ≤ a → a ≤ 103 → cm_w2 96 143 a = true := fun a h1 h2 => by
    rcases (show a = 100 ∨ a = 101 ∨ a = 102 ∨ a = 103 by omega) with rfl | rfl | rfl | rfl <;> rfl
  -- the WEIGHT
  have R2' : RX v' c' b n s x0 (cm_sI z2 100 (8 + t) (nI i1)) (p1 + nl b n p1) := R2.sI (by omega) (decide_eq_false (by omega))
  have e43 : fn_213_43 96 (nI (8 + t)) J z2 = (fn_206 96 (0 : Int32) (99 : Int32) (cm_sI z2 100 (8 + t) (nI i1))).bind fun v41 => (if ¬ (cm_b v41.1) = 0 then fn_213_65 96 (nI (8 + t)) J v41.2 else some (false, v41.2)) := by
    rw [fn_213_43, if_pos (LM G2.1).1, bd (show cm_R z2 96 22 = some 100 from G2.1.R rfl), if_pos (gat 100 (by omega) (by omega) _ G2.1), if_pos (w2a 100 (by omega) (by omega)), tn_nI (by omega), h1]
  rcases nums hn F2.1 C2 R2' rfl (lo := 0) (hi := 99) (by omega) (by omega) with ⟨i2, y3, z3, e2, F3, C3, k2, G3, R3, h2, r2⟩ | ⟨y3, z3, e2, F3, C3, k2, G3, R3⟩
  rotate_left
  · have f1 := nI_n1 (show sk b n (p1 + nl b n p1) ≤ 900 by have := C2.le; omega)
    obtain ⟨r3, e3⟩ := num70f F3.1 C3 f1 (0 : Int32) (9 : Int32)
    refine ⟨y3, false, z3, th_f hv L F1.1 F2.1 F3.1 F3.1 a1 e1 e2 e3 C3 f1, ?_, Or.inr ⟨rfl, SF.mk hv S F3.1 ((FW.A hv F12).A hv F3) (F12.U.tr F3.U) C3 R3 (sk_p C3)⟩⟩
    rw [e213b, e43, bd (show fn_206 96 (0 : Int32) (99 : Int32) (cm_sI z2 100 (8 + t) (nI i1)) = some (false, z3) from k2)]
    rfl
  have e43b : fn_213_43 96 (nI (8 + t)) J z2 = fn_213_65 96 (nI (8 + t)) J z3 := by
    rw [e43, bd (show fn_206 96 (0 : Int32) (99 : Int32) (cm_sI z2 100 (8 + t) (nI i1)) = some (true, z3) from k2)]
    rfl
  have F13 := F12.tr F3
  generalize sk b n (p1 + nl b n p1) = p2 at *
  -- the SOUND
  have R3' : RX v' c' b n s x0 (cm_sI z3 101 (8 + t) (nI i2)) (p2 + nl b n p2) := R3.sI (by omega) (decide_eq_false (by omega))
  have e65 : fn_213_65 96 (nI (8 + t)) J z3 = (fn_206 96 (0 : Int32) (9 : Int32) (cm_sI z3 101 (8 + t) (nI i2))).bind fun v33 => (if ¬ (cm_b v33.1) = 0 then fn_213_87 96 (nI (8 + t)) J v33.2 else some (false, v33.2)) := by
    rw [fn_213_65, if_pos (LM G3.1).1, bd (show cm_R z3 96 23 = some 101 from G3.1.R rfl), if_pos (gat 101 (by omega) (by omega) _ G3.1), if_pos (w2a 101 (by omega) (by omega)), tn_nI (by omega), h2]
  rcases nums hn F3.1 C3 R3' rfl (lo := 0) (hi := 9) (by omega) (by omega) with ⟨i3, y4, z4, e3, F4, C4, k3, G4, R4, h3, r3⟩ | ⟨y4, z4, e3, F4, C4, k3, G4, R4⟩
  rotate_left
  · have f1 := nI_n1 (show sk b n (p2 + nl b n p2) ≤ 900 by have := C3.le; omega)
    refine ⟨y4, false, z4, th_f hv L F1.1 F2.1 F3.1 F4.1 a1 e1 e2 e3 C4 f1, ?_, Or.inr ⟨rfl, SF.mk hv S F4.1 ((FW.A hv F13).A hv F4) (F13.U.tr F4.U) C4 R4 (sk_p C4)⟩⟩
    rw [e213b, e43b, e65, bd (show fn_206 96 (0 : Int32) (9 : Int32) (cm_sI z3 101 (8 + t) (nI i2)) = some (false, z4) from k3)]
    rfl
  have e65b : fn_213_65 96 (nI (8 + t)) J z3 = fn_213_87 96 (nI (8 + t)) J z4 := by
    rw [e65, bd (show fn_206 96 (0 : Int32) (9 : Int32) (cm_sI z3 101 (8 + t) (nI i2)) = some (true, z4) from k3)]
    rfl
  have F14 := F13.tr F4
  generalize sk b n (p2 + nl b n p2) = p3 at *
  have ev := th_eval hv L F1.1 F2.1 F3.1 F4.1 a1 e1 e2 e3 C4
  -- what it spoils
  have R4a : RX v' c' b n s x0 (cm_sI z4 102 (8 + t) (nI i3)) (p3 + nl b n p3) := R4.sI (by omega) (decide_eq_false (by omega))
  have R4' : RX v' c' b n s x0 (cm_sI (cm_sI z4 102 (8 + t) (nI i3)) 103 (8 + t) 0) (p3 + nl b n p3) := R4a.sI (by omega) (decide_eq_false (by omega))
  have L4z := G4.1
  have L4' : Lay v' c' (cm_sI z4 102 (8 + t) (nI i3)) := L4z
  have e87 : fn_213_87 96 (nI (8 + t)) J z4 = (fn_204 96 (126926742711411 : Int64) (cm_sI (cm_sI z4 102 (8 + t) (nI i3)) 103 (8 + t) 0)).bind fun v21 => (if (cm_b v21.1) = 0 then fn_213_136 96 (nI (8 + t)) J v21.2 else (if cm_sh v21.2 96 = some (.inl 11) then (fn_206 96 (0 : Int32) (99 : Int32) v21.2).bind fun v25 => (if ¬ (cm_b v25.1) = 0 then fn_213_126 96 (nI (8 + t)) J v25.2 else some (false, v25.2)) else none)) := by
    rw [fn_213_87, if_pos (LM L4z).1, bd (show cm_R z4 96 24 = some 102 from L4z.R rfl), if_pos (gat 102 (by omega) (by omega) _ L4z), if_pos (w2a 102 (by omega) (by omega)), tn_nI (by omega), h3, bd (show cm_R (cm_sI z4 102 (8 + t) (nI i3)) 96 25 = some 103 from L4'.R rfl), if_pos (gat 103 (by omega) (by omega) _ L4z), if_pos (w2a 103 (by omega) (by omega))]
  obtain ⟨z5, k4, G5, h11⟩ := takes_ok R4'.L R4'.2.1 R4'.2.2.2 R4'.2.2.1 (j := 7) (by omega)
  have k4 : fn_204 96 (126926742711411 : Int64) (cm_sI (cm_sI z4 102 (8 + t) (nI i3)) 103 (8 + t) 0) = some (decide (wd b n (sk b n (p3 + nl b n p3)) = nI 7), z5) := k4
  -- what the reference's cells are
  have keep : ∀ {z' : cm_W}, FX v' c' (cm_sI (cm_sI z4 102 (8 + t) (nI i3)) 103 (8 + t) 0) z' → ((∀ a j, (a ≠ 96 ∨ 13 ≤ j ∧ j ≤ 19) → (¬ (100 ≤ a ∧ a ≤ 103) ∨ j ≠ 8 + t) → cm_I z' a j = cm_I x a j) ∧ ∀ a j, (a = 98 ∨ a = 99) → cm_L z' a j = cm_L x a j) ∧ cm_I z' 100 (8 + t) = nI i1 ∧ cm_I z' 101 (8 + t) = nI i2 ∧ cm_I z' 102 (8 + t) = nI i3 ∧ cm_I z' 103 (8 + t) = 0 := fun {z'} G => by
    refine ⟨⟨fun a j h1 h2 => ?_, fun a j h1 => ?_⟩, ?_, ?_, ?_, ?_⟩
    · rw [G.U.1 a j h1, I_if, if_neg (by omega), I_if, if_neg (by omega), G4.U.1 a j h1, I_if, if_neg (by omega), G3.U.1 a j h1, I_if, if_neg (by omega), U2.1 a j h1]
    · rw [G.U.2 a j h1, L_sI, L_sI, G4.U.2 a j h1, L_sI, G3.U.2 a j h1, L_sI, U2.2 a j h1]
    · rw [G.2.1 _ (by omega), I_ne (by omega), I_ne (by omega), G4.2.1 _ (by omega), I_ne (by omega), G3.2.1 _ (by omega), I_eq]
    · rw [G.2.1 _ (by omega), I_ne (by omega), I_ne (by omega), G4.2.1 _ (by omega), I_eq]
    · rw [G.2.1 _ (by omega), I_ne (by omega), I_eq]
    · rw [G.2.1 _ (by omega), I_eq]
  have pn4 := C4.le
  generalize hp4 : sk b n (p3 + nl b n p3) = p4 at *
  by_cases sp : wd b n p4 = nI 7
  rotate_left
  · -- it doesn't spoil
    rw [decide_eq_false sp] at k4 h11
    rw [if_neg (by decide)] at h11
    have R5 := R4'.X G5 h11 pn4
    obtain ⟨hz, z1', z2', z3', z4'⟩ := keep G5
    obtain ⟨w1, x1, A1, A2, A3⟩ := thing_fin hv S t8' Jw r1 r2 r3 (i4 := 0) ⟨0, by omega, rfl⟩ F14.1 (FW.A hv F14) F14.U C4 R5 (sk_p C4) hz z1' z2' z3' z4'
    refine ⟨w1, true, x1, ?_, ?_, Or.inl ⟨rfl, A3⟩⟩
    · rw [ev, if_pos (show ¬ wd b n p4 = (7 : Int32) from sp)]; exact A1
    · rw [e213b, e43b, e65b, e87, bd k4]; exact A2
  -- it does
  rw [decide_eq_true sp] at k4 h11
  rw [if_pos rfl] at h11
  have kd1 : kd b n p4 = 1 := by
    by_cases z : kd b n p4 = 1
    · exact z
    · have : wd b n p4 = -1 := if_neg z
      rw [this, m1_nI (by omega)] at sp
      exact sp.elim
  rw [wl_1 kd1] at h11
  obtain ⟨y5, d1, F5, C5⟩ := acc1 F4.1 C4 (kd_lt (b := b) (n := n) (p := p4) (by omega))
  have R5 := R4'.X G5 h11 (ln_pos (b := b) (n := n) (p := p4) (Or.inl kd1)).2
  have F15 := F14.tr F5
  have ev5 : fn_74 4 w = (fn_70 4 (0 : Int32) (99 : Int32) y5).bind fun v33 => fn_74_70 4 J (nI i1) (nI i2) (nI i3) v33.1 v33.2 := by
    rw [ev, if_neg (fun h => h sp), bd d1, if_pos (LD F5.1).1]
  have er5 : fn_213 96 x = (fn_206 96 (0 : Int32) (99 : Int32) z5).bind fun v25 => (if ¬ (cm_b v25.1) = 0 then fn_213_126 96 (nI (8 + t)) J v25.2 else some (false, v25.2)) := by
    rw [e213b, e43b, e65b, e87, bd k4]
    show (if cm_sh z5 96 = some (.inl 11) then _ else none) = _
    rw [if_pos (LM G5.1).1]
  rcases nums hn F5.1 C5 R5 rfl (lo := 0) (hi := 99) (by omega) (by omega) with ⟨i4, y6, z6, e6, F6, C6, k6, G6, R6, h6, r6⟩ | ⟨y6, z6, e6, F6, C6, k6, G6, R6⟩
  · have F16 := F15.tr F6
    have R6' : RX v' c' b n s x0 (cm_sI z6 103 (8 + t) (nI i4)) _ := R6.sI (by omega) (decide_eq_false (by omega))
    obtain ⟨hz, z1', z2', z3', z4'⟩ := keep (G5.tr G6)
    obtain ⟨w1, x1, A1, A2, A3⟩ := thing_fin (z := cm_sI z6 103 (8 + t) (nI i4)) hv S t8' Jw r1 r2 r3 r6 F16.1 (FW.A hv F16) F16.U C6 R6' rfl ⟨fun a j h1 h2 => by rw [I_if, if_neg (by omega)]; exact hz.1 a j h1 h2, fun a j h1 => by rw [L_sI]; exact hz.2 a j h1⟩ (by rw [I_ne (by omega)]; exact z1') (by rw [I_ne (by omega)]; exact z2') (by rw [I_ne (by omega)]; exact z3') I_eq
    refine ⟨w1, true, x1, ?_, ?_, Or.inl ⟨rfl, A3⟩⟩
    · rw [ev5, bd (show fn_70 4 (0 : Int32) (99 : Int32) y5 = some (nI i4, y6) from e6)]; exact A1
    · rw [er5, bd (show fn_206 96 (0 : Int32) (99 : Int32) z5 = some (true, z6) from k6)]
      show fn_213_126 96 (nI (8 + t)) J z6 = _
      rw [fn_213_126, if_pos (LM G6.1).1, bd (show cm_R z6 96 25 = some 103 from G6.1.R rfl), if_pos (gat 103 (by omega) (by omega) _ G6.1), if_pos (w2a 103 (by omega) (by omega)), tn_nI (by omega), h6]
      exact A2
  · have F16 := F15.tr F6
    have f1 := nI_n1 (show nxt b n p4 ≤ 900 by have := C5.le; omega)
    refine ⟨y6, false, z6, ?_, ?_, Or.inr ⟨rfl, SF.mk hv S F16.1 (FW.A hv F16) F16.U C6 R6 (sk_p C6)⟩⟩
    · rw [ev5, bd (show fn_70 4 (0 : Int32) (99 : Int32) y5 = some (-1, y6) from e6)]
      exact s70_f F6.1 C6 f1 _ _ _ _ _
    · rw [er5, bd (show fn_206 96 (0 : Int32) (99 : Int32) z5 = some (false, z6) from k6)]
      rfl
end THG4
