/-! a statement: both alike -/
def s83 (d : Int32) (w : cm_W) : Option cm_W := (if d = (0 : Int32) then (if cm_sh w 4 = some (.inl 4) then (fn_74 4 w).bind fun w40 => some w40 else none) else (if d = (1 : Int32) then fn_83_99 4 w else (if d = (2 : Int32) then fn_83_106 4 w else (if d = (3 : Int32) then fn_83_113 4 w else (if d = (4 : Int32) then fn_83_120 4 w else (if d = (5 : Int32) then fn_83_137 4 w else (if d = (6 : Int32) then fn_83_154 4 w else some w)))))))
section SAID
variable {v c v' c' u n m q k p t P Q i j : Nat} {b : Nat → Int32} {w w' w0 x x' x0 y z y1 y2 y3 y4 y5 z1 : cm_W} {f : Int32} {s : St}
theorem SR.mv (S : SR v c v' c' b n s w0 x0 w x p t P Q m) (hv : v = 10 ∨ v = 20) {p1 q1 : Nat} (A : FA v c w y) (C : CR b n y p1 (-1)) (G : FX v' c' x z) (R : RX v' c' b n s x0 z q1) (hq : sk b n q1 = p1) : SR v c v' c' b n s w0 x0 y z p1 t P Q m := by
  have hu : 30 - v = 10 ∨ 30 - v = 20 := by omega
  obtain ⟨⟨L, FW, -⟩, -, T, Pp, H, Qq, D⟩ := S
  exact ⟨⟨A.1, FW.A hv A, C⟩, ⟨q1, R, hq⟩, T.cg hu A.U G.U, Pp.cg hu A.U G.U, H.cg hu A.U G.U, Qq.cg hu A.U G.U, D.cg hu A.U G.U⟩
theorem tk_n (R : RX v c b n s x0 x q) (hj : j < 14) (h : wd b n (sk b n q) ≠ nI j) : ∃ z, fn_204 96 (lw_wl j) x = some (false, z) ∧ FX v c x z ∧ RX v c b n s x0 z (sk b n q) := by
  obtain ⟨z, a1, F, h11⟩ := takes_ok R.L R.2.1 R.2.2.2 R.2.2.1 hj
  rw [decide_eq_false h] at a1 h11
  exact ⟨z, a1, F, R.X F h11 (sk_le R.2.2.2)⟩
theorem tk_y (R : RX v c b n s x0 x q) (hj : j < 14) (h : wd b n (sk b n q) = nI j) (k1 : kd b n (sk b n q) = 1) : ∃ z, fn_204 96 (lw_wl j) x = some (true, z) ∧ FX v c x z ∧ RX v c b n s x0 z (sk b n q + ln b n (sk b n q)) := by
  obtain ⟨z, a1, F, h11⟩ := takes_ok R.L R.2.1 R.2.2.2 R.2.2.1 hj
  rw [decide_eq_true h] at a1 h11
  rw [if_pos rfl, wl_1 k1] at h11
  exact ⟨z, a1, F, R.X F h11 (ln_pos (b := b) (n := n) (p := sk b n q) (Or.inl k1)).2⟩
theorem e83 (hv : v = 10 ∨ v = 20) (L : Lay v c w) (C : CR b n w p f) (hQ : Q ≤ 6) (h2 : cm_I w (30 - v + 8) 2 = nI Q) (h0 : cm_I w (30 - v + 8) 0 = 3) : fn_83 4 w = if wd b n p < 0 then (fn_66 4 0 w).bind (s83 (wd b n p)) else if (6 : Int32) < wd b n p then (fn_66 4 0 w).bind (s83 (wd b n p)) else if ¬ wd b n p = 3 then (fn_66 4 1 w).bind (s83 (wd b n p)) else if Q = 6 then (fn_66 4 0 w).bind (s83 (wd b n p)) else (fn_66 4 1 w).bind (s83 (wd b n p)) := by
  have hu : 30 - v = 10 ∨ 30 - v = 20 := by omega
  have TBt : TB 8 9 3 18 6 := Or.inr (Or.inr ⟨rfl, rfl, rfl, rfl, rfl⟩)
  obtain ⟨k, k1, g6, g7, g5, r6, r7, r8, r9, pn⟩ := C.g
  have g9 : cm_ga w .int 9 (nI k) = true := by
    rw [ga_of (n := 901) ((L.sh (a := 9) (by decide) (by decide)).trans rfl)]
    exact iin_nI k1 (by decide)
  have f8 := tF L hu TBt h0 h2 hQ
  rw [fn_83, if_pos (LD L).1, bd (show cm_R w 4 4 = some 9 from L.R rfl), g6, if_pos g9, tn_nI (by omega), r9, bd L.2.2.2.2.2.2.2.1, if_pos (LV L hu).1, bd (LV L hu).2.2.2.2.2.2.1, if_pos (tv L hu TBt).1, bd f8]
  by_cases z : Q = 6
  · rw [if_pos z, decide_eq_true z, if_pos (show ¬ cm_b true = 0 by decide)]
    rfl
  · rw [if_neg z, decide_eq_false z, if_neg (show ¬ ¬ cm_b false = 0 by decide)]
    rfl
theorem n217a (R : RX v c b n s x0 x q) (h : wd b n (sk b n q) ≠ 0) : ∃ z, fn_217 96 x = fn_217_15 96 z ∧ FX v c x z ∧ RX v c b n s x0 z (sk b n q) := by
  obtain ⟨z, a1, F, R1⟩ := tk_n R (j := 0) (by omega) h
  refine ⟨z, ?_, F, R1⟩
  rw [fn_217, if_pos (LM R.L).1, bd (show fn_204 96 (499967946343 : Int64) x = some (false, z) from a1)]
  rfl
theorem n217b (R : RX v c b n s x0 x q) (h : wd b n (sk b n q) ≠ 1) : ∃ z, fn_217_15 96 x = fn_217_30 96 z ∧ FX v c x z ∧ RX v c b n s x0 z (sk b n q) := by
  obtain ⟨z, a1, F, R1⟩ := tk_n R (j := 1) (by omega) h
  refine ⟨z, ?_, F, R1⟩
  rw [fn_217_15, if_pos (LM R.L).1, bd (show fn_204 96 (7825519 : Int64) x = some (false, z) from a1)]
  rfl
theorem n217c (R : RX v c b n s x0 x q) (h : wd b n (sk b n q) ≠ 2) : ∃ z, fn_217_30 96 x = fn_217_45 96 z ∧ FX v c x z ∧ RX v c b n s x0 z (sk b n q) := by
  obtain ⟨z, a1, F, R1⟩ := tk_n R (j := 2) (by omega) h
  refine ⟨z, ?_, F, R1⟩
  rw [fn_217_30, if_pos (LM R.L).1, bd (show fn_204 96 (439855377523 : Int64) x = some (false, z) from a1)]
  rfl
theorem n217d (R : RX v c b n s x0 x q) (h : wd b n (sk b n q) ≠ 3) : ∃ z, fn_217_45 96 x = fn_217_80 96 z ∧ FX v c x z ∧ RX v c b n s x0 z (sk b n q) := by
  obtain ⟨z, a1, F, h11, h36, -⟩ := word_ok R.L R.2.1 R.2.2.2 R.2.2.1
  refine ⟨z, ?_, F, R.X F h11 (sk_le R.2.2.2)⟩
  have h' : ¬ wv b n (sk b n q) = 1885432178 := fun e => h ((wv_wd (j := 3) (by omega)).mp e)
  rw [fn_217_45, if_pos (LM R.L).1, bd a1]
  exact if_pos (fun e => h' ((lgc_eq _ _).mp e))
theorem n217e (R : RX v c b n s x0 x q) (h : wd b n (sk b n q) = 3) (h15 : cm_I x 96 15 = nI Q) (hQ : Q ≤ 6) (k1 : kd b n (sk b n q) = 1) : (Q = 6 → ∃ z, fn_217_45 96 x = some (false, z) ∧ FX v c x z ∧ RX v c b n s x0 z (sk b n q)) ∧ (Q ≠ 6 → ∃ z, fn_217_45 96 x = (fn_216 96 z).bind (fun v3 => some (v3.1, v3.2)) ∧ FX v c x z ∧ RX v c b n s x0 z (sk b n q + ln b n (sk b n q))) := by
  obtain ⟨z, a1, F, h11, h36, -⟩ := word_ok R.L R.2.1 R.2.2.2 R.2.2.1
  have R1 := R.X F h11 (sk_le R.2.2.2)
  rw [wl_1 k1] at h36
  have h' : wv b n (sk b n q) = 1885432178 := (wv_wd (j := 3) (by omega)).mpr h
  have e15 : cm_I z 96 15 = nI Q := (F.2.2.1 15 (by omega) (by omega) (by omega)).trans h15
  have e : fn_217_45 96 x = if ¬ cm_I z 96 15 = (6 : Int32) then fn_217_67 96 z else some (false, z) := by
    rw [fn_217_45, if_pos (LM R.L).1, bd a1]
    show (if ¬ lg_cmp (wv b n (sk b n q)) (1885432178 : Int64) = 0 then fn_217_80 96 z else (if cm_sh z 96 = some (.inl 11) then (if ¬ cm_I z 96 15 = (6 : Int32) then fn_217_67 96 z else some (false, z)) else none)) = _
    rw [if_neg (fun a => a ((lgc_eq _ _).mpr h')), if_pos (LM F.1).1]
  rw [e15] at e
  constructor
  · intro hq
    refine ⟨z, ?_, F, R1⟩
    rw [e, hq, if_neg (fun a => a rfl)]
  · intro hq
    refine ⟨cm_sI z 96 11 (nI (sk b n q + ln b n (sk b n q))), ?_, F.sI (by omega), R.X (F.sI (by omega)) I_eq (ln_pos (b := b) (n := n) (p := sk b n q) (Or.inl k1)).2⟩
    rw [e, if_pos (show ¬ nI Q = (6 : Int32) from fun a => hq ((nI_eq (a := Q) (b := 6) (by omega) (by decide)).mp a)), fn_217_67, if_pos (LM F.1).1, if_pos (show cm_w2 96 143 96 = true from rfl), h36]
theorem n217f (R : RX v c b n s x0 x q) (h : wd b n (sk b n q) = 4) (k1 : kd b n (sk b n q) = 1) : ∃ z, fn_217_80 96 x = fn_217_126 96 1 0 z ∧ FX v c x z ∧ RX v c b n s x0 z (sk b n q + ln b n (sk b n q)) := by
  obtain ⟨z, a1, F, R1⟩ := tk_y R (j := 4) (by omega) h k1
  refine ⟨z, ?_, F, R1⟩
  rw [fn_217_80, if_pos (LM R.L).1, bd (show fn_204 96 (461262647411 : Int64) x = some (true, z) from a1)]
  rfl
theorem n217g (R : RX v c b n s x0 x q) (h : wd b n (sk b n q) = 5) (k1 : kd b n (sk b n q) = 1) : ∃ z, fn_217_80 96 x = fn_217_126 96 0 1 z ∧ FX v c x z ∧ RX v c b n s x0 z (sk b n q + ln b n (sk b n q)) := by
  have n4 : wd b n (sk b n q) ≠ nI 4 := by rw [h]; decide
  obtain ⟨y, b1, G, R2⟩ := tk_n R (j := 4) (by omega) n4
  have hk := sk_sk b n q
  obtain ⟨z, a1, F, R1⟩ := tk_y R2 (j := 5) (by omega) (by rw [hk]; exact h) (by rw [hk]; exact k1)
  rw [hk] at R1
  refine ⟨z, ?_, G.tr F, R1⟩
  rw [fn_217_80, if_pos (LM R.L).1, bd (show fn_204 96 (461262647411 : Int64) x = some (false, y) from b1)]
  show (if cm_sh y 96 = some (.inl 11) then (fn_204 96 (512802514792 : Int64) y).bind fun v27 => _ else none) = _
  rw [if_pos (LM G.1).1, bd (show fn_204 96 (512802514792 : Int64) y = some (true, z) from a1)]
  rfl
theorem n217h (R : RX v c b n s x0 x q) (n4 : wd b n (sk b n q) ≠ 4) (n5 : wd b n (sk b n q) ≠ 5) : ∃ z, fn_217_80 96 x = (fn_204 96 (495672453989 : Int64) z).bind (fun v19 => if (cm_b v19.1) = 0 then some (false, v19.2) else fn_217_126 96 0 0 v19.2) ∧ FX v c x z ∧ RX v c b n s x0 z (sk b n q) := by
  obtain ⟨y, b1, G, R2⟩ := tk_n R (j := 4) (by omega) n4
  have hk := sk_sk b n q
  obtain ⟨z, a1, F, R1⟩ := tk_n R2 (j := 5) (by omega) (by rw [hk]; exact n5)
  rw [hk] at R1
  refine ⟨z, ?_, G.tr F, R1⟩
  rw [fn_217_80, if_pos (LM R.L).1, bd (show fn_204 96 (461262647411 : Int64) x = some (false, y) from b1)]
  show (if cm_sh y 96 = some (.inl 11) then (fn_204 96 (512802514792 : Int64) y).bind fun v27 => _ else none) = _
  rw [if_pos (LM G.1).1, bd (show fn_204 96 (512802514792 : Int64) y = some (false, z) from a1)]
  show fn_217_106 96 (cm_b false) z = _
  rw [fn_217_106, if_neg (fun a => a rfl), if_pos (LM F.1).1]
  rfl
theorem n217i (R : RX v c b n s x0 x q) (n4 : wd b n (sk b n q) = 6) (k1 : kd b n (sk b n q) = 1) : ∃ z, fn_217_80 96 x = fn_217_126 96 0 0 z ∧ FX v c x z ∧ RX v c b n s x0 z (sk b n q + ln b n (sk b n q)) := by
  obtain ⟨y, b1, G, R2⟩ := n217h R (by rw [n4]; decide) (by rw [n4]; decide)
  have hk := sk_sk b n q
  obtain ⟨z, a1, F, R1⟩ := tk_y R2 (j := 6) (by omega) (by rw [hk]; exact n4) (by rw [hk]; exact k1)
  rw [hk] at R1
  refine ⟨z, ?_, G.tr F, R1⟩
  rw [b1, bd (show fn_204 96 (495672453989 : Int64) y = some (true, z) from a1)]
  rfl
theorem n217j (R : RX v c b n s x0 x q) (n4 : wd b n (sk b n q) ≠ 4) (n5 : wd b n (sk b n q) ≠ 5) (n6 : wd b n (sk b n q) ≠ 6) : ∃ z, fn_217_80 96 x = some (false, z) ∧ FX v c x z ∧ RX v c b n s x0 z (sk b n q) := by
  obtain ⟨y, b1, G, R2⟩ := n217h R n4 n5
  have hk := sk_sk b n q
  obtain ⟨z, a1, F, R1⟩ := tk_n R2 (j := 6) (by omega) (by rw [hk]; exact n6)
  rw [hk] at R1
  refine ⟨z, ?_, G.tr F, R1⟩
  rw [b1, bd (show fn_204 96 (495672453989 : Int64) y = some (false, z) from a1)]
  rfl
end SAID
