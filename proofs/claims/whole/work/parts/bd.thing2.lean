/-! a statement of a THING: both alike -/
section THG2
variable {v c v' c' n m q k p t P Q : Nat} {b : Nat → Int32} {w w' w0 x x' x0 y z y1 y2 y3 y4 y5 : cm_W} {f : Int32} {s : St}
theorem s70_f (L : Lay v c y) (C : CR b n y p f) (hf : f ≠ -1) (J : Int64) (i3 i4 i5 i6 : Int32) : fn_74_70 4 J i3 i4 i5 i6 y = some y := by
  obtain ⟨k, k1, g6, g7, -⟩ := C.g
  rw [fn_74_70, if_pos (LD L).1, g7, if_pos hf]
theorem th_eval (hv : v = 10 ∨ v = 20) (L : Lay v c w) (L1 : Lay v c y1) (L2 : Lay v c y2) (L3 : Lay v c y3) (L4 : Lay v c y4) {J : Int64} {i1 i2 i3 : Int32} (a1 : fn_69 4 (30 - v + 2) w = some (J, y1)) (e1 : fn_70 4 (0 : Int32) (999 : Int32) y1 = some (i1, y2)) (e2 : fn_70 4 (0 : Int32) (99 : Int32) y2 = some (i2, y3)) (e3 : fn_70 4 (0 : Int32) (9 : Int32) y3 = some (i3, y4)) (C : CR b n y4 p f) : fn_74 4 w = if ¬ wd b n p = (7 : Int32) then fn_74_70 4 J i1 i2 i3 0 y4 else (fn_66 4 1 y4).bind fun w30 => (if cm_sh w30 4 = some (.inl 4) then (fn_70 4 (0 : Int32) (99 : Int32) w30).bind fun v33 => fn_74_70 4 J i1 i2 i3 v33.1 v33.2 else none) := by
  have hu : 30 - v = 10 ∨ 30 - v = 20 := by omega
  obtain ⟨k, k1, g6, g7, g5, r6, r7, r8, r9, pn⟩ := C.g
  have g9 : cm_ga y4 .int 9 (nI k) = true := by
    rw [ga_of (n := 901) ((L4.sh (a := 9) (by decide) (by decide)).trans rfl)]
    exact iin_nI k1 (by decide)
  rw [fn_74, if_pos (LD L).1, bd L.2.2.2.2.2.2.2.1, if_pos (LV L hu).1, bd (LV L hu).2.2.1, bd a1]
  show (if cm_sh y1 4 = some (.inl 4) then (fn_70 4 (0 : Int32) (999 : Int32) y1).bind fun v17 => (if cm_sh v17.2 4 = some (.inl 4) then (fn_70 4 (0 : Int32) (99 : Int32) v17.2).bind fun v20 => (if cm_sh v20.2 4 = some (.inl 4) then (fn_70 4 (0 : Int32) (9 : Int32) v20.2).bind fun v23 => (if cm_sh v23.2 4 = some (.inl 4) then (cm_R v23.2 4 4).bind fun r26 => (if cm_ga v23.2 .int r26 (cm_I v23.2 4 6) = true then (if ¬ (cm_I v23.2 r26 (cm_I v23.2 4 6).toNatClampNeg) = (7 : Int32) then fn_74_70 4 J v17.1 v20.1 v23.1 (0 : Int32) v23.2 else (fn_66 4 (1 : Int32) v23.2).bind fun w30 => (if cm_sh w30 4 = some (.inl 4) then (fn_70 4 (0 : Int32) (99 : Int32) w30).bind fun v33 => fn_74_70 4 J v17.1 v20.1 v23.1 v33.1 v33.2 else none)) else none) else none) else none) else none) else none) = _
  rw [if_pos (LD L1).1, bd e1]
  show (if cm_sh y2 4 = some (.inl 4) then (fn_70 4 (0 : Int32) (99 : Int32) y2).bind fun v20 => (if cm_sh v20.2 4 = some (.inl 4) then (fn_70 4 (0 : Int32) (9 : Int32) v20.2).bind fun v23 => (if cm_sh v23.2 4 = some (.inl 4) then (cm_R v23.2 4 4).bind fun r26 => (if cm_ga v23.2 .int r26 (cm_I v23.2 4 6) = true then (if ¬ (cm_I v23.2 r26 (cm_I v23.2 4 6).toNatClampNeg) = (7 : Int32) then fn_74_70 4 J i1 v20.1 v23.1 (0 : Int32) v23.2 else (fn_66 4 (1 : Int32) v23.2).bind fun w30 => (if cm_sh w30 4 = some (.inl 4) then (fn_70 4 (0 : Int32) (99 : Int32) w30).bind fun v33 => fn_74_70 4 J i1 v20.1 v23.1 v33.1 v33.2 else none)) else none) else none) else none) else none) = _
  rw [if_pos (LD L2).1, bd e2]
  show (if cm_sh y3 4 = some (.inl 4) then (fn_70 4 (0 : Int32) (9 : Int32) y3).bind fun v23 => (if cm_sh v23.2 4 = some (.inl 4) then (cm_R v23.2 4 4).bind fun r26 => (if cm_ga v23.2 .int r26 (cm_I v23.2 4 6) = true then (if ¬ (cm_I v23.2 r26 (cm_I v23.2 4 6).toNatClampNeg) = (7 : Int32) then fn_74_70 4 J i1 i2 v23.1 (0 : Int32) v23.2 else (fn_66 4 (1 : Int32) v23.2).bind fun w30 => (if cm_sh w30 4 = some (.inl 4) then (fn_70 4 (0 : Int32) (99 : Int32) w30).bind fun v33 => fn_74_70 4 J i1 i2 v23.1 v33.1 v33.2 else none)) else none) else none) else none) = _
  rw [if_pos (LD L3).1, bd e3]
  show (if cm_sh y4 4 = some (.inl 4) then (cm_R y4 4 4).bind fun r26 => (if cm_ga y4 .int r26 (cm_I y4 4 6) = true then (if ¬ (cm_I y4 r26 (cm_I y4 4 6).toNatClampNeg) = (7 : Int32) then fn_74_70 4 J i1 i2 i3 (0 : Int32) y4 else (fn_66 4 (1 : Int32) y4).bind fun w30 => (if cm_sh w30 4 = some (.inl 4) then (fn_70 4 (0 : Int32) (99 : Int32) w30).bind fun v33 => fn_74_70 4 J i1 i2 i3 v33.1 v33.2 else none)) else none) else none) = _
  rw [if_pos (LD L4).1, bd (show cm_R y4 4 4 = some 9 from L4.R rfl), g6, if_pos g9, tn_nI (by omega), r9]
theorem th_f (hv : v = 10 ∨ v = 20) (L : Lay v c w) (L1 : Lay v c y1) (L2 : Lay v c y2) (L3 : Lay v c y3) (L4 : Lay v c y4) {J : Int64} {i1 i2 i3 : Int32} (a1 : fn_69 4 (30 - v + 2) w = some (J, y1)) (e1 : fn_70 4 (0 : Int32) (999 : Int32) y1 = some (i1, y2)) (e2 : fn_70 4 (0 : Int32) (99 : Int32) y2 = some (i2, y3)) (e3 : fn_70 4 (0 : Int32) (9 : Int32) y3 = some (i3, y4)) (C : CR b n y4 p f) (hf : f ≠ -1) : fn_74 4 w = some y4 := by
  rw [th_eval hv L L1 L2 L3 L4 a1 e1 e2 e3 C]
  by_cases z : wd b n p = (7 : Int32)
  · obtain ⟨r, a2⟩ := num70f L4 C hf (0 : Int32) (99 : Int32)
    rw [if_neg (fun h => h z), bd (accf L4 C hf 1), if_pos (LD L4).1, bd a2]
    exact s70_f L4 C hf _ _ _ _ _
  · rw [if_pos z]
    exact s70_f L4 C hf _ _ _ _ _
/-- both at a FAULT -/
theorem SF.mk {w1 : cm_W} (hv : v = 10 ∨ v = 20) (S : SR v c v' c' b n s w0 x0 w x p t P Q m) {pf q1 p1 : Nat} (L1 : Lay v c w1) (hW : FW0 v w0 w1) (hU : UW w w1) (C1 : CR b n w1 p1 (nI pf)) (R1 : RX v' c' b n s x0 x' q1) (e : sk b n q1 = pf) : SF v c v' c' b n s w0 x0 w1 x' := by
  have hu : 30 - v = 10 ∨ 30 - v = 20 := by omega
  subst e
  exact ⟨L1, hW, (WD.of S.2.2.1 S.2.2.2.1 S.2.2.2.2.2.1).cg hu hU, p1, q1, C1, R1⟩
theorem UW.tr (h : UW w y) (h2 : UW y z) : UW w z := fun a h1 h3 => ⟨fun j => ((h2 a h1 h3).1 j).trans ((h a h1 h3).1 j), fun j => ((h2 a h1 h3).2 j).trans ((h a h1 h3).2 j)⟩
theorem UX.tr (h : UX w y) (h2 : UX y z) : UX w z := ⟨fun a j h1 => (h2.1 a j h1).trans (h.1 a j h1), fun a j h1 => (h2.2 a j h1).trans (h.2 a j h1)⟩
end THG2
