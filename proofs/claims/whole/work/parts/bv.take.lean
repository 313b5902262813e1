/-! a village, by the whole object: the class's end, the reference's start -/
section TAKE
variable {v c v' c' u n m q k p t P Q A j : Nat} {b : Nat → Int32} {w w1 w' w0 x x' x0 y z : cm_W} {f : Int32} {s s' : St}
theorem i32_cs (i : Int32) : i < 0 ∨ ∃ k, k < 2147483648 ∧ i = nI k := by
  rcases iin_cs i (n := 2147483648) (Nat.le_refl _) with h | h
  · left
    unfold cm_iin at h
    have lt : i.toNatClampNeg < 2147483648 := by
      have e : i.toNatClampNeg = i.toInt.toNat := rfl
      have := Int32.toInt_lt i
      omega
    have d2 : decide (2147483648 ≤ i.toNatClampNeg) = false := decide_eq_false (by omega)
    rw [d2, Bool.or_false] at h
    cases h0 : decide (i < 0)
    · rw [h0] at h; cases h
    · exact of_decide_eq_true h0
  · exact Or.inr h
theorem Lay.sw (L : Lay v c w) : Lay (30 - v) c (cm_sR (cm_sR w 2 3 (some (30 - v))) 4 8 (some v)) := by
  obtain ⟨l1, l2, l3, l4, l5, l6, l7, l8, l9, l10⟩ := L
  refine ⟨by omega, l2, l3, l4, l5, fun a k x hx => ?_, ?_, ?_, l9, l10⟩
  · have e1 : ¬ (a = 4 ∧ k = 8) := fun z => by rw [z.1, z.2] at hx; cases hx
    have e2 : ¬ (a = 2 ∧ k = 3) := fun z => by rw [z.1, z.2] at hx; cases hx
    show (if a = 4 ∧ k = 8 then some v else if a = 2 ∧ k = 3 then some (30 - v) else cm_R w a k) = some x
    rw [if_neg e1, if_neg e2]
    exact l6 a k x hx
  · rfl
  · show some v = some (30 - (30 - v))
    rw [show 30 - (30 - v) = v by omega]
/-- the reference's copy of a text -/
theorem cp220 (hn : n ≤ 900) : ∀ d k, k + d = n → ∀ (x : cm_W) N, d < N → Lay v c x → ∃ y, fn_220_22 N 96 (nI n) (nI k) x = fn_220_45 96 (nI n) y ∧ Lay v c y ∧ (∀ a j, (a ≠ 113 ∨ j < k) → cm_I y a j = cm_I x a j) ∧ cm_L y = cm_L x ∧ ∀ j, k ≤ j → j < n → cm_I y 113 j = vp_nar .byte (cm_I x 112 j) := by
  intro d
  induction d with
  | zero =>
    intro k hk x N hN L
    obtain ⟨N, rfl⟩ : ∃ a, N = a + 1 := ⟨N - 1, by omega⟩
    refine ⟨x, ?_, L, fun _ _ _ => rfl, rfl, fun j h1 h2 => by omega⟩
    rw [fn_220_22, if_pos ((nI_leI (by omega) (by omega)).mpr (by omega))]
  | succ d ih =>
    intro k hk x N hN L
    obtain ⟨N, rfl⟩ : ∃ a, N = a + 1 := ⟨N - 1, by omega⟩
    have g : ∀ a, a = 112 ∨ a = 113 → cm_ga x .byte a (nI k) = true := fun a ha => by
      have : cm_sh x a = some (.inr (.byte, 900)) := by
        rcases ha with rfl | rfl <;> exact (L.sh (by decide) (by decide)).trans rfl
      rw [ga_of this]
      exact iin_nI (by omega) (by decide)
    obtain ⟨y, a1, a2, a3, a4, a5⟩ := ih (k + 1) (by omega) (cm_sI x 113 k (vp_nar .byte (cm_I x 112 k))) N (by omega) L
    refine ⟨y, ?_, a2, fun a j h => ?_, a4, fun j h1 h2 => ?_⟩
    · rw [fn_220_22, if_neg (fun h => by
        have := (nI_leI (by omega) (by omega)).mp h
        omega), if_pos (LM L).1, bd (show cm_R x 96 35 = some 113 from L.R rfl), bd (show cm_R x 96 34 = some 112 from L.R rfl), if_pos (g 112 (Or.inl rfl)), if_pos (show 2 ≤ 112 by omega), if_pos (g 113 (Or.inr rfl)), if_pos (show cm_w2 96 143 113 = true from rfl), tn_nI (by omega), show nI k + (1 : Int32) = nI (k + 1) from nI_1 k]
      exact a1
    · rw [a3 a j (by omega), I_if, if_neg (by omega)]
    · by_cases e : j = k
      · subst e
        rw [a3 _ _ (by omega), I_eq]
      · rw [a5 j (by omega) h2, I_ne (by omega)]
theorem r220 (L : Lay v c x) (M : RelM x s) (hA : s 96 9 = nI A) (hA9 : A ≤ 900) (hn : n ≤ A) (hnb : ∀ j, j < n → vp_nar .byte (s 112 j) = s 112 j) : ∃ x2, fn_220 96 (nI n) x = ((fn_218 96 x2).bind fun v18 => (if ¬ (cm_b v18.1) = 0 then fn_220_73 96 (cm_b v18.1) v18.2 else (if cm_sh v18.2 96 = some (.inl 11) then (fn_202 96 v18.2).bind fun w22 => fn_220_73 96 (cm_b v18.1) w22 else none))) ∧ RX v c (fun j => s 112 j) n (cm_up s 96 9 0) x2 x2 0 ∧ (∀ a, a < 96 → ∀ j, cm_I x2 a j = cm_I x a j) ∧ cm_L x2 = cm_L x := by
  have h9 : cm_I x 96 9 = nI A := ((RM M).1.2.2.2.2.2.2.2.2.1).trans hA
  have e194 : fn_194 x (nI n) 0 (nI A) = some true := by
    rw [fn_194, if_neg (nI_pos (by omega)), if_neg (fun h => by
      have := (nI_ltI (by omega) (by omega)).mp h
      omega)]
  obtain ⟨y, a1, a2, a3, a4, a5⟩ := cp220 (show n ≤ 900 by omega) n 0 (by omega) x cm_N (by unfold cm_N; omega) L
  have My : RelM y s := fun a k h => by
    rw [a3 a k (Or.inl (fun e => by subst e; cases h))]
    exact M a k h
  have M2 : RelM (cm_sI (cm_sI (cm_sI y 96 10 (nI n)) 96 9 (0 : Int32)) 96 11 (0 : Int32)) (cm_up s 96 9 0) := ((My.sI (by rfl)).up).sI (by rfl)
  have L2 : Lay v c (cm_sI (cm_sI (cm_sI y 96 10 (nI n)) 96 9 (0 : Int32)) 96 11 (0 : Int32)) := a2
  refine ⟨cm_sI (cm_sI (cm_sI y 96 10 (nI n)) 96 9 (0 : Int32)) 96 11 (0 : Int32), ?_, ⟨FM.rf L2 M2, ⟨?_, by omega, fun j hj => ?_⟩, ?_, by omega⟩, fun a ha j => ?_, ?_⟩
  · rw [fn_220, if_pos (LM L).1, h9, bd e194, if_pos (show ¬ cm_b true = 0 by decide), fn_220_20, show (0 : Int32) = nI 0 from rfl, a1, fn_220_45, if_pos (LM a2).1, if_pos (show cm_w2 96 143 96 = true from rfl)]
    rfl
  · rw [I_nk (by omega), I_nk (by omega), I_eq]
  · rw [I_ne (by omega), I_ne (by omega), I_ne (by omega), a5 j (by omega) hj, show cm_I x 112 j = s 112 j from M 112 j (decide_eq_true (by omega))]
    exact hnb j hj
  · rw [I_eq]; rfl
  · rw [I_ne (by omega), I_ne (by omega), I_ne (by omega), a3 a j (by omega)]
  · exact a4
theorem c141s (hv : v = 10 ∨ v = 20) (L : Lay v c w) (e86 : fn_86 4 3 (nI n) w = some (-1, w1)) (L1 : Lay v c w1) (h2 : cm_I w1 (30 - v + 5) 2 = nI P) (hP : P ≤ 12) (h0 : cm_I w1 (30 - v + 5) 0 = 3) : ∃ W, fn_141_21 2 (nI n) w = some (cm_I w1 (30 - v) 9, W) ∧ Lay (30 - v) c W ∧ (∀ a j, (a < 30 ∨ 41 ≤ a ∨ j = 0 ∧ a < 40) → (a ≠ 2 ∨ j ≠ 1 ∧ j ≠ 4 ∧ j ≠ 7) → cm_I W a j = cm_I w1 a j) ∧ cm_L W = cm_L w1 ∧ (cm_I W 2 1 = 0 ∧ cm_I W 2 4 = -1 ∧ cm_I W 2 7 = 0) ∧ (cm_I W 31 2 = 0 ∧ cm_I W 33 2 = 0 ∧ cm_I W 35 2 = 0 ∧ cm_I W 37 2 = 0 ∧ cm_I W 30 6 = 0) ∧ ∀ j, j < P → cm_I W 40 j = cm_I w1 (30 - v + 6) (3 * j + 1) := by
  have hu : 30 - v = 10 ∨ 30 - v = 20 := by omega
  have L2 : Lay v c (cm_sI (cm_sI w1 2 4 (-1)) 2 1 0) := L1
  have w22 : cm_w2 2 96 2 = true := rfl
  have w24 : cm_w2 2 96 4 = true := rfl
  have e1 : fn_141_21 2 (nI n) w = fn_141_56 2 (cm_sI (cm_sI w1 2 4 (-1)) 2 1 0) := by
    rw [fn_141_21, if_pos (LC L).1, bd (show cm_R w 2 2 = some 4 from L.R rfl), bd (show cm_R w 2 0 = some 3 from L.R rfl), if_pos (LD L).1, bd e86, if_pos (LC L1).1, if_pos w22, if_pos (show cm_I (cm_sI (cm_sI w1 2 4 (-1)) 2 1 0) 2 4 = (-1 : Int32) by rw [I_nk (by omega), I_eq])]
  have f2 : ∀ a j, (a ≠ 2 ∨ j ≠ 1 ∧ j ≠ 4) → cm_I (cm_sI (cm_sI w1 2 4 (-1)) 2 1 0) a j = cm_I w1 a j := fun a j h => by
    rw [I_if, if_neg (by omega), I_if, if_neg (by omega)]
  have i4 : cm_I (cm_sI (cm_sI w1 2 4 (-1)) 2 1 0) 2 4 = -1 := by rw [I_nk (by omega), I_eq]
  have i1 : cm_I (cm_sI (cm_sI w1 2 4 (-1)) 2 1 0) 2 1 = 0 := I_eq
  have z2 : cm_L (cm_sI (cm_sI w1 2 4 (-1)) 2 1 0) = cm_L w1 := rfl
  generalize cm_sI (cm_sI w1 2 4 (-1)) 2 1 0 = w2 at *
  have L3 := L2.sw
  have f3 : ∀ a j, cm_I (cm_sR (cm_sR w2 2 3 (some (30 - v))) 4 8 (some v)) a j = cm_I w2 a j := fun _ _ => rfl
  have z3 : cm_L (cm_sR (cm_sR w2 2 3 (some (30 - v))) 4 8 (some v)) = cm_L w2 := rfl
  obtain ⟨y, a1, a2, a3, a4, ⟨b1, b2, b3, b4, b5⟩, a6⟩ := beg95 L3 hu (by rw [f3, f2 _ _ (by omega)]; exact h2) hP (by rw [f3, f2 _ _ (by omega)]; exact h0)
  have e2 : fn_141_56 2 w2 = some (cm_I (cm_sI y 2 7 0) (30 - v) 9, cm_sI y 2 7 0) := by
    rw [fn_141_56, if_pos (LC L2).1, bd L2.2.2.2.2.2.2.1, bd (show cm_R w2 2 2 = some 4 from L2.R rfl), if_pos (LD L2).1, bd L2.2.2.2.2.2.2.2.1, if_pos w22, bd (show cm_R (cm_sR w2 2 3 (some (30 - v))) 2 2 = some 4 from L2.R rfl), if_pos (LD L2).1, if_pos w24, bd (show cm_R (cm_sR (cm_sR w2 2 3 (some (30 - v))) 4 8 (some v)) 2 5 = some 30 from L2.R rfl), bd (show cm_R (cm_sR (cm_sR w2 2 3 (some (30 - v))) 4 8 (some v)) 2 3 = some (30 - v) from rfl), if_pos (show cm_sh w2 30 = some (.inl 6) from (L2.sh (a := 30) (by decide) (by decide)).trans rfl), bd a1, if_pos (LC a2).1, if_pos w22, bd (show cm_R (cm_sI y 2 7 0) 2 3 = some (30 - v) from a2.2.2.2.2.2.2.1), if_pos (LV a2 hu).1]
  refine ⟨cm_sI y 2 7 0, ?_, a2, fun a j h h' => ?_, ?_, ⟨?_, ?_, I_eq⟩, ⟨?_, ?_, ?_, ?_, ?_⟩, fun j hj => ?_⟩
  · rw [e1, e2, I_ne (by omega), a3 _ _ (by omega), f3, f2 _ _ (by omega)]
  · rw [I_if, if_neg (by omega), a3 _ _ (by omega), f3, f2 _ _ (by omega)]
  · show cm_L y = _
    rw [a4, z3, z2]
  · rw [I_nk (by omega), a3 _ _ (by omega), f3, i1]
  · rw [I_nk (by omega), a3 _ _ (by omega), f3, i4]
  · rw [I_ne (by omega), b1]
  · rw [I_ne (by omega), b2]
  · rw [I_ne (by omega), b3]
  · rw [I_ne (by omega), b4]
  · rw [I_ne (by omega), b5]
  · rw [I_ne (by omega), a6 j hj, f3, f2 _ _ (by omega)]
end TAKE
