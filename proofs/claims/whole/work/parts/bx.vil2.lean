/-! a village: all of it -/
section VIL2
variable {v c v' c' u n m q k p t P Q A j : Nat} {b : Nat → Int32} {w w1 W w' w0 x x1 x' x0 y z : cm_W} {f : Int32} {s s1 s' : St}
theorem vil_no (g : GG v c w s) (i : Int32) (h : i < 0 ∨ ¬ i ≤ s 96 9) : OKW (fn_141 2 i) (fn_220 96 i) w := by
  obtain ⟨L, M, C, Z, I⟩ := id g
  have e9 := C.1.1
  have e12 : fn_141_12 2 w = some (-2, cm_sI w 42 0 (cm_I w 42 0 + 1)) := by
    rw [fn_141_12, if_pos (LC L).1, c140 L (k := 0) (by decide)]
    rfl
  refine ok_ref g 0 (by omega) (r := -2) ?_ (fun w1 L1 M1 _ => ?_)
  · rw [fn_141, e12]
    by_cases z : i < 0
    · rw [if_pos z]
    · rw [if_neg z, if_pos (LC L).1, e9, if_neg (h.resolve_left z)]
  · have e9' : cm_I w1 96 9 = s 96 9 := M1 96 9 rfl
    have e194 : fn_194 w1 i 0 (cm_I w1 96 9) = some false := by
      rw [fn_194, e9']
      by_cases z : i < 0
      · rw [if_pos z]
      · rw [if_neg z, if_pos (Int32.not_le.mp (h.resolve_left z))]
    rw [fn_220, if_pos (LM L1).1, bd e194, if_neg (show ¬ ¬ cm_b false = 0 by decide), m199 L1 (k := 0) (by decide)]
    rfl
theorem vil_bad (g : GG v c w s) (hA : s 96 9 = nI A) (hA9 : A ≤ 900) (hn : n ≤ A) (hnb : ∀ j, j < n → vp_nar .byte (s 112 j) = s 112 j) (hb : ∀ j, j < n → cm_I w 3 j = s 112 j) (e86 : fn_86 4 3 (nI n) w = some (f, w1)) (hf : f ≠ -1) (L1 : Lay v c w1) (FW : FW0 v w w1) (D : WD (30 - v) w1) (h0 : cm_I w (30 - v + 2) 0 = 4 ∧ cm_I w (30 - v + 5) 0 = 3 ∧ cm_I w (30 - v + 8) 0 = 3) (e141 : fn_141 2 (nI n) w = fn_141_21 2 (nI n) w) : OKW (fn_141 2 (nI n)) (fn_220 96 (nI n)) w := by
  obtain ⟨L, M, C, Z, I⟩ := id g
  have hv := L.1
  have hu : 30 - v = 10 ∨ 30 - v = 20 := by omega
  have L2 : Lay v c (cm_sI (cm_sI w1 2 4 f) 2 1 0) := L1
  have eX : fn_141 2 (nI n) w = some (-1, cm_sI (cm_sI (cm_sI w1 2 4 f) 2 1 0) 42 2 (cm_I (cm_sI (cm_sI w1 2 4 f) 2 1 0) 42 2 + 1)) := by
    rw [e141, fn_141_21, if_pos (LC L).1, bd (show cm_R w 2 2 = some 4 from L.R rfl), bd (show cm_R w 2 0 = some 3 from L.R rfl), if_pos (LD L).1, bd e86, if_pos (LC L1).1, if_pos (show cm_w2 2 96 2 = true from rfl), if_neg (show ¬ cm_I (cm_sI (cm_sI w1 2 4 f) 2 1 0) 2 4 = (-1 : Int32) by rw [I_nk (by omega), I_eq]; exact hf), c140 L2 (k := 2) (by decide)]
    rfl
  have LW : Lay v c (cm_sI (cm_sI (cm_sI w1 2 4 f) 2 1 0) 42 2 (cm_I (cm_sI (cm_sI w1 2 4 f) 2 1 0) 42 2 + 1)) := L1
  have e42 : cm_I (cm_sI (cm_sI w1 2 4 f) 2 1 0) 42 2 = s 97 2 := by
    rw [I_ne (by omega), I_ne (by omega), (FW 42 (by omega)).1]; exact C.1.2.2.2.1 2 (by omega)
  rw [e42] at eX LW
  have WL : cm_L (cm_sI (cm_sI (cm_sI w1 2 4 f) 2 1 0) 42 2 (s 97 2 + 1)) = cm_L w1 := rfl
  have WI : ∀ a j, (a ≠ 2 ∨ j ≠ 1 ∧ j ≠ 4) → (a ≠ 42 ∨ j ≠ 2) → cm_I (cm_sI (cm_sI (cm_sI w1 2 4 f) 2 1 0) 42 2 (s 97 2 + 1)) a j = cm_I w1 a j := fun a j h1 h2 => by
    rw [I_if, if_neg (by omega), I_if, if_neg (by omega), I_if, if_neg (by omega)]
  have W1 : cm_I (cm_sI (cm_sI (cm_sI w1 2 4 f) 2 1 0) 42 2 (s 97 2 + 1)) 2 1 = 0 := by rw [I_ne (by omega), I_eq]
  have W4 : cm_I (cm_sI (cm_sI (cm_sI w1 2 4 f) 2 1 0) 42 2 (s 97 2 + 1)) 2 4 = f := by rw [I_ne (by omega), I_nk (by omega), I_eq]
  have W42 : cm_I (cm_sI (cm_sI (cm_sI w1 2 4 f) 2 1 0) 42 2 (s 97 2 + 1)) 42 2 = s 97 2 + 1 := I_eq
  generalize cm_sI (cm_sI (cm_sI w1 2 4 f) 2 1 0) 42 2 (s 97 2 + 1) = W at *
  have MW : RelM W s := fun a k h => by
    have ha : 96 ≤ a := by
      by_cases z : 96 ≤ a
      · exact z
      · exfalso
        have hlt : a < 96 := by omega
        have : ∀ a : Fin 96, ∀ k, mt a.1 k = false := by
          intro a k
          rcases a with ⟨a, ha⟩
          unfold mt
          split <;> first | rfl | omega
        rw [this ⟨a, hlt⟩ k] at h
        cases h
    rw [WI _ _ (by omega) (by omega), (FW a (by omega)).1]
    exact M a k h
  obtain ⟨x2, b1, R2, b3, b4⟩ := r220 LW MW hA hA9 hn hnb
  obtain ⟨f', w1', r, x1, c1, c2, c3⟩ := sim86 hv L (show n ≤ 900 by omega) hb hnb h0 R2
  have ee := c1.symm.trans e86
  have ef : f' = f := congrArg Prod.fst (Option.some.inj ee)
  have ew : w1' = w1 := congrArg Prod.snd (Option.some.inj ee)
  subst ef
  subst ew
  rcases c3 with ⟨-, h, -⟩ | ⟨rfl, q, fq, -, -, -, R3⟩
  · exact absurd h hf
  obtain ⟨z, d1, G, h11, -, -⟩ := blanks_ok R3.L R3.2.1 R3.2.2.2 R3.2.2.1
  have Rz := R3.X G h11 (sk_le R3.2.2.2)
  obtain ⟨Lz, Mz, F3, F4, F5⟩ := Rz.1
  rw [← fq] at h11
  have z97 : cm_I z 97 2 = s 97 2 := Mz 97 2 rfl
  have Lz2 : Lay v c (cm_sI z 96 12 f') := Lz
  refine ⟨-1, W, cm_sI (cm_sI z 96 12 f') 97 2 (s 97 2 + 1), v, c, cm_up (cm_up (cm_up s 96 9 0) 96 12 f') 97 2 (s 97 2 + 1), eX, ?_, ?_⟩
  · rw [b1, bd c2, if_neg (show ¬ ¬ cm_b false = 0 by decide), if_pos (LM R3.L).1, bd d1]
    show fn_220_73 96 0 z = _
    rw [fn_220_73, if_pos rfl, if_pos (LM Lz).1, if_pos (show cm_w2 96 143 96 = true from rfl), if_neg (fun h => h rfl), h11, m199 Lz2 (k := 2) (by decide)]
    show some (-1, cm_sI (cm_sI z 96 12 f') 97 2 (cm_I (cm_sI z 96 12 f') 97 2 + 1)) = _
    rw [I_ne (by omega), z97]
  · have yI : ∀ a, a < 96 → ∀ j, cm_I (cm_sI (cm_sI z 96 12 f') 97 2 (s 97 2 + 1)) a j = cm_I W a j := fun a ha j => by
      rw [I_ne (by omega), I_ne (by omega), (F3 a ha).1, b3 a ha]
    have yo : ∀ a j, (a < 4 ∨ v ≤ a ∧ a < v + 10 ∨ 30 ≤ a ∧ a < 96) → (a ≠ 2 ∨ j ≠ 1 ∧ j ≠ 4) → (a ≠ 42 ∨ j ≠ 2) → cm_I (cm_sI (cm_sI z 96 12 f') 97 2 (s 97 2 + 1)) a j = cm_I w a j := fun a j h h1 h2 => by
      rw [yI a (by omega), WI a j h1 h2, (FW a (by omega)).1]
    have nA' : nA (cm_up (cm_up (cm_up s 96 9 0) 96 12 f') 97 2 (s 97 2 + 1)) = 0 := rfl
    refine G_oth g Lz2 ((Mz.up).up) (fun a k => ?_) ⟨?_, ?_, ?_, fun k hk => ?_, fun k hk => ?_⟩ (fun a h1 h2 j => yo a j (by omega) (by omega) (by omega)) (fun a h1 h2 j => yo a j (by omega) (by omega) (by omega)) (fun a h1 h2 j => yo a j (by omega) (by omega) (by omega)) ⟨?_, ?_, ?_⟩ ⟨?_, ?_, fun i hi => ?_, fun i => ?_⟩ ⟨?_, ?_⟩
    · by_cases h : a = 112 ∨ a = 97 ∨ a = 96 ∧ (k = 9 ∨ k = 12)
      · exact Or.inl h
      · right
        show (if a = 97 ∧ k = 2 then _ else if a = 96 ∧ k = 12 then _ else if a = 96 ∧ k = 9 then _ else s a k) = s a k
        rw [if_neg (by omega), if_neg (by omega), if_neg (by omega)]
    · rw [yI _ (by omega), W1]; rfl
    · rw [yI _ (by omega), W4]; rfl
    · rw [yo _ _ (by omega) (by omega) (by omega)]
    · rw [yI _ (by omega)]
      show _ = if 97 = 97 ∧ k = 2 then s 97 2 + 1 else if 97 = 96 ∧ k = 12 then _ else if 97 = 96 ∧ k = 9 then _ else s 97 k
      by_cases z : k = 2
      · rw [if_pos ⟨rfl, z⟩, z, W42]
      · rw [if_neg (by omega), if_neg (by omega), if_neg (by omega), WI _ _ (by omega) (by omega), (FW 42 (by omega)).1]
        exact C.1.2.2.2.1 k hk
    · rw [nA'] at hk; omega
    · rw [yI _ (by omega), WI _ _ (by omega) (by omega)]; exact D.2.2.2.1
    · rw [yI _ (by omega), WI _ _ (by omega) (by omega)]; exact D.2.2.2.2.1
    · rw [yI _ (by omega), WI _ _ (by omega) (by omega)]; exact D.2.2.2.2.2
    · show cm_L z 30 7 = _
      rw [(F3 30 (by omega)).2, b4, WL, (FW 30 (by omega)).2]
    · show cm_L z 96 71 = _
      rw [F5, b4, WL, (FW 96 (by omega)).2]
    · show cm_L z (63 + 11 * i) 7 = _
      rw [(F3 _ (by omega)).2, b4, WL, (FW _ (by omega)).2]
    · show cm_L z 142 i = _
      rw [F4, b4, WL, (FW 142 (by omega)).2]
    · rw [nA']; rfl
    · rw [nA']; omega
theorem w_village (g : GG v c w s) (N : NB w) (i : Int32) : OKW (fn_141 2 i) (fn_220 96 i) w := by
  obtain ⟨L, M, C, Z, I⟩ := id g
  have hv := L.1
  have hA := I.2.2.1
  have e9 := C.1.1
  rcases i32_cs i with h | ⟨n, hn2, rfl⟩
  · exact vil_no g i (Or.inl h)
  obtain ⟨A, hA9, eA, enA⟩ : ∃ A, A ≤ 900 ∧ s 96 9 = nI A ∧ nA s = A := ⟨nA s, hA.2, hA.1, rfl⟩
  by_cases hn : n ≤ A
  rotate_left
  · exact vil_no g _ (Or.inr (by rw [eA]; exact fun h => hn ((nI_leI (by omega) (by omega)).mp h)))
  have e141 : fn_141 2 (nI n) w = fn_141_21 2 (nI n) w := by
    rw [fn_141, if_neg (nI_pos (by omega)), if_pos (LC L).1, e9, eA, if_pos ((nI_leI (by omega) (by omega)).mpr hn)]
  have hb : ∀ j, j < n → cm_I w 3 j = s 112 j := fun j hj => C.1.2.2.2.2 j (by omega)
  have hnb : ∀ j, j < n → vp_nar .byte (s 112 j) = s 112 j := fun j hj => by
    have h1 : cm_I w 112 j = s 112 j := M 112 j (decide_eq_true (by omega))
    rw [← h1]; exact N.2.2 j
  have h0 := C.2.2.2.2.2
  obtain ⟨x2, b1, R2, b3, b4⟩ := r220 L M eA hA9 hn hnb
  obtain ⟨f, w1, r, x1, c1, c2, c3⟩ := sim86 hv L (show n ≤ 900 by omega) hb hnb h0 R2
  rcases c3 with ⟨-, rfl, FN⟩ | ⟨-, q, fq, L1, FW, D, R1⟩
  rotate_left
  · have hf : f ≠ -1 := by
      rw [fq]
      exact nI_n1 (Nat.le_trans (sk_le R1.2.2.2) (by omega))
    exact vil_bad g eA hA9 hn hnb hb c1 hf L1 FW D h0 e141
  obtain ⟨L1, FW, -, t, P, Q, m, T, Pp, Qq, D, Z1⟩ := FN
  obtain ⟨W, g1, LW, WI, WL, W2, W3, W4⟩ := c141s hv L c1 L1 Pp.2.1 Pp.1 Pp.2.2.1
  have MW : RelM W s := fun a k h => by
    have ha : 96 ≤ a := by
      by_cases z : 96 ≤ a
      · exact z
      · exfalso
        have hlt : a < 96 := by omega
        have : ∀ a : Fin 96, ∀ k, mt a.1 k = false := by
          intro a k
          rcases a with ⟨a, ha⟩
          unfold mt
          split <;> first | rfl | omega
        rw [this ⟨a, hlt⟩ k] at h
        cases h
    rw [WI _ _ (by omega) (by omega), (FW a (by omega)).1]
    exact M a k h
  obtain ⟨x3, k1, R3, k3, k4⟩ := r220 LW MW eA hA9 hn hnb
  obtain ⟨f', w1', r', x4, d1, d2, d3⟩ := sim86 hv L (show n ≤ 900 by omega) hb hnb h0 R3
  have ee := d1.symm.trans c1
  have ef : f' = -1 := congrArg Prod.fst (Option.some.inj ee)
  have ew : w1' = w1 := congrArg Prod.snd (Option.some.inj ee)
  subst ew
  rcases d3 with ⟨rfl, -, FN⟩ | ⟨-, q, fq, -, -, -, R4⟩
  rotate_left
  · exact absurd (fq.symm.trans ef) (nI_n1 (Nat.le_trans (sk_le R4.2.2.2) (by omega)))
  obtain ⟨-, -, ⟨q, Rq⟩, t', P', Q', m', T', Pp', Qq', D', Z'⟩ := FN
  have hP' : P = P' := by
    have h1 := Pp.2.1
    have h2 := Pp'.2.1
    have l1 := Pp.1
    have l2 := Pp'.1
    exact (nI_eq (by omega) (by omega)).mp (h1.symm.trans h2)
  subst hP'
  obtain ⟨y, e1, Gy⟩ := G_new g FW LW WI WL W2 W3 W4 T' Pp' Qq' D' Z' Rq.1 k3 k4 rfl (fun k => if_neg (by omega))
  refine ⟨_, W, y, 30 - v, c, cm_I y, by rw [e141]; exact g1, ?_, Gy⟩
  rw [k1, bd d2, if_pos (show ¬ cm_b true = 0 by decide)]
  exact e1
end VIL2
