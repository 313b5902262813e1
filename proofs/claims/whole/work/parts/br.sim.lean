/-! a village's text, from its first sign to its last: both alike -/
def DZ (u : Nat) (w x : cm_W) (t P : Nat) : Prop := ∀ k, k < P → ((cm_I x 106 (12 + k) = 1 ∧ (∀ j, j < t → cm_I x 107 (8 * (12 + k) + j) = cm_I w (u + 7) (8 * k + j) ∧ rg (cm_I w (u + 7) (8 * k + j)) 100) ∧ ∃ j, j < t ∧ cm_I w (u + 7) (8 * k + j) ≠ 0) ∨ (cm_I x 106 (12 + k) = 0 ∧ ∀ j, j < t → cm_I w (u + 7) (8 * k + j) = 1)) ∧ cm_I w (u + 6) (3 * k + 2) = rsum u t w k
/-- told to the end -/
def FIN (v c v' c' : Nat) (b : Nat → Int32) (n : Nat) (s : St) (w x0 w1 x1 : cm_W) : Prop := Lay v c w1 ∧ FW0 v w w1 ∧ (∃ q, RX v' c' b n s x0 x1 q) ∧ ∃ t P Q m, DT (30 - v) w1 x1 t ∧ DP (30 - v) w1 x1 P ∧ DQ (30 - v) w1 x1 t Q ∧ DS (30 - v) w1 x1 m ∧ DZ (30 - v) w1 x1 t P
section SIM
variable {v c v' c' u n m q k p t P Q i j : Nat} {b : Nat → Int32} {w w' w0 x x' x0 y z y1 y2 y3 y4 y5 z1 : cm_W} {f : Int32} {s : St}
theorem z62 (hu : u = 10 ∨ u = 20) : ∀ d k, k + d = 96 → ∀ (w : cm_W) N, d < N → Lay v c w → ∃ y, fn_62_5 N (u + 7) 0 (nI k) (Int32.ofNat 96) w = some y ∧ Lay v c y ∧ (∀ a j, (a ≠ u + 7 ∨ j < k) → cm_I y a j = cm_I w a j) ∧ cm_L y = cm_L w ∧ ∀ j, k ≤ j → j < 96 → cm_I y (u + 7) j = 0 := by
  intro d
  induction d with
  | zero =>
    intro k hk w N hN L
    obtain ⟨N, rfl⟩ : ∃ a, N = a + 1 := ⟨N - 1, by omega⟩
    refine ⟨w, ?_, L, fun _ _ _ => rfl, rfl, fun j h1 h2 => by omega⟩
    rw [fn_62_5, if_pos (show Int32.ofNat 96 ≤ nI k from (nI_leI (a := 96) (by omega) (by omega)).mpr (by omega))]
  | succ d ih =>
    intro k hk w N hN L
    obtain ⟨N, rfl⟩ : ∃ a, N = a + 1 := ⟨N - 1, by omega⟩
    have g7 : cm_ga w .int (u + 7) (nI k) = true := by
      have : cm_sh w (u + 7) = some (.inr (.int, 96)) := by
        rcases hu with rfl | rfl <;> exact (L.sh (by decide) (by decide)).trans rfl
      rw [ga_of this]
      exact iin_nI (by omega) (by decide)
    obtain ⟨y, a1, a2, a3, a4, a5⟩ := ih (k + 1) (by omega) (cm_sI w (u + 7) k 0) N (by omega) L
    refine ⟨y, ?_, a2, fun a j h => ?_, a4, fun j h1 h2 => ?_⟩
    · rw [fn_62_5, if_neg (show ¬ Int32.ofNat 96 ≤ nI k from fun h => by
        have := (nI_leI (a := 96) (by omega) (by omega)).mp h
        omega), if_pos g7, if_pos (w2v hu (u + 7) (by omega) (by omega)).1, tn_nI (by omega), show nI k + (1 : Int32) = nI (k + 1) from nI_1 k]
      exact a1
    · rw [a3 a j (by omega), I_if, if_neg (by omega)]
    · by_cases e : j = k
      · subst e
        rw [a3 _ _ (by omega), I_eq]
      · exact a5 j (by omega) h2
theorem cl63 (L : Lay v c w) (hu : u = 10 ∨ u = 20) : ∃ y, fn_63 u w = some y ∧ Lay v c y ∧ (∀ a, (a < u ∨ u + 10 ≤ a) → ∀ j, cm_I y a j = cm_I w a j) ∧ cm_L y = cm_L w ∧ (cm_I y (u + 2) 2 = 0 ∧ cm_I y (u + 5) 2 = 0 ∧ cm_I y (u + 8) 2 = 0) ∧ (cm_I y (u + 2) 0 = cm_I w (u + 2) 0 ∧ cm_I y (u + 5) 0 = cm_I w (u + 5) 0 ∧ cm_I y (u + 8) 0 = cm_I w (u + 8) 0) ∧ (∀ j, j < 96 → cm_I y (u + 7) j = 0) ∧ cm_I y u 6 = 8 ∧ cm_I y u 7 = 8 ∧ cm_I y u 8 = 6 ∧ cm_I y u 9 = 0 := by
  have TB2 : TB 2 3 4 32 8 := Or.inl ⟨rfl, rfl, rfl, rfl, rfl⟩
  have TB5 : TB 5 6 3 36 12 := Or.inr (Or.inl ⟨rfl, rfl, rfl, rfl, rfl⟩)
  have TB8 : TB 8 9 3 18 6 := Or.inr (Or.inr ⟨rfl, rfl, rfl, rfl, rfl⟩)
  have V := LV L hu
  have s2 := (tv L hu TB2).1
  have s5 := (tv L hu TB5).1
  have s8 := (tv L hu TB8).1
  have w2 := (w2v hu (u + 2) (by omega) (by omega)).1
  have w5 := (w2v hu (u + 5) (by omega) (by omega)).1
  have w8 := (w2v hu (u + 8) (by omega) (by omega)).1
  have w0 := (w2v hu u (by omega) (by omega)).1
  have L1 : Lay v c (cm_sI (cm_sI (cm_sI w (u + 2) 2 0) (u + 5) 2 0) (u + 8) 2 0) := L
  generalize hw1 : cm_sI (cm_sI (cm_sI w (u + 2) 2 0) (u + 5) 2 0) (u + 8) 2 0 = w1 at L1
  have al7 : cm_al w1 (u + 7) = some 96 := by
    refine al_of (ty := .int) ?_
    rcases hu with rfl | rfl <;> exact (L1.sh (by decide) (by decide)).trans rfl
  obtain ⟨y, a1, a2, a3, a4, a5⟩ := z62 hu 96 0 rfl w1 cm_N (by unfold cm_N; omega) L1
  have e62 : fn_62 (u + 7) 0 w1 = some y := by rw [fn_62, bd al7]; exact a1
  have e : fn_63 u w = some (cm_sI (cm_sI (cm_sI (cm_sI y u 6 (8 : Int32)) u 7 (8 : Int32)) u 8 (6 : Int32)) u 9 (0 : Int32)) := by
    rw [fn_63, if_pos V.1, bd V.2.2.1, if_pos s2, if_pos w2, bd (show cm_R (cm_sI w (u + 2) 2 0) u 3 = some (u + 5) from V.2.2.2.2.1), if_pos s5, if_pos w5, bd (show cm_R (cm_sI (cm_sI w (u + 2) 2 0) (u + 5) 2 0) u 5 = some (u + 8) from V.2.2.2.2.2.2.1), if_pos s8, if_pos w8, hw1, bd (LV L1 hu).2.2.2.2.2.1, bd e62, if_pos (LV a2 hu).1, if_pos w0]
  have f : ∀ a j, a ≠ u → a ≠ u + 7 → cm_I (cm_sI (cm_sI (cm_sI (cm_sI y u 6 (8 : Int32)) u 7 (8 : Int32)) u 8 (6 : Int32)) u 9 (0 : Int32)) a j = cm_I w1 a j := fun a j h h7 => by
    rw [I_ne h, I_ne h, I_ne h, I_ne h, a3 a j (by omega)]
  refine ⟨_, e, a2, fun a h j => ?_, ?_, ⟨?_, ?_, ?_⟩, ⟨?_, ?_, ?_⟩, fun j hj => ?_, ?_, ?_, ?_, I_eq⟩
  · rw [f a j (by omega) (by omega), ← hw1, I_ne (by omega), I_ne (by omega), I_ne (by omega)]
  · show cm_L y = cm_L w
    rw [a4, ← hw1]; rfl
  · rw [f _ _ (by omega) (by omega), ← hw1, I_ne (by omega), I_ne (by omega), I_eq]
  · rw [f _ _ (by omega) (by omega), ← hw1, I_ne (by omega), I_eq]
  · rw [f _ _ (by omega) (by omega), ← hw1, I_eq]
  · rw [f _ _ (by omega) (by omega), ← hw1, I_ne (by omega), I_ne (by omega), I_nk (by omega)]
  · rw [f _ _ (by omega) (by omega), ← hw1, I_ne (by omega), I_nk (by omega), I_ne (by omega)]
  · rw [f _ _ (by omega) (by omega), ← hw1, I_nk (by omega), I_ne (by omega), I_ne (by omega)]
  · rw [I_ne (by omega), I_ne (by omega), I_ne (by omega), I_ne (by omega)]; exact a5 j (by omega) hj
  · rw [I_nk (by omega), I_nk (by omega), I_nk (by omega), I_eq]
  · rw [I_nk (by omega), I_nk (by omega), I_eq]
  · rw [I_nk (by omega), I_eq]
theorem start86 (hv : v = 10 ∨ v = 20) (L : Lay v c w) (hn : n ≤ 900) (hb : ∀ j, j < n → cm_I w 3 j = b j) (h0 : cm_I w (30 - v + 2) 0 = 4 ∧ cm_I w (30 - v + 5) 0 = 3 ∧ cm_I w (30 - v + 8) 0 = 3) (R : RX v' c' b n s x0 x 0) : ∃ y z p, fn_86 4 3 (nI n) w = fn_86_36 cm_N 4 0 y ∧ fn_218 96 x = fn_218_42 cm_N 96 z ∧ SR v c v' c' b n s w x0 y z p 0 0 0 0 ∧ RX v' c' b n s x0 z p := by
  have hu : 30 - v = 10 ∨ 30 - v = 20 := by omega
  obtain ⟨y1, M, a1, F1, T1⟩ := t61 L hb hn
  obtain ⟨y2, b1, b2, b3, b4, ⟨b5, b6, b7⟩, ⟨c5, c6, c7⟩, b8, d6, d7, d8, d9⟩ := cl63 F1.1 hu
  have w2 : cm_w2 4 30 4 = true := rfl
  have al3 : cm_al w 3 = some 900 := al_of (ty := .byte) ((L.sh (a := 3) (by decide) (by decide)).trans rfl)
  have ei : (if (if (Int32.ofNat 900) < (900 : Int32) then (Int32.ofNat 900) else (900 : Int32)) < nI n then (if (Int32.ofNat 900) < (900 : Int32) then (Int32.ofNat 900) else (900 : Int32)) else nI n) = nI n := by
    rw [if_neg (show ¬ Int32.ofNat 900 < (900 : Int32) by decide), if_neg (show ¬ (900 : Int32) < nI n from fun h => by
      have := (nI_ltI (a := 900) (by omega) (by omega)).mp h
      omega)]
  have e : fn_86 4 3 (nI n) w = fn_86_36 cm_N 4 0 (cm_sI (cm_sI y2 4 6 0) 4 7 (-1)) := by
    rw [fn_86, bd al3, if_pos (LD L).1, ei, bd a1, if_pos (LD F1.1).1, bd F1.1.2.2.2.2.2.2.2.1, if_pos (LV F1.1 hu).1, bd b1, if_pos (LD b2).1, if_pos w2]
  have Rz : RX v' c' b n s x0 (cm_sI (cm_sI (cm_sI (cm_sI (cm_sI (cm_sI (cm_sI x 96 13 (0 : Int32)) 96 14 (0 : Int32)) 96 15 (0 : Int32)) 96 16 (0 : Int32)) 96 17 (8 : Int32)) 96 18 (8 : Int32)) 96 19 (6 : Int32)) 0 := ((((((R.sI (k := 13) (by omega) rfl).sI (k := 14) (by omega) rfl).sI (k := 15) (by omega) rfl).sI (k := 16) (by omega) rfl).sI (k := 17) (by omega) rfl).sI (k := 18) (by omega) rfl).sI (by omega) rfl
  generalize hz0 : cm_sI (cm_sI (cm_sI (cm_sI (cm_sI (cm_sI (cm_sI x 96 13 (0 : Int32)) 96 14 (0 : Int32)) 96 15 (0 : Int32)) 96 16 (0 : Int32)) 96 17 (8 : Int32)) 96 18 (8 : Int32)) 96 19 (6 : Int32) = z0 at Rz
  obtain ⟨z1, g1, G1, h11, -, -⟩ := blanks_ok Rz.L Rz.2.1 Rz.2.2.2 Rz.2.2.1
  have R1 := Rz.X G1 h11 (sk_le (Nat.zero_le _))
  have er : fn_218 96 x = fn_218_42 cm_N 96 z1 := by
    rw [fn_218, if_pos (LM R.L).1, if_pos (show cm_w2 96 143 96 = true from rfl), hz0, bd g1]
  have zz : ∀ j, 13 ≤ j → j ≤ 19 → cm_I z1 96 j = cm_I z0 96 j := fun j h1 h2 => G1.2.2.1 j (by omega) (by omega) (by omega)
  refine ⟨_, z1, sk b n 0, e, er, ⟨⟨b2, ?_, ?_⟩, ⟨_, R1, sk_sk b n 0⟩, ?_, ?_, ?_, ?_, ?_⟩, R1⟩
  · intro a ha
    refine ⟨fun j => ?_, fun j => ?_⟩
    · rw [I_ne (by omega), I_ne (by omega), b3 a (by omega), (F1.2.1 a (by omega)).1]
    · show cm_L y2 a j = _
      rw [b4, (F1.2.1 a (by omega)).2]
  · refine ⟨0, M, T1.eq ?_ (fun a h1 h2 j => ?_) (fun j => ?_), by have := T1.2.1; omega, rfl, ?_, I_eq⟩
    · rw [I_nk (by omega), I_nk (by omega), b3 _ (by omega)]
    · rw [I_ne (by omega), I_ne (by omega), b3 _ (by omega)]
    · show cm_L y2 8 j = _
      rw [b4]
    · rw [I_nk (by omega), I_eq]; rfl
  · refine ⟨by omega, ?_, ?_, ?_, fun k hk => by omega⟩
    · rw [I_ne (by omega), I_ne (by omega)]; exact b5
    · rw [I_ne (by omega), I_ne (by omega), c5, (F1.2.1 _ (by omega)).1]; exact h0.1
    · rw [zz _ (by omega) (by omega), ← hz0]; rfl
  · refine ⟨by omega, ?_, ?_, ?_, fun k hk => by omega⟩
    · rw [I_ne (by omega), I_ne (by omega)]; exact b6
    · rw [I_ne (by omega), I_ne (by omega), c6, (F1.2.1 _ (by omega)).1]; exact h0.2.1
    · rw [zz _ (by omega) (by omega), ← hz0]; rfl
  · have e7 : ∀ k, k < 12 → ∀ j, j < 8 → cm_I (cm_sI (cm_sI y2 4 6 0) 4 7 (-1)) (30 - v + 7) (8 * k + j) = 0 := fun k hk j hj => by
      rw [I_ne (by omega), I_ne (by omega)]; exact b8 _ (by omega)
    refine ⟨fun k hk j hj => ?_, fun k hk hk2 j hj => e7 k hk2 j hj, fun k hk => by omega⟩
    rw [e7 k hk j hj]
    exact ⟨⟨0, by omega, rfl⟩, fun _ => rfl⟩
  · refine ⟨by omega, ?_, ?_, ?_, fun k hk => by omega⟩
    · rw [I_ne (by omega), I_ne (by omega)]; exact b7
    · rw [I_ne (by omega), I_ne (by omega), c7, (F1.2.1 _ (by omega)).1]; exact h0.2.2
    · rw [zz _ (by omega) (by omega), ← hz0]; rfl
  · have q9 : cm_I z1 96 16 = 0 := by rw [zz _ (by omega) (by omega), ← hz0]; rfl
    have q17 : cm_I z1 96 17 = 8 := by rw [zz _ (by omega) (by omega), ← hz0]; rfl
    have q18 : cm_I z1 96 18 = 8 := by rw [zz _ (by omega) (by omega), ← hz0]; rfl
    have q19 : cm_I z1 96 19 = 6 := by rw [zz _ (by omega) (by omega), ← hz0]; rfl
    unfold DS
    rw [q9, q17, q18, q19]
    refine ⟨?_, rfl, by omega, ⟨?_, 8, by omega, rfl⟩, ⟨?_, 8, by omega, rfl⟩, ⟨?_, 6, by omega, rfl⟩⟩
    · rw [I_ne (by omega), I_ne (by omega)]; exact d9
    · rw [I_ne (by omega), I_ne (by omega)]; exact d6
    · rw [I_ne (by omega), I_ne (by omega)]; exact d7
    · rw [I_ne (by omega), I_ne (by omega)]; exact d8
end SIM
