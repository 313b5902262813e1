/-! what each one's shares come to, by the class -/
def rsum (u t : Nat) (w : cm_W) (e : Nat) : Int32 := fup (fun j a => a + cm_I w (u + 7) (8 * e + j)) 0 t
def ROW (u t : Nat) (y y1 : cm_W) (e : Nat) : Prop := (rsum u t y e ≠ 0 → ∀ j, j < 8 → cm_I y1 (u + 7) (8 * e + j) = cm_I y (u + 7) (8 * e + j)) ∧ (rsum u t y e = 0 → ∀ j, j < t → cm_I y1 (u + 7) (8 * e + j) = 1) ∧ cm_I y1 (u + 6) (3 * e + 2) = if rsum u t y e = 0 then nI t else rsum u t y e
section SUMS
variable {v c u n m q k p t P Q i j : Nat} {b : Nat → Int32} {w w' w0 x x' x0 y z y1 y2 y3 y4 y5 z1 : cm_W} {f : Int32} {s : St}
theorem add84 (L : Lay v c w) (hu : u = 10 ∨ u = 20) (h2t : cm_I w (u + 2) 2 = nI t) (ht : t ≤ 8) (h2 : cm_I w (u + 5) 2 = nI P) (hP : P ≤ 12) (hk : k < P) : ∀ d j N, j + d = t → d < N → fn_84_4 w N u (nI k) (fup (fun j a => a + cm_I w (u + 7) (8 * k + j)) 0 j) (nI j) = some (rsum u t w k) := by
  have TBt : TB 2 3 4 32 8 := Or.inl ⟨rfl, rfl, rfl, rfl, rfl⟩
  intro d
  induction d with
  | zero =>
    intro j N h1 h2'
    obtain ⟨N, rfl⟩ : ∃ a, N = a + 1 := ⟨N - 1, by omega⟩
    obtain rfl : j = t := by omega
    rw [fn_84_4, if_pos (LV L hu).1, bd (LV L hu).2.2.1, if_pos (tv L hu TBt).1, h2t, if_pos ((nI_leI (by omega) (by omega)).mpr (Nat.le_refl _))]
    rfl
  | succ d ih =>
    intro j N h1 h2'
    obtain ⟨N, rfl⟩ : ∃ a, N = a + 1 := ⟨N - 1, by omega⟩
    have f8 := fn8_t hu L h2 hP h2t ht (nI k) (j := j) (by omega)
    rw [iin_nI hk (by omega), if_pos rfl, tn_nIe (by omega)] at f8
    rw [fn_84_4, if_pos (LV L hu).1, bd (LV L hu).2.2.1, if_pos (tv L hu TBt).1, h2t, if_neg (fun h => by
      have := (nI_leI (by omega) (by omega)).mp h
      omega), bd f8, show nI j + (1 : Int32) = nI (j + 1) from nI_1 j]
    exact ih (j + 1) N (by omega) (by omega)
/-- a share of every THING -/
theorem ones (hu : u = 10 ∨ u = 20) (ht : t ≤ 8) (hP : P ≤ 12) (hk : k < P) {K : Nat → Int32 → cm_W → Option cm_W} : ∀ d j, j + d = t → ∀ (w : cm_W) N, d < N → Lay v c w → cm_I w (u + 2) 2 = nI t → cm_I w (u + 5) 2 = nI P → ∃ y, fn_85_21 K N u (nI k) 0 (nI j) w = fn_85_49 K u (nI k) 0 y ∧ Lay v c y ∧ (∀ a i, (a ≠ u + 7 ∨ i < 8 * k + j ∨ 8 * k + t ≤ i) → cm_I y a i = cm_I w a i) ∧ cm_L y = cm_L w ∧ ∀ i, j ≤ i → i < t → cm_I y (u + 7) (8 * k + i) = 1 := by
  have TBt : TB 2 3 4 32 8 := Or.inl ⟨rfl, rfl, rfl, rfl, rfl⟩
  intro d
  induction d with
  | zero =>
    intro j hj w N hN L h2t h2
    obtain ⟨N, rfl⟩ : ∃ a, N = a + 1 := ⟨N - 1, by omega⟩
    refine ⟨w, ?_, L, fun _ _ _ => rfl, rfl, fun i h1 h2 => by omega⟩
    rw [fn_85_21, if_pos (LV L hu).1, bd (LV L hu).2.2.1, if_pos (tv L hu TBt).1, h2t, if_pos ((nI_leI (by omega) (by omega)).mpr (by omega))]
  | succ d ih =>
    intro j hj w N hN L h2t h2
    obtain ⟨N, rfl⟩ : ∃ a, N = a + 1 := ⟨N - 1, by omega⟩
    have s7 := shr77 L hu h2 hP (nI k) (j := j) (by omega) (1 : Int32)
    rw [iin_nI hk (by omega), if_pos rfl, tn_nIe (by omega)] at s7
    obtain ⟨y, a1, a2, a3, a4, a5⟩ := ih (j + 1) (by omega) (cm_sI w (u + 7) (8 * k + j) 1) N (by omega) L (by rw [I_ne (by omega)]; exact h2t) (by rw [I_ne (by omega)]; exact h2)
    refine ⟨y, ?_, a2, fun a i h => ?_, a4, fun i h1 h3 => ?_⟩
    · rw [fn_85_21, if_pos (LV L hu).1, bd (LV L hu).2.2.1, if_pos (tv L hu TBt).1, h2t, if_neg (fun h => by
        have := (nI_leI (by omega) (by omega)).mp h
        omega), if_neg (show ¬ ¬ (0 : Int32) = 0 from fun h => h rfl), bd s7, show nI j + (1 : Int32) = nI (j + 1) from nI_1 j]
      exact a1
    · rw [a3 a i (by omega), I_if, if_neg (by omega)]
    · by_cases e : i = j
      · subst e
        rw [a3 _ _ (by omega), I_eq]
      · exact a5 i (by omega) h3
theorem e49 (L : Lay v c w) (hu : u = 10 ∨ u = 20) (h2t : cm_I w (u + 2) 2 = nI t) (h0 : cm_I w (u + 5) 0 = 3) (h2 : cm_I w (u + 5) 2 = nI P) (hP : P ≤ 12) (hk : k < P) {K : Nat → Int32 → cm_W → Option cm_W} (i2 : Int32) : fn_85_49 K u (nI k) i2 w = K u (nI (k + 1)) (cm_sI w (u + 6) (3 * k + 2) (if i2 = 0 then nI t else i2)) := by
  have TBt : TB 2 3 4 32 8 := Or.inl ⟨rfl, rfl, rfl, rfl, rfl⟩
  have TBp : TB 5 6 3 36 12 := Or.inr (Or.inl ⟨rfl, rfl, rfl, rfl, rfl⟩)
  have s2 : ∀ i : Int32, fn_72 (u + 5) (nI k) (2 : Int32) i w = some (cm_sI w (u + 6) (3 * k + 2) i) := fun i => tS L hu TBp h0 h2 hP hk (j := 2) (by omega)
  rw [fn_85_49, if_pos (LV L hu).1, bd (LV L hu).2.2.2.2.1, bd (LV L hu).2.2.1, if_pos (tv L hu TBt).1, if_pos (tv L hu TBp).1, if_pos (tv L hu TBp).1, h2t, bd (s2 _), bd (s2 _), show nI k + (1 : Int32) = nI (k + 1) from nI_1 k]
  by_cases z : i2 = 0
  · rw [if_neg (fun h => h z), if_pos z]
  · rw [if_pos z, if_neg z]
theorem sum85 (hu : u = 10 ∨ u = 20) (ht : t ≤ 8) (hP : P ≤ 12) : ∀ d k, k + d = P → ∀ (y : cm_W) N, d < N → Lay v c y → cm_I y (u + 2) 2 = nI t → cm_I y (u + 5) 2 = nI P → cm_I y (u + 5) 0 = 3 → ∃ y1, fn_85_2 N u (nI k) y = some y1 ∧ Lay v c y1 ∧ (∀ a j, a ≠ u + 6 → a ≠ u + 7 → cm_I y1 a j = cm_I y a j) ∧ cm_L y1 = cm_L y ∧ (∀ j, (∀ e, k ≤ e → j ≠ 3 * e + 2) → cm_I y1 (u + 6) j = cm_I y (u + 6) j) ∧ (∀ j, j < 8 * k → cm_I y1 (u + 7) j = cm_I y (u + 7) j) ∧ ∀ e, k ≤ e → e < P → ROW u t y y1 e := by
  have TBp : TB 5 6 3 36 12 := Or.inr (Or.inl ⟨rfl, rfl, rfl, rfl, rfl⟩)
  have TBt : TB 2 3 4 32 8 := Or.inl ⟨rfl, rfl, rfl, rfl, rfl⟩
  intro d
  induction d with
  | zero =>
    intro k hk y N hN L h2t h2 h0
    obtain ⟨N, rfl⟩ : ∃ a, N = a + 1 := ⟨N - 1, by omega⟩
    refine ⟨y, ?_, L, fun _ _ _ _ => rfl, rfl, fun _ _ => rfl, fun _ _ => rfl, fun e h1 h2 => by omega⟩
    rw [fn_85_2, if_pos (LV L hu).1, bd (LV L hu).2.2.2.2.1, if_pos (tv L hu TBp).1, h2, if_pos ((nI_leI (by omega) (by omega)).mpr (by omega))]
  | succ d ih =>
    intro k hk y N hN L h2t h2 h0
    obtain ⟨N, rfl⟩ : ∃ a, N = a + 1 := ⟨N - 1, by omega⟩
    have a84 : fn_84 y u (nI k) = some (rsum u t y k) := add84 L hu h2t ht h2 hP (by omega) t 0 cm_N (by omega) (by unfold cm_N; omega)
    have e1 : fn_85_2 (N + 1) u (nI k) y = fn_85_21 (fn_85_2 N) cm_N u (nI k) (rsum u t y k) (nI 0) y := by
      rw [fn_85_2, if_pos (LV L hu).1, bd (LV L hu).2.2.2.2.1, if_pos (tv L hu TBp).1, h2, if_neg (fun h => by
        have := (nI_leI (by omega) (by omega)).mp h
        omega), bd a84]
      rfl
    obtain ⟨y2, b1, b2, b3, b4, b5⟩ : ∃ y2, fn_85_21 (fn_85_2 N) cm_N u (nI k) (rsum u t y k) (nI 0) y = fn_85_49 (fn_85_2 N) u (nI k) (rsum u t y k) y2 ∧ Lay v c y2 ∧ (∀ a i, (a ≠ u + 7 ∨ i < 8 * k ∨ 8 * k + 8 ≤ i) → cm_I y2 a i = cm_I y a i) ∧ cm_L y2 = cm_L y ∧ (rsum u t y k ≠ 0 → y2 = y) ∧ (rsum u t y k = 0 → ∀ i, i < t → cm_I y2 (u + 7) (8 * k + i) = 1) := by
      by_cases z : rsum u t y k = 0
      · rw [z]
        obtain ⟨y2, c1, c2, c3, c4, c5⟩ := ones hu ht hP (show k < P by omega) (K := fn_85_2 N) t 0 (by omega) y cm_N (by unfold cm_N; omega) L h2t h2
        exact ⟨y2, c1, c2, fun a i h => c3 a i (by omega), c4, fun h => absurd rfl h, fun _ i hi => c5 i (by omega) hi⟩
      · refine ⟨y, ?_, L, fun _ _ _ => rfl, rfl, fun _ => rfl, fun h => absurd h z⟩
        show fn_85_21 (fn_85_2 N) (99999 + 1) u (nI k) (rsum u t y k) (nI 0) y = _
        rw [fn_85_21, if_pos (LV L hu).1, bd (LV L hu).2.2.1, if_pos (tv L hu TBt).1, if_pos z, ite_self]
    obtain ⟨b5, b6⟩ := b5
    have e2 := e49 b2 hu (by rw [b3 _ _ (by omega)]; exact h2t) (by rw [b3 _ _ (by omega)]; exact h0) (by rw [b3 _ _ (by omega)]; exact h2) hP (show k < P by omega) (K := fn_85_2 N) (rsum u t y k)
    have Lz : Lay v c (cm_sI y2 (u + 6) (3 * k + 2) (if rsum u t y k = 0 then nI t else rsum u t y k)) := b2
    generalize hz : cm_sI y2 (u + 6) (3 * k + 2) (if rsum u t y k = 0 then nI t else rsum u t y k) = z at e2 Lz
    have z1 : ∀ a i, (a ≠ u + 7 ∨ i < 8 * k ∨ 8 * k + 8 ≤ i) → (a ≠ u + 6 ∨ i ≠ 3 * k + 2) → cm_I z a i = cm_I y a i := fun a i h1 h2 => by
      rw [← hz, I_if, if_neg (by omega)]; exact b3 a i h1
    have z7 : ∀ i, cm_I z (u + 7) i = cm_I y2 (u + 7) i := fun i => by rw [← hz, I_ne (by omega)]
    have z6 : cm_I z (u + 6) (3 * k + 2) = if rsum u t y k = 0 then nI t else rsum u t y k := by rw [← hz, I_eq]
    obtain ⟨y1, g1, g2, g3, g4, g5, g6, g7⟩ := ih (k + 1) (by omega) z N (by omega) Lz (by rw [z1 _ _ (by omega) (by omega)]; exact h2t) (by rw [z1 _ _ (by omega) (by omega)]; exact h2) (by rw [z1 _ _ (by omega) (by omega)]; exact h0)
    refine ⟨y1, by rw [e1, b1, e2, g1], g2, fun a j h1 h2 => ?_, ?_, fun j h => ?_, fun j h => ?_, fun e h1 h2 => ?_⟩
    · rw [g3 a j h1 h2, z1 a j (by omega) (by omega)]
    · rw [g4, ← hz]; exact b4
    · rw [g5 j (fun e he => h e (by omega)), z1 _ _ (by omega) (Or.inr (h k (Nat.le_refl _)))]
    · rw [g6 j (by omega), z1 _ _ (by omega) (by omega)]
    · by_cases ek : e = k
      · subst ek
        have r7 : ∀ j, j < 8 → cm_I y1 (u + 7) (8 * e + j) = cm_I y2 (u + 7) (8 * e + j) := fun j hj => by rw [g6 _ (by omega), z7]
        refine ⟨fun h j hj => by rw [r7 j hj, b5 h], fun h j hj => by rw [r7 j (by omega)]; exact b6 h j hj, ?_⟩
        rw [g5 _ (fun e' he' => by omega), z6]
      · obtain ⟨h3, h4, h5⟩ := g7 e (by omega) h2
        have rs : rsum u t z e = rsum u t y e := fup_cg fun j a hj => by rw [z1 _ _ (by omega) (by omega)]
        rw [rs] at h3 h4 h5
        exact ⟨fun h j hj => by rw [h3 h j hj, z1 _ _ (by omega) (by omega)], h4, h5⟩
end SUMS
