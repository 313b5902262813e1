/-! what somebody fills: the loop, in both -/
/-- k THINGS are told, all is well so far -/
def FI (v c v' c' : Nat) (b : Nat → Int32) (n : Nat) (s : St) (w0 x0 y z : cm_W) (p t P Q m i k : Nat) : Prop := (Lay v c y ∧ FW0 v w0 y ∧ CR b n y p (-1)) ∧ (∃ q, RX v' c' b n s x0 z q ∧ sk b n q = p) ∧ (DT (30 - v) y z t ∧ DP (30 - v) y z P ∧ DQ (30 - v) y z t Q ∧ DS (30 - v) y z m) ∧ (∀ a, a < 12 → ∀ j, j < 8 → rg (cm_I y (30 - v + 7) (8 * a + j)) 100 ∧ (t ≤ j → cm_I y (30 - v + 7) (8 * a + j) = 0)) ∧ (∀ a, P ≤ a → a < 12 → ∀ j, j < 8 → cm_I y (30 - v + 7) (8 * a + j) = 0) ∧ (∀ a, a < P → a ≠ i → (cm_I z 106 (12 + a) = 1 ∧ (∀ j, j < 8 → cm_I z 107 (8 * (12 + a) + j) = cm_I y (30 - v + 7) (8 * a + j)) ∧ ∃ j, j < t ∧ cm_I y (30 - v + 7) (8 * a + j) ≠ 0) ∨ (cm_I z 106 (12 + a) = 0 ∧ ∀ j, j < 8 → cm_I y (30 - v + 7) (8 * a + j) = 0)) ∧ cm_I z 106 (12 + i) = 1 ∧ (∀ j, j < 8 → cm_I z 107 (8 * (12 + i) + j) = cm_I y (30 - v + 7) (8 * i + j)) ∧ cnz (fun j => cm_I y (30 - v + 7) (8 * i + j)) = k
section FILLS2
variable {v c v' c' u n m q k p t P Q i : Nat} {b : Nat → Int32} {w w' w0 x x' x0 y z y1 y2 y3 y4 y5 z1 : cm_W} {f : Int32} {s : St}
/-- where places alone change -/
theorem FI.st (F : FI v c v' c' b n s w0 x0 y z p t P Q m i k) (hv : v = 10 ∨ v = 20) (A : FA v c y y1) {p1 q1 : Nat} (C : CR b n y1 p1 (-1)) (G : FX v' c' z z1) (R : RX v' c' b n s x0 z1 q1) (hq : sk b n q1 = p1) : FI v c v' c' b n s w0 x0 y1 z1 p1 t P Q m i k := by
  have hu : 30 - v = 10 ∨ 30 - v = 20 := by omega
  obtain ⟨⟨a1, a2, a3⟩, -, ⟨d1, d2, d3, d4⟩, h⟩ := F
  refine ⟨⟨A.1, a2.A hv A, C⟩, ⟨q1, R, hq⟩, ⟨d1.cg hu A.U G.U, d2.cg hu A.U G.U, d3.cg hu A.U G.U, d4.cg hu A.U G.U⟩, ?_⟩
  have e1 : ∀ j, cm_I y1 (30 - v + 7) j = cm_I y (30 - v + 7) j := fun j => A.2.1 _ (by omega) j
  have e2 : ∀ j, cm_I z1 106 j = cm_I z 106 j := fun j => G.2.1 _ (by omega) j
  have e3 : ∀ j, cm_I z1 107 j = cm_I z 107 j := fun j => G.2.1 _ (by omega) j
  simp only [e1, e2, e3]
  exact h
theorem FI.wd (F : FI v c v' c' b n s w0 x0 y z p t P Q m i k) : WD (30 - v) y := WD.of F.2.2.1.1 F.2.2.1.2.1 F.2.2.1.2.2.1
/-- to a FAULT -/
theorem FI.sf {w1 : cm_W} (F : FI v c v' c' b n s w0 x0 y z p t P Q m i k) (hv : v = 10 ∨ v = 20) (A : FA v c y y1) (G : G7 v c y1 w1) {p1 pf q1 : Nat} (C : CR b n y1 p1 (nI pf)) (R : RX v' c' b n s x0 z1 q1) (e : sk b n q1 = pf) : SF v c v' c' b n s w0 x0 w1 z1 := by
  have hu : 30 - v = 10 ∨ 30 - v = 20 := by omega
  subst e
  refine ⟨G.1, ?_, ?_, p1, q1, G.CR hv C, R⟩
  · exact (F.1.2.1.A hv A).tr fun a ha => ⟨fun j => G.2.1 a (by omega) j, fun j => by rw [G.2.2]⟩
  · have h := F.wd.cg hu A.U
    unfold WD
    rw [G.2.1 _ (by omega), G.2.1 _ (by omega), G.2.1 _ (by omega), G.2.1 _ (by omega), G.2.1 _ (by omega), G.2.1 _ (by omega)]
    exact h
/-- all THINGS are told -/
theorem FI.sr (F : FI v c v' c' b n s w0 x0 y z p t P Q m i k) (hi : i < P) (hk : 1 ≤ k) : SR v c v' c' b n s w0 x0 y z p t P Q m := by
  obtain ⟨a, r, ⟨d1, d2, d3, d4⟩, h1, h2, h3, h4, h5, h6⟩ := F
  refine ⟨a, r, d1, d2, ⟨h1, h2, fun e he => ?_⟩, d3, d4⟩
  by_cases z0 : e = i
  · subst z0
    obtain ⟨j, j1, j2⟩ := cnz_ex (fun j => cm_I y (30 - v + 7) (8 * e + j)) 8 (Nat.lt_of_lt_of_le hk (Nat.le_of_eq h6.symm))
    have hP := d2.1
    refine Or.inl ⟨h4, h5, j, ?_, j2⟩
    by_cases z1 : j < t
    · exact z1
    · exact absurd ((h1 e (by omega) j j1).2 (by omega)) j2
  · exact h3 e he z0
/-- a THING more is told -/
theorem FI.add (F : FI v c v' c' b n s w0 x0 y z p t P Q m i k) (hv : v = 10 ∨ v = 20) (hi : i < P) {j0 a : Nat} (hj : j0 < t) (h0 : cm_I y (30 - v + 7) (8 * i + j0) = 0) (ha : 1 ≤ a) (ha2 : a < 100) : FI v c v' c' b n s w0 x0 (cm_sI y (30 - v + 7) (8 * i + j0) (nI a)) (cm_sI z 107 (8 * (12 + i) + j0) (nI a)) p t P Q m i (k + 1) := by
  have hu : 30 - v = 10 ∨ 30 - v = 20 := by omega
  obtain ⟨⟨a1, a2, a3⟩, ⟨q, r1, r2⟩, ⟨d1, d2, d3, d4⟩, h1, h2, h3, h4, h5, h6⟩ := F
  have ht := d1.1
  have hP := d2.1
  have hr : rg (nI a) 100 := ⟨a, ha2, rfl⟩
  have ne0 : nI a ≠ 0 := fun e => by
    have := (nI_eq (a := a) (b := 0) (by omega) (by decide)).mp e
    omega
  refine ⟨⟨a1, a2.tr fun b hb => ⟨fun j => I_ne (by omega), fun j => rfl⟩, a3.eq (fun j _ _ => I_ne (by omega)) (fun b h1 h2 j => I_ne (by omega)) (fun j => rfl)⟩, ⟨q, r1.sI (by omega) (decide_eq_false (by omega)), r2⟩, ⟨?_, ?_, ?_, ?_⟩, fun e he j hj2 => ?_, fun e he1 he2 j hj2 => ?_, fun e he hne => ?_, ?_, fun j hj2 => ?_, ?_⟩
  · exact d1.c2 (fun j => I_ne (by omega)) (fun j => I_ne (by omega)) (fun j => rfl) (I_ne (by omega)) (fun a j h1 h2 => I_ne (by omega)) (fun j => rfl)
  · exact d2.c2 (fun j => I_ne (by omega)) (fun j => I_ne (by omega)) (fun j => rfl) (I_ne (by omega)) (fun a j h1 h2 => I_ne (by omega)) (fun j => rfl)
  · exact d3.c2 (fun j => I_ne (by omega)) (fun j => I_ne (by omega)) (I_ne (by omega)) (fun a j h1 h2 => I_ne (by omega))
  · exact d4.c2 (fun j => I_ne (by omega)) (fun j h1 h2 => I_ne (by omega))
  · by_cases z0 : 8 * e + j = 8 * i + j0
    · rw [z0, I_eq]
      exact ⟨hr, fun h => by omega⟩
    · rw [I_nk z0]; exact h1 e he j hj2
  · rw [I_nk (by omega)]; exact h2 e he1 he2 j hj2
  · have e1 : ∀ j, j < 8 → cm_I (cm_sI y (30 - v + 7) (8 * i + j0) (nI a)) (30 - v + 7) (8 * e + j) = cm_I y (30 - v + 7) (8 * e + j) := fun j hj => I_nk (by omega)
    have e2 : ∀ j, j < 8 → cm_I (cm_sI z 107 (8 * (12 + i) + j0) (nI a)) 107 (8 * (12 + e) + j) = cm_I z 107 (8 * (12 + e) + j) := fun j hj => I_nk (by omega)
    rw [I_ne (by omega)]
    rcases h3 e he hne with ⟨b1, b2, j, b3, b4⟩ | ⟨b1, b2⟩
    · refine Or.inl ⟨b1, fun j hj => by rw [e1 j hj, e2 j hj]; exact b2 j hj, j, b3, ?_⟩
      rw [e1 j (by omega)]; exact b4
    · exact Or.inr ⟨b1, fun j hj => by rw [e1 j hj]; exact b2 j hj⟩
  · rw [I_ne (by omega)]; exact h4
  · by_cases z0 : j = j0
    · rw [z0, I_eq, I_eq]
    · rw [I_nk (by omega), I_nk (by omega)]; exact h5 j hj2
  · have e : (fun j => cm_I (cm_sI y (30 - v + 7) (8 * i + j0) (nI a)) (30 - v + 7) (8 * i + j)) = fun j => if j = j0 then nI a else cm_I y (30 - v + 7) (8 * i + j) := by
      funext j
      by_cases z0 : j = j0
      · rw [if_pos z0, z0, I_eq]
      · rw [if_neg z0, I_nk (by omega)]
    rw [e]
    have := cnz_up (h := fun j => cm_I y (30 - v + 7) (8 * i + j)) (j0 := j0) (a := nI a) h0 ne0 8
    rw [if_pos (by omega)] at this
    rw [← h6]
    exact this
end FILLS2
