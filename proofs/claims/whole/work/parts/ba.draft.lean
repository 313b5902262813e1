/-! the village under way, in both: what it says, what is written into it -/
def DT (u : Nat) (w x : cm_W) (t : Nat) : Prop := t ≤ 8 ∧ cm_I w (u + 2) 2 = nI t ∧ cm_I w (u + 2) 0 = 4 ∧ cm_I x 96 13 = nI t ∧ ∀ k, k < t → (∀ c, c < 4 → cm_I w (u + 3) (4 * k + c) = cm_I x (100 + c) (8 + k)) ∧ cm_L w (u + 1) k = cm_L x 98 (8 + k) ∧ wdx (cm_L x 98 (8 + k)) = -1 ∧ (rg (cm_I x 100 (8 + k)) 1000 ∧ rg (cm_I x 101 (8 + k)) 100 ∧ rg (cm_I x 102 (8 + k)) 10 ∧ rg (cm_I x 103 (8 + k)) 100)
def DP (u : Nat) (w x : cm_W) (P : Nat) : Prop := P ≤ 12 ∧ cm_I w (u + 5) 2 = nI P ∧ cm_I w (u + 5) 0 = 3 ∧ cm_I x 96 14 = nI P ∧ ∀ k, k < P → cm_I w (u + 6) (3 * k) = cm_I x 104 (12 + k) ∧ cm_I w (u + 6) (3 * k + 1) = cm_I x 105 (12 + k) ∧ cm_L w (u + 4) k = cm_L x 99 (12 + k) ∧ wdx (cm_L x 99 (12 + k)) = -1 ∧ rg (cm_I x 104 (12 + k)) 6
def DH (u : Nat) (w x : cm_W) (t P : Nat) : Prop := (∀ k, k < 12 → ∀ j, j < 8 → rg (cm_I w (u + 7) (8 * k + j)) 100 ∧ (t ≤ j → cm_I w (u + 7) (8 * k + j) = 0)) ∧ (∀ k, P ≤ k → k < 12 → ∀ j, j < 8 → cm_I w (u + 7) (8 * k + j) = 0) ∧ ∀ k, k < P → (cm_I x 106 (12 + k) = 1 ∧ (∀ j, j < 8 → cm_I x 107 (8 * (12 + k) + j) = cm_I w (u + 7) (8 * k + j)) ∧ ∃ j, j < t ∧ cm_I w (u + 7) (8 * k + j) ≠ 0) ∨ (cm_I x 106 (12 + k) = 0 ∧ ∀ j, j < 8 → cm_I w (u + 7) (8 * k + j) = 0)
def DQ (u : Nat) (w x : cm_W) (t Q : Nat) : Prop := Q ≤ 6 ∧ cm_I w (u + 8) 2 = nI Q ∧ cm_I w (u + 8) 0 = 3 ∧ cm_I x 96 15 = nI Q ∧ ∀ k, k < Q → (∀ c, c < 3 → cm_I w (u + 9) (3 * k + c) = cm_I x (108 + c) (6 + k)) ∧ rg (cm_I x 108 (6 + k)) t ∧ rg (cm_I x 109 (6 + k)) t ∧ cm_I x 108 (6 + k) ≠ cm_I x 109 (6 + k) ∧ rg (cm_I x 110 (6 + k)) 1000
def DS (u : Nat) (w x : cm_W) (m : Nat) : Prop := cm_I w u 9 = nI m ∧ cm_I x 96 16 = nI m ∧ m ≤ 50 ∧ (cm_I w u 6 = cm_I x 96 17 ∧ rg (cm_I x 96 17) 11) ∧ (cm_I w u 7 = cm_I x 96 18 ∧ rg (cm_I x 96 18) 11) ∧ (cm_I w u 8 = cm_I x 96 19 ∧ rg (cm_I x 96 19) 11)
/-- the class's tables are whole -/
def WD (u : Nat) (w : cm_W) : Prop := (∃ t, t ≤ 8 ∧ cm_I w (u + 2) 2 = nI t) ∧ (∃ P, P ≤ 12 ∧ cm_I w (u + 5) 2 = nI P) ∧ (∃ Q, Q ≤ 6 ∧ cm_I w (u + 8) 2 = nI Q) ∧ cm_I w (u + 2) 0 = 4 ∧ cm_I w (u + 5) 0 = 3 ∧ cm_I w (u + 8) 0 = 3
def FW0 (v : Nat) (w0 w : cm_W) : Prop := ∀ a, (a < 4 ∨ v ≤ a ∧ a < v + 10 ∨ 30 ≤ a) → (∀ j, cm_I w a j = cm_I w0 a j) ∧ ∀ j, cm_L w a j = cm_L w0 a j
section DRAFT
variable {v c u n m q k p t P Q : Nat} {b : Nat → Int32} {w w' w0 x x' y z : cm_W} {f : Int32} {s : St}
/-- where the class's village cells and the reference's stay, all stays -/
def UW (w w' : cm_W) : Prop := ∀ a, 10 ≤ a → a < 30 → (∀ j, cm_I w' a j = cm_I w a j) ∧ ∀ j, cm_L w' a j = cm_L w a j
def UX (x x' : cm_W) : Prop := (∀ a j, (a ≠ 96 ∨ 13 ≤ j ∧ j ≤ 19) → cm_I x' a j = cm_I x a j) ∧ ∀ a j, (a = 98 ∨ a = 99) → cm_L x' a j = cm_L x a j
theorem FA.U (h : FA v c w w') : UW w w' := fun a h1 h2 => ⟨fun j => h.2.1 a (by omega) j, fun j => by rw [h.2.2.2]⟩
theorem FX.U (h : FX v c x x') : UX x x' := ⟨fun a j h1 => by
  by_cases e : a = 96
  · rw [e]; exact h.2.2.1 j (by omega) (by omega) (by omega)
  · exact h.2.1 a e j, fun a j _ => by rw [h.2.2.2]⟩
theorem UW.rf : UW w w := fun _ _ _ => ⟨fun _ => rfl, fun _ => rfl⟩
theorem UX.rf : UX x x := ⟨fun _ _ _ => rfl, fun _ _ _ => rfl⟩
theorem DT.cg (h : DT u w x t) (hu : u = 10 ∨ u = 20) (hw : UW w w') (hx : UX x x') : DT u w' x' t := by
  obtain ⟨h1, h2, h3, h4, h5⟩ := h
  refine ⟨h1, by rw [(hw _ (by omega) (by omega)).1]; exact h2, by rw [(hw _ (by omega) (by omega)).1]; exact h3, by rw [hx.1 _ _ (by omega)]; exact h4, fun k hk => ?_⟩
  obtain ⟨a1, a2, a3, a4⟩ := h5 k hk
  refine ⟨fun c hc => ?_, ?_, ?_, ?_⟩
  · rw [(hw _ (by omega) (by omega)).1, hx.1 _ _ (by omega)]; exact a1 c hc
  · rw [(hw _ (by omega) (by omega)).2, hx.2 _ _ (by omega)]; exact a2
  · rw [hx.2 _ _ (by omega)]; exact a3
  · rw [hx.1 _ _ (by omega), hx.1 _ _ (by omega), hx.1 _ _ (by omega), hx.1 _ _ (by omega)]; exact a4
theorem DP.cg (h : DP u w x P) (hu : u = 10 ∨ u = 20) (hw : UW w w') (hx : UX x x') : DP u w' x' P := by
  obtain ⟨h1, h2, h3, h4, h5⟩ := h
  refine ⟨h1, by rw [(hw _ (by omega) (by omega)).1]; exact h2, by rw [(hw _ (by omega) (by omega)).1]; exact h3, by rw [hx.1 _ _ (by omega)]; exact h4, fun k hk => ?_⟩
  obtain ⟨a1, a2, a3, a4, a5⟩ := h5 k hk
  rw [(hw _ (by omega) (by omega)).1, (hw _ (by omega) (by omega)).1, (hw _ (by omega) (by omega)).2, hx.1 _ _ (by omega), hx.1 _ _ (by omega), hx.2 _ _ (by omega)]
  exact ⟨a1, a2, a3, a4, a5⟩
theorem DH.cg (h : DH u w x t P) (hu : u = 10 ∨ u = 20) (hw : UW w w') (hx : UX x x') : DH u w' x' t P := by
  have e1 : ∀ j, cm_I w' (u + 7) j = cm_I w (u + 7) j := fun j => (hw _ (by omega) (by omega)).1 j
  have e2 : ∀ j, cm_I x' 106 j = cm_I x 106 j := fun j => hx.1 _ _ (by omega)
  have e3 : ∀ j, cm_I x' 107 j = cm_I x 107 j := fun j => hx.1 _ _ (by omega)
  unfold DH
  simp only [e1, e2, e3]
  exact h
theorem DQ.cg (h : DQ u w x t Q) (hu : u = 10 ∨ u = 20) (hw : UW w w') (hx : UX x x') : DQ u w' x' t Q := by
  obtain ⟨h1, h2, h3, h4, h5⟩ := h
  refine ⟨h1, by rw [(hw _ (by omega) (by omega)).1]; exact h2, by rw [(hw _ (by omega) (by omega)).1]; exact h3, by rw [hx.1 _ _ (by omega)]; exact h4, fun k hk => ?_⟩
  obtain ⟨a1, a2, a3, a4, a5⟩ := h5 k hk
  refine ⟨fun c hc => ?_, ?_, ?_, ?_, ?_⟩
  · rw [(hw _ (by omega) (by omega)).1, hx.1 _ _ (by omega)]; exact a1 c hc
  · rw [hx.1 _ _ (by omega)]; exact a2
  · rw [hx.1 _ _ (by omega)]; exact a3
  · rw [hx.1 _ _ (by omega), hx.1 _ _ (by omega)]; exact a4
  · rw [hx.1 _ _ (by omega)]; exact a5
theorem DS.cg (h : DS u w x m) (hu : u = 10 ∨ u = 20) (hw : UW w w') (hx : UX x x') : DS u w' x' m := by
  unfold DS
  rw [(hw u (by omega) (by omega)).1, (hw u (by omega) (by omega)).1, (hw u (by omega) (by omega)).1, (hw u (by omega) (by omega)).1, hx.1 96 16 (by omega), hx.1 96 17 (by omega), hx.1 96 18 (by omega), hx.1 96 19 (by omega)]
  exact h
theorem WD.of (h1 : DT u w x t) (h2 : DP u w x P) (h3 : DQ u w x t Q) : WD u w := ⟨⟨t, h1.1, h1.2.1⟩, ⟨P, h2.1, h2.2.1⟩, ⟨Q, h3.1, h3.2.1⟩, h1.2.2.1, h2.2.2.1, h3.2.2.1⟩
theorem WD.cg (h : WD u w) (hu : u = 10 ∨ u = 20) (hw : UW w w') : WD u w' := by
  unfold WD
  simp (disch := omega) only [(hw (u + 2) (by omega) (by omega)).1, (hw (u + 5) (by omega) (by omega)).1, (hw (u + 8) (by omega) (by omega)).1]
  exact h
theorem FW0.rf : FW0 v w w := fun _ _ => ⟨fun _ => rfl, fun _ => rfl⟩
theorem FW0.tr (h : FW0 v w0 w) (h2 : ∀ a, (a < 4 ∨ v ≤ a ∧ a < v + 10 ∨ 30 ≤ a) → (∀ j, cm_I w' a j = cm_I w a j) ∧ ∀ j, cm_L w' a j = cm_L w a j) : FW0 v w0 w' := fun a ha => ⟨fun j => ((h2 a ha).1 j).trans ((h a ha).1 j), fun j => ((h2 a ha).2 j).trans ((h a ha).2 j)⟩
theorem FW0.A (h : FW0 v w0 w) (hv : v = 10 ∨ v = 20) (h2 : FA v c w w') : FW0 v w0 w' := h.tr fun a ha => ⟨fun j => h2.2.1 a (by omega) j, fun j => by rw [h2.2.2.2]⟩
theorem FM.X {v' c' : Nat} (h : FM v' c' w0 x s) (h2 : FX v' c' x x') : FM v' c' w0 x' s := by
  obtain ⟨h1, hM, h3, h4, h5⟩ := h
  refine ⟨h2.1, fun a k hk => ?_, fun a ha => ⟨?_, ?_⟩, ?_, ?_⟩
  · have e : cm_I x' a k = cm_I x a k := by
      by_cases z : a = 96
      · subst z
        refine h2.2.2.1 k (fun e => ?_) (fun e => ?_) (fun e => ?_) <;> (rw [e] at hk; cases hk)
      · exact h2.2.1 a z k
    rw [e]; exact hM a k hk
  · funext j; rw [h2.2.1 a (by omega) j, (h3 a ha).1]
  · rw [h2.2.2.2, (h3 a ha).2]
  · rw [h2.2.2.2, h4]
  · rw [h2.2.2.2, h5]
-- the class's tables
theorem tset {tb ce W N r : Nat} (h0 : cm_sh w tb = some (.inl 7)) (h1 : cm_R w tb 1 = some ce) (hg : ∀ i, cm_ga w .int ce i = cm_iin i N) (hW : cm_I w tb 0 = nI W) (hn : cm_I w tb 2 = nI r) (hN : W * r ≤ N) (hM : N ≤ 2100) (hW2 : W < 100) (hw : cm_w2 10 30 ce = true) {k j : Nat} (hk : k < r) (hn2 : r ≤ 2100) (hj : j < W) {i : Int32} : fn_72 tb (nI k) (nI j) i w = some (cm_sI w ce (W * k + j) i) := by
  have e1 : W * (k + 1) ≤ W * r := Nat.mul_le_mul_left W hk
  have e2 : W * (k + 1) = W * k + W := by rw [Nat.mul_add, Nat.mul_one]
  unfold fn_72
  rw [if_pos h0, has_ok h0 hn hn2, iin_nI hk (by omega)]
  show (if cm_b true = 0 then some w else _) = _
  rw [if_neg (by decide), if_neg (nI_pos (by omega)), hW, if_neg (nI_ge hj (by omega)), h1]
  show (if cm_ga w .int ce (nI k * nI W + nI j) = true then (if cm_w2 10 30 ce = true then some (cm_sI w ce (nI k * nI W + nI j).toNatClampNeg i) else none) else none) = _
  rw [pk_mul, nI_add, hg, Nat.mul_comm k W, if_pos (iin_nI (by omega) (by omega)), if_pos hw, tn_nI (by omega)]
theorem tapp {tb r : Nat} (h0 : cm_sh w tb = some (.inl 7)) (hf : fn_64 w tb = some false) (hn : cm_I w tb 2 = nI r) (hw : cm_w2 10 30 tb = true) : fn_71 tb w = some (nI r, cm_sI w tb 2 (nI (r + 1))) := by
  unfold fn_71 fn_71_9
  rw [if_pos h0, hf, Option.bind_some, if_pos (show cm_b false = 0 from rfl), if_pos h0, if_pos hw, I_eq, hn, nI_1, nI_pred]
theorem w2v (hu : u = 10 ∨ u = 20) : ∀ a, u ≤ a → a < u + 10 → cm_w2 10 30 a = true ∧ cm_w2 4 30 a = true := by
  intro a h1 h2
  unfold cm_w2
  rw [decide_eq_true (show 10 ≤ a by omega), decide_eq_true (show 4 ≤ a by omega), decide_eq_true (show a < 30 by omega), decide_eq_true (show 2 ≤ a by omega)]
  exact ⟨rfl, rfl⟩
end DRAFT
