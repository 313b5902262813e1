/-! what a write leaves: both relations and the invariants -/
def GG (v c : Nat) (w : cm_W) (s : St) : Prop := Lay v c w ∧ RelM w s ∧ RelC v w s ∧ RelZ w s ∧ Inv s
section UPD
variable {v c u : Nat} {w w' : cm_W} {s s' : St}
theorem up_comm {a k b j : Nat} {x y : Int32} (h : a ≠ b ∨ k ≠ j) : cm_up (cm_up s a k x) b j y = cm_up (cm_up s b j y) a k x := by
  funext a' k'
  show (if a' = b ∧ k' = j then y else if a' = a ∧ k' = k then x else s a' k') = if a' = a ∧ k' = k then x else if a' = b ∧ k' = j then y else s a' k'
  by_cases h1 : a' = b ∧ k' = j
  · by_cases h2 : a' = a ∧ k' = k
    · exfalso; omega
    · rw [if_pos h1, if_neg h2, if_pos h1]
  · rw [if_neg h1]
    by_cases h2 : a' = a ∧ k' = k
    · rw [if_pos h2, if_pos h2]
    · rw [if_neg h2, if_neg h2, if_neg h1]
theorem VilC.cg (h : VilC w u s) (hu : u = 10 ∨ u = 20) (hw : ∀ a, a < 30 → ∀ j, cm_I w' a j = cm_I w a j) (hs : ∀ a k, sa a k = false → s' a k = s a k) : VilC w' u s' := by
  have hu2 : u ≤ 20 := by omega
  have e1 : nT s' = nT s := by unfold nT; rw [hs 96 1 rfl]
  have e2 : nP s' = nP s := by unfold nP; rw [hs 96 2 rfl]
  have e3 : nQ s' = nQ s := by unfold nQ; rw [hs 96 3 rfl]
  have e4 : ∀ k, s' 107 k = s 107 k := fun k => hs 107 k rfl
  have e5 : ∀ p, shs s' p = shs s p := by intro p; unfold shs; rw [e1]; simp only [e4]
  obtain ⟨h1, h2, h3, h4, h5, h6⟩ := h
  refine ⟨?_, ?_, ?_, ?_, ?_, ?_⟩
  · rw [hw _ (by omega), hw _ (by omega), hw _ (by omega), hw _ (by omega), hw _ (by omega), hw _ (by omega), hw _ (by omega), hs 96 1 rfl, hs 96 2 rfl, hs 96 3 rfl, hs 96 4 rfl, hs 96 5 rfl, hs 96 6 rfl, hs 96 7 rfl]
    exact h1
  · rw [hw _ (by omega), hw _ (by omega), hw _ (by omega)]
    exact h2
  · intro t ht k hk
    rw [e1] at ht
    rw [hw _ (by omega), h3 t ht k hk, hs]
    rcases (show k = 0 ∨ k = 1 ∨ k = 2 ∨ k = 3 by omega) with rfl | rfl | rfl | rfl <;> rfl
  · intro p hp
    rw [e2] at hp
    rw [hw _ (by omega), hw _ (by omega), hw _ (by omega), hs 104 p rfl, hs 111 p rfl, e5]
    exact h4 p hp
  · intro p hp t ht
    rw [e2] at hp
    rw [e1] at ht
    rw [hw _ (by omega), h5 p hp t ht, e4]
  · intro k hk t ht
    rw [e3] at hk
    rw [hw _ (by omega), h6 k hk t ht, hs]
    rcases (show t = 0 ∨ t = 1 ∨ t = 2 by omega) with rfl | rfl | rfl <;> rfl
theorem StC.cg {b : Nat} (h : StC w b s) (hw : ∀ a, b ≤ a → a < b + 11 → ∀ j, cm_I w' a j = cm_I w a j) (hs : ∀ a k, sa a k = true → s' a k = s a k) (h2 : s' 96 2 = s 96 2) : StC w' b s' := by
  have e1 : nB s' = nB s := by unfold nB; rw [hs 96 38 rfl]
  have e2 : nP s' = nP s := by unfold nP; rw [h2]
  have e3 : nR s' = nR s := by unfold nR; rw [hs 96 39 rfl]
  have e4 : nL s' = nL s := by unfold nL; rw [hs 96 51 rfl]
  have e5 : nK s' = nK s := by unfold nK; rw [hs 96 58 rfl]
  obtain ⟨h1, h2, h3, h4, h5, h6, h7, h8⟩ := h
  refine ⟨?_, ?_, ?_, ?_, ?_, ?_, ?_, ?_⟩
  · rw [hw _ (by omega) (by omega), hw _ (by omega) (by omega), hw _ (by omega) (by omega), hw _ (by omega) (by omega), hw _ (by omega) (by omega), hs 96 38 rfl, hs 96 39 rfl, hs 96 51 rfl, hs 96 58 rfl, hs 96 8 rfl]
    exact h1
  · rw [hw _ (by omega) (by omega), hw _ (by omega) (by omega), hw _ (by omega) (by omega), hw _ (by omega) (by omega)]
    exact h2
  · intro x hx k hk
    rw [e1] at hx
    rw [hw _ (by omega) (by omega), h3 x hx k hk, hs]
    rcases (show k = 0 ∨ k = 1 ∨ k = 2 ∨ k = 3 ∨ k = 4 ∨ k = 5 by omega) with rfl | rfl | rfl | rfl | rfl | rfl <;> rfl
  · intro x hx k hk
    rw [e3] at hx
    rw [hw _ (by omega) (by omega), h4 x hx k hk, hs 122 _ rfl]
  · intro x hx k hk
    rw [e4] at hx
    rw [hw _ (by omega) (by omega), h5 x hx k hk, hs]
    rcases (show k = 0 ∨ k = 1 ∨ k = 2 ∨ k = 3 ∨ k = 4 ∨ k = 5 by omega) with rfl | rfl | rfl | rfl | rfl | rfl <;> rfl
  · intro x hx k hk
    rw [e5] at hx
    rw [hw _ (by omega) (by omega), h6 x hx k hk, hs]
    rcases (show k = 0 ∨ k = 1 ∨ k = 2 ∨ k = 3 by omega) with rfl | rfl | rfl | rfl <;> rfl
  · intro x hx p hp
    rw [e1] at hx
    rw [hw _ (by omega) (by omega), h7 x hx p hp, hs 121 _ rfl]
  · intro p hp
    rw [e2] at hp
    rw [hw _ (by omega) (by omega), h8 p hp, hs 105 _ rfl]
/-- the class behind a write into its state -/
theorem RelC.st (h : RelC v w s) (hv : v = 10 ∨ v = 20) (hst : StC w' 30 s') (hw : ∀ a, a < 30 ∨ 41 ≤ a → ∀ j, cm_I w' a j = cm_I w a j) (hs : ∀ a k, sa a k = false → s' a k = s a k) : RelC v w' s' := by
  obtain ⟨h1, h2, h3, h4, h5, h6⟩ := h
  have e1 : nA s' = nA s := by unfold nA; rw [hs 96 9 rfl]
  have e2 : nG s' = nG s := by unfold nG; rw [hs 96 73 rfl]
  refine ⟨?_, h2.cg hv (fun a ha => hw a (Or.inl ha)) hs, hst, ?_, ?_, ?_⟩
  · rw [hw 2 (by omega), hw 2 (by omega), hw 2 (by omega), hs 96 9 rfl, hs 96 12 rfl, hs 96 73 rfl, e1]
    refine ⟨h1.1, h1.2.1, h1.2.2.1, fun k hk => ?_, fun k hk => ?_⟩
    · rw [hw 42 (by omega), hs 97 _ rfl]; exact h1.2.2.2.1 k hk
    · rw [hw 3 (by omega), hs 112 _ rfl]; exact h1.2.2.2.2 k hk
  · intro i hi
    rw [hw _ (by omega), hw _ (by omega), hw _ (by omega), hw _ (by omega)]
    exact h4 i hi
  · intro i hi hi3
    rw [ims_cg hs]
    rw [e2] at hi
    exact (h5 i hi hi3).cg (fun a h1 h2 => hw a (by omega)) (fun _ _ _ => rfl) rfl
  · rw [hw _ (by omega), hw _ (by omega), hw _ (by omega)]
    exact h6
/-- the class where nothing of its own was written -/
theorem RelC.fr (h : RelC v w s) (hv : v = 10 ∨ v = 20) (hw : ∀ a, a < 96 → ∀ j, cm_I w' a j = cm_I w a j) : RelC v w' s := by
  refine ⟨?_, h.2.1.cg hv (fun a ha => hw a (by omega)) (fun _ _ _ => rfl), h.2.2.1.cg (fun a _ ha => hw a (by omega)) (fun _ _ _ => rfl) rfl, ?_, ?_, ?_⟩
  · rw [hw 2 (by omega), hw 2 (by omega), hw 2 (by omega)]
    refine ⟨h.1.1, h.1.2.1, h.1.2.2.1, fun k hk => ?_, fun k hk => ?_⟩
    · rw [hw 42 (by omega)]; exact h.1.2.2.2.1 k hk
    · rw [hw 3 (by omega)]; exact h.1.2.2.2.2 k hk
  · intro i hi
    rw [hw _ (by omega), hw _ (by omega), hw _ (by omega), hw _ (by omega)]
    exact h.2.2.2.1 i hi
  · intro i hi hi3
    exact (h.2.2.2.2.1 i hi hi3).cg (fun a h1 h2 => hw a (by omega)) (fun _ _ _ => rfl) rfl
  · rw [hw _ (by omega), hw _ (by omega), hw _ (by omega)]
    exact h.2.2.2.2.2
theorem StC.setB (h : StC w 30 s) {b k : Nat} {x : Int32} (hb : b < nB s) (hk : k < 6) : StC (cm_sI w 32 (6 * b + k) x) 30 (cm_up s (114 + k) b x) := by
  have e1 : nB (cm_up s (114 + k) b x) = nB s := by unfold nB; rw [u_ne (by omega)]
  have e2 : nP (cm_up s (114 + k) b x) = nP s := by unfold nP; rw [u_ne (by omega)]
  have e3 : nR (cm_up s (114 + k) b x) = nR s := by unfold nR; rw [u_ne (by omega)]
  have e4 : nL (cm_up s (114 + k) b x) = nL s := by unfold nL; rw [u_ne (by omega)]
  have e5 : nK (cm_up s (114 + k) b x) = nK s := by unfold nK; rw [u_ne (by omega)]
  obtain ⟨h1, h2, h3, h4, h5, h6, h7, h8⟩ := h
  refine ⟨?_, ?_, ?_, ?_, ?_, ?_, ?_, ?_⟩
  · simp (disch := omega) only [I_ne, u_ne]; exact h1
  · simp (disch := omega) only [I_ne]; exact h2
  · intro x' hx k' hk'
    rw [e1] at hx
    by_cases q : x' = b ∧ k' = k
    · obtain ⟨rfl, rfl⟩ := q
      rw [I_eq, u_eq]
    · rw [I_nk (by omega), u_if, if_neg (by omega)]
      exact h3 x' hx k' hk'
  · intro x' hx k' hk'
    rw [e3] at hx
    simp (disch := omega) only [I_ne, u_ne]; exact h4 x' hx k' hk'
  · intro x' hx k' hk'
    rw [e4] at hx
    simp (disch := omega) only [I_ne, u_ne]; exact h5 x' hx k' hk'
  · intro x' hx k' hk'
    rw [e5] at hx
    simp (disch := omega) only [I_ne, u_ne]; exact h6 x' hx k' hk'
  · intro x' hx k' hk'
    rw [e1] at hx
    simp (disch := omega) only [I_ne, u_ne]; exact h7 x' hx k' hk'
  · intro x' hx
    rw [e2] at hx
    simp (disch := omega) only [I_ne, u_ne]; exact h8 x' hx
theorem StC.setP (h : StC w 30 s) {p : Nat} {x : Int32} : StC (cm_sI w 40 p x) 30 (cm_up s 105 p x) := by
  obtain ⟨h1, h2, h3, h4, h5, h6, h7, h8⟩ := h
  refine ⟨?_, ?_, ?_, ?_, ?_, ?_, ?_, ?_⟩
  · simp (disch := omega) only [I_ne, u_ne]; exact h1
  · simp (disch := omega) only [I_ne]; exact h2
  · intro x' hx k' hk'
    simp (disch := omega) only [I_ne, u_ne]; exact h3 x' hx k' hk'
  · intro x' hx k' hk'
    simp (disch := omega) only [I_ne, u_ne]; exact h4 x' hx k' hk'
  · intro x' hx k' hk'
    simp (disch := omega) only [I_ne, u_ne]; exact h5 x' hx k' hk'
  · intro x' hx k' hk'
    simp (disch := omega) only [I_ne, u_ne]; exact h6 x' hx k' hk'
  · intro x' hx k' hk'
    simp (disch := omega) only [I_ne, u_ne]; exact h7 x' hx k' hk'
  · intro x' hx
    by_cases q : x' = p
    · subst q; rw [I_eq, u_eq]
    · rw [I_nk q, u_nk q]; exact h8 x' hx
theorem StC.setH (h : StC w 30 s) {q : Nat} {x : Int32} : StC (cm_sI w 39 q x) 30 (cm_up s 121 q x) := by
  obtain ⟨h1, h2, h3, h4, h5, h6, h7, h8⟩ := h
  refine ⟨?_, ?_, ?_, ?_, ?_, ?_, ?_, ?_⟩
  · simp (disch := omega) only [I_ne, u_ne]; exact h1
  · simp (disch := omega) only [I_ne]; exact h2
  · intro x' hx k' hk'
    simp (disch := omega) only [I_ne, u_ne]; exact h3 x' hx k' hk'
  · intro x' hx k' hk'
    simp (disch := omega) only [I_ne, u_ne]; exact h4 x' hx k' hk'
  · intro x' hx k' hk'
    simp (disch := omega) only [I_ne, u_ne]; exact h5 x' hx k' hk'
  · intro x' hx k' hk'
    simp (disch := omega) only [I_ne, u_ne]; exact h6 x' hx k' hk'
  · intro x' hx k' hk'
    by_cases e : 12 * x' + k' = q
    · subst e; rw [I_eq, u_eq]
    · rw [I_nk e, u_nk e]; exact h7 x' hx k' hk'
  · intro x' hx
    simp (disch := omega) only [I_ne, u_ne]; exact h8 x' hx
theorem StC.setL (h : StC w 30 s) {l k : Nat} {x : Int32} (hk : k < 6) : StC (cm_sI w 36 (6 * l + k) x) 30 (cm_up s (124 + k) l x) := by
  have e1 : nB (cm_up s (124 + k) l x) = nB s := by unfold nB; rw [u_ne (by omega)]
  have e2 : nP (cm_up s (124 + k) l x) = nP s := by unfold nP; rw [u_ne (by omega)]
  have e3 : nR (cm_up s (124 + k) l x) = nR s := by unfold nR; rw [u_ne (by omega)]
  have e4 : nL (cm_up s (124 + k) l x) = nL s := by unfold nL; rw [u_ne (by omega)]
  have e5 : nK (cm_up s (124 + k) l x) = nK s := by unfold nK; rw [u_ne (by omega)]
  obtain ⟨h1, h2, h3, h4, h5, h6, h7, h8⟩ := h
  refine ⟨?_, ?_, ?_, ?_, ?_, ?_, ?_, ?_⟩
  · simp (disch := omega) only [I_ne, u_ne]; exact h1
  · simp (disch := omega) only [I_ne]; exact h2
  · intro x' hx k' hk'
    rw [e1] at hx
    simp (disch := omega) only [I_ne, u_ne]; exact h3 x' hx k' hk'
  · intro x' hx k' hk'
    rw [e3] at hx
    simp (disch := omega) only [I_ne, u_ne]; exact h4 x' hx k' hk'
  · intro x' hx k' hk'
    rw [e4] at hx
    by_cases q : x' = l ∧ k' = k
    · obtain ⟨rfl, rfl⟩ := q
      rw [I_eq, u_eq]
    · rw [I_nk (by omega), u_if, if_neg (by omega)]
      exact h5 x' hx k' hk'
  · intro x' hx k' hk'
    rw [e5] at hx
    simp (disch := omega) only [I_ne, u_ne]; exact h6 x' hx k' hk'
  · intro x' hx k' hk'
    rw [e1] at hx
    simp (disch := omega) only [I_ne, u_ne]; exact h7 x' hx k' hk'
  · intro x' hx
    rw [e2] at hx
    simp (disch := omega) only [I_ne, u_ne]; exact h8 x' hx
/-- a write that the relation of states doesn't see: another month, of both -/
theorem StC.setM (h : StC w 30 s) {x : Int32} : StC (cm_sI w 30 6 x) 30 (cm_up s 96 8 x) := by
  obtain ⟨h1, h2, h3, h4, h5, h6, h7, h8⟩ := h
  refine ⟨?_, ?_, ?_, ?_, ?_, ?_, ?_, ?_⟩
  · simp (disch := omega) only [I_ne, I_eq, u_eq, u_nk]
    exact ⟨h1.1, h1.2.1, h1.2.2.1, h1.2.2.2.1, trivial⟩
  · simp (disch := omega) only [I_ne]; exact h2
  · intro x' hx k' hk'
    simp (disch := omega) only [I_ne, u_ne]; exact h3 x' hx k' hk'
  · intro x' hx k' hk'
    simp (disch := omega) only [I_ne, u_ne]; exact h4 x' hx k' hk'
  · intro x' hx k' hk'
    simp (disch := omega) only [I_ne, u_ne]; exact h5 x' hx k' hk'
  · intro x' hx k' hk'
    simp (disch := omega) only [I_ne, u_ne]; exact h6 x' hx k' hk'
  · intro x' hx k' hk'
    simp (disch := omega) only [I_ne, u_ne]; exact h7 x' hx k' hk'
  · intro x' hx
    simp (disch := omega) only [I_ne, u_ne]; exact h8 x' hx
/-- a write at another place than the state's -/
theorem StC.ot (h : StC w 30 s) {a k : Nat} {x : Int32} (ha : a < 30 ∨ 41 ≤ a) : StC (cm_sI w a k x) 30 s := h.cg (fun b h1 h2 j => I_ne (by omega)) (fun _ _ _ => rfl) rfl
theorem InvV.cg (h : InvV s) (hs : ∀ a k, sa a k = false → s' a k = s a k) : InvV s' := by
  have e1 : nT s' = nT s := by unfold nT; rw [hs 96 1 rfl]
  have e2 : nP s' = nP s := by unfold nP; rw [hs 96 2 rfl]
  have e3 : nQ s' = nQ s := by unfold nQ; rw [hs 96 3 rfl]
  have f : ∀ a, 100 ≤ a → a ≤ 111 → a ≠ 105 → ∀ k, s' a k = s a k := by
    intro a h1 h2 h3 k
    refine hs a k ?_
    rcases (show a = 100 ∨ a = 101 ∨ a = 102 ∨ a = 103 ∨ a = 104 ∨ a = 106 ∨ a = 107 ∨ a = 108 ∨ a = 109 ∨ a = 110 ∨ a = 111 by omega) with rfl | rfl | rfl | rfl | rfl | rfl | rfl | rfl | rfl | rfl | rfl <;> rfl
  unfold InvV at h ⊢
  rw [e1, e2, e3, hs 96 1 rfl, hs 96 2 rfl, hs 96 3 rfl, hs 96 5 rfl, hs 96 6 rfl, hs 96 7 rfl]
  simp (disch := omega) only [f]
  exact h
theorem InvS.cg (h : InvS s) (hs : ∀ a k, a ≠ 105 → a ≠ 118 → a ≠ 119 → sa a k = true → s' a k = s a k) (hP : nP s' = nP s) (hT : nT s' = nT s) : InvS s' := by
  have e1 : nB s' = nB s := by unfold nB; rw [hs 96 38 (by omega) (by omega) (by omega) rfl]
  have e3 : nR s' = nR s := by unfold nR; rw [hs 96 39 (by omega) (by omega) (by omega) rfl]
  have e4 : nL s' = nL s := by unfold nL; rw [hs 96 51 (by omega) (by omega) (by omega) rfl]
  have e5 : nK s' = nK s := by unfold nK; rw [hs 96 58 (by omega) (by omega) (by omega) rfl]
  have e6 : nM s' = nM s := by unfold nM; rw [hs 96 8 (by omega) (by omega) (by omega) rfl]
  have f : ∀ a k, (imo a).isSome = true → a ≠ 105 → a ≠ 118 → a ≠ 119 → s' a k = s a k := by
    intro a k h1 h2 h3 h4
    by_cases q : a = 96
    · subst q; cases h1
    · exact hs a k h2 h3 h4 (by unfold sa; rw [if_neg q]; exact h1)
  have e7 : nIn s' = nIn s := by unfold nIn; rw [e1]; simp only [f 117 _ rfl (by omega) (by omega) (by omega)]
  unfold InvS at h ⊢
  rw [e1, e3, e4, e5, e6, e7, hP, hT, hs 96 8 (by omega) (by omega) (by omega) rfl, hs 96 38 (by omega) (by omega) (by omega) rfl, hs 96 39 (by omega) (by omega) (by omega) rfl, hs 96 51 (by omega) (by omega) (by omega) rfl, hs 96 58 (by omega) (by omega) (by omega) rfl]
  simp only [f 114 _ rfl (by omega) (by omega) (by omega), f 115 _ rfl (by omega) (by omega) (by omega), f 116 _ rfl (by omega) (by omega) (by omega), f 117 _ rfl (by omega) (by omega) (by omega), f 120 _ rfl (by omega) (by omega) (by omega), f 121 _ rfl (by omega) (by omega) (by omega), f 122 _ rfl (by omega) (by omega) (by omega), f 124 _ rfl (by omega) (by omega) (by omega), f 125 _ rfl (by omega) (by omega) (by omega), f 126 _ rfl (by omega) (by omega) (by omega), f 127 _ rfl (by omega) (by omega) (by omega), f 128 _ rfl (by omega) (by omega) (by omega), f 129 _ rfl (by omega) (by omega) (by omega), f 130 _ rfl (by omega) (by omega) (by omega), f 131 _ rfl (by omega) (by omega) (by omega), f 132 _ rfl (by omega) (by omega) (by omega), f 133 _ rfl (by omega) (by omega) (by omega)]
  exact h
/-- the invariants behind a write into the state -/
theorem Inv.st (h : Inv s) (hS : InvS s') (hs : ∀ a k, sa a k = false → s' a k = s a k) : Inv s' := by
  obtain ⟨h1, h2, h3, h4, h5⟩ := h
  have e1 : nA s' = nA s := by unfold nA; rw [hs 96 9 rfl]
  have e2 : nG s' = nG s := by unfold nG; rw [hs 96 73 rfl]
  refine ⟨h1.cg hs, hS, ?_, ?_, ?_⟩
  · rw [e1, hs 96 9 rfl]; exact h3
  · rw [e2, hs 96 73 rfl]; exact h4
  · intro i hi
    rw [ims_cg hs]
    rw [e2] at hi
    exact h5 i hi
theorem RelZ.cg (h : RelZ w s) (h1 : cm_L w' 30 7 = cm_L w 30 7) (h2 : cm_L w' 96 71 = cm_L w 96 71) (h3 : ∀ i, i < 3 → cm_L w' (63 + 11 * i) 7 = cm_L w (63 + 11 * i) 7) (h4 : ∀ i, cm_L w' 142 i = cm_L w 142 i) (hG : nG s ≤ 3) (hs : nG s' = nG s) : RelZ w' s' := by
  refine ⟨by rw [h1, h2]; exact h.1, fun i hi => ?_⟩
  rw [hs] at hi
  rw [h3 i (by omega), h4]
  exact h.2 i hi
end UPD
