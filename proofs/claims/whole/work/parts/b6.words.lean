/-! words by value; numbers, signs (the first two rows are of kit/laws, given for pasting) -/
theorem wb_shl (n : Nat) {k : Nat} (hk : k < 64) : lN n <<< ((nI k).toInt64 &&& 63) = lN (n * 2 ^ k) := by
  rw [wb_c k hk]
  apply wb_inj
  rw [Int64.toBitVec_shiftLeft, wb_tb, wb_tb, wb_tb, wb_sm k hk]
  apply BitVec.eq_of_toNat_eq
  rw [BitVec.shiftLeft_eq', BitVec.toNat_shiftLeft, BitVec.toNat_ofNat, BitVec.toNat_ofNat, BitVec.toNat_ofNat, Nat.mod_eq_of_lt (show k < 2 ^ 64 by omega), Nat.shiftLeft_eq, Nat.mul_mod, Nat.mod_mod, ← Nat.mul_mod]
theorem wb_or {a b : Nat} (ha : a < 2 ^ 64) (hb : b < 2 ^ 64) : lN a ||| lN b = lN (a ||| b) := by
  apply wb_inj
  rw [Int64.toBitVec_or, wb_tb, wb_tb, wb_tb]
  apply BitVec.eq_of_toNat_eq
  rw [BitVec.toNat_or, BitVec.toNat_ofNat, BitVec.toNat_ofNat, BitVec.toNat_ofNat, Nat.mod_eq_of_lt ha, Nat.mod_eq_of_lt hb, Nat.mod_eq_of_lt (Nat.or_lt_two_pow ha hb)]
def tbn (z : Int64) : Nat := z.toBitVec.toNat
def vN (b : Nat → Int32) (p : Nat) : Nat → Nat := fup (fun j a => a * 256 + tn (b (p + j))) 0
/-- a NAME that's no word of the text's own -/
def nmok (b : Nat → Int32) (n p : Nat) : Bool := decide (kd b n p = 1 ∧ wd b n p = -1 ∧ ln b n p ≤ 8)
def sgok (b : Nat → Int32) (n p s : Nat) : Bool := decide (p < n ∧ b p = nI s)
section WORDS
variable {v c n m q k p : Nat} {b : Nat → Int32} {w w' w'' x y z : cm_W}
theorem let_n {i : Int32} (h : bk i = 1) : i = nI (tn i) ∧ 97 ≤ tn i ∧ tn i ≤ 122 := by
  obtain ⟨h1, h2⟩ := (bk1 _).mp h
  have h0 : ¬ i < 0 := fun h => h1 (Int32.lt_trans h (by decide))
  obtain ⟨k, hk, rfl⟩ := nI_of h0
  rw [nI_lt_l (n := 122) (by decide) hk] at h2
  rw [nI_l_lt (n := 97) (by decide) hk] at h1
  have h1 : ¬ k < 97 := h1
  have h2 : ¬ 122 < k := h2
  rw [tn_nIe (by omega)]
  exact ⟨rfl, by omega, by omega⟩
theorem dig_n {i : Int32} (h : bk i = 2) : i = nI (tn i) ∧ 48 ≤ tn i ∧ tn i ≤ 57 := by
  obtain ⟨h1, h2⟩ := (bk2 _).mp h
  have h0 : ¬ i < 0 := fun h => h1 (Int32.lt_trans h (by decide))
  obtain ⟨k, hk, rfl⟩ := nI_of h0
  rw [nI_lt_l (n := 57) (by decide) hk] at h2
  rw [nI_l_lt (n := 48) (by decide) hk] at h1
  have h1 : ¬ k < 48 := h1
  have h2 : ¬ 57 < k := h2
  rw [tn_nIe (by omega)]
  exact ⟨rfl, by omega, by omega⟩
theorem shl_or (A : Nat) {c : Nat} (hc : c < 256) : (lN A <<< (Int32.toInt64 (8 : Int32) &&& 63)) ||| lN c = lN (A * 256 + c) := by
  have e1 : lN A <<< (Int32.toInt64 (8 : Int32) &&& 63) = lN (A * 2 ^ 8) := wb_shl A (k := 8) (by omega)
  rw [e1, wb_mod (A * 2 ^ 8), wb_or (by omega) (by omega)]
  have e2 : A * 2 ^ 8 % 2 ^ 64 = (A % 2 ^ 56) <<< 8 := by rw [Nat.shiftLeft_eq]; omega
  rw [e2, ← Nat.shiftLeft_add_eq_or_of_lt (by omega), Nat.shiftLeft_eq, wb_mod (A * 256 + c), wb_mod (A % 2 ^ 56 * 2 ^ 8 + c)]
  refine congrArg lN ?_
  have h := Nat.div_add_mod A (2 ^ 56)
  generalize A / 2 ^ 56 = Q at h
  generalize A % 2 ^ 56 = R at h ⊢
  subst h
  have e3 : (2 ^ 56 * Q + R) * 256 + c = R * 2 ^ 8 + c + 2 ^ 64 * Q := by omega
  rw [e3, Nat.add_mul_mod_self_left]
theorem vs_vN (l : Nat) (h : ∀ i, i < l → kd b n (p + i) = 1) : vs b 1 p l = lN (vN b p l) := by
  induction l with
  | zero => rfl
  | succ l ih =>
    have hl := h l (by omega)
    have pl := kd_lt (b := b) (n := n) (p := p + l) (by omega)
    rw [kd_b pl] at hl
    obtain ⟨k1, k2⟩ := (bk1 _).mp hl
    obtain ⟨e, h1, h2⟩ := let_n hl
    have st : vs b 1 p (l + 1) = (vs b 1 p l <<< (Int32.toInt64 (8 : Int32) &&& 63)) ||| (b (p + l) &&& (255 : Int32)).toInt64 := rfl
    have st2 : vN b p (l + 1) = vN b p l * 256 + tn (b (p + l)) := rfl
    rw [st, st2, ih (fun i hi => h i (by omega)), let_and _ k1 k2]
    generalize tn (b (p + l)) = t at *
    rw [e, nI_l (by omega)]
    exact shl_or _ (by omega)
theorem vN_lt (h : ∀ i, i < k → kd b n (p + i) = 1) : ∀ l, l ≤ k → vN b p l < 256 ^ l ∧ (1 ≤ l → 97 ≤ vN b p l) := by
  intro l
  induction l with
  | zero => intro _; exact ⟨by show (0 : Nat) < 1; omega, fun h => by omega⟩
  | succ l ih =>
    intro hl
    obtain ⟨i1, i2⟩ := ih (by omega)
    have hk := h l (by omega)
    rw [kd_b (kd_lt (b := b) (n := n) (p := p + l) (by omega))] at hk
    obtain ⟨e, h1, h2⟩ := let_n hk
    have st2 : vN b p (l + 1) = vN b p l * 256 + tn (b (p + l)) := rfl
    rw [st2, Nat.pow_succ]
    exact ⟨by omega, fun _ => by omega⟩
theorem vN_8 (l : Nat) (h : ∀ i, i < l + 8 → kd b n (p + i) = 1) : 97 * 2 ^ 56 ≤ vN b p (l + 8) % 2 ^ 64 := by
  have d : ∀ j, j < 8 → 97 ≤ tn (b (p + (l + j))) ∧ tn (b (p + (l + j))) ≤ 122 := fun j hj => by
    have hk := h (l + j) (by omega)
    rw [kd_b (kd_lt (b := b) (n := n) (p := p + (l + j)) (by omega))] at hk
    exact (let_n hk).2
  have s : ∀ j, vN b p (l + (j + 1)) = vN b p (l + j) * 256 + tn (b (p + (l + j))) := fun j => rfl
  rw [show l + 8 = l + (7 + 1) from rfl, s 7, show l + 7 = l + (6 + 1) from rfl, s 6, show l + 6 = l + (5 + 1) from rfl, s 5, show l + 5 = l + (4 + 1) from rfl, s 4, show l + 4 = l + (3 + 1) from rfl, s 3, show l + 3 = l + (2 + 1) from rfl, s 2, show l + 2 = l + (1 + 1) from rfl, s 1, show l + 1 = l + (0 + 1) from rfl, s 0]
  have d0 := d 0 (by omega)
  have d1 := d 1 (by omega)
  have d2 := d 2 (by omega)
  have d3 := d 3 (by omega)
  have d4 := d 4 (by omega)
  have d5 := d 5 (by omega)
  have d6 := d 6 (by omega)
  have d7 := d 7 (by omega)
  generalize tn (b (p + (l + 0))) = t0 at *
  generalize tn (b (p + (l + 1))) = t1 at *
  generalize tn (b (p + (l + 2))) = t2 at *
  generalize tn (b (p + (l + 3))) = t3 at *
  generalize tn (b (p + (l + 4))) = t4 at *
  generalize tn (b (p + (l + 5))) = t5 at *
  generalize tn (b (p + (l + 6))) = t6 at *
  generalize tn (b (p + (l + 7))) = t7 at *
  generalize vN b p (l + 0) = A
  omega
theorem lw_small : ∀ j, j < 14 → ∃ k, 1 ≤ k ∧ k < 2 ^ 48 ∧ lw_wl j = lN k := by
  intro j hj
  match j, hj with
  | 0, _ => exact ⟨499967946343, by decide, by decide, rfl⟩
  | 1, _ => exact ⟨7825519, by decide, by decide, rfl⟩
  | 2, _ => exact ⟨439855377523, by decide, by decide, rfl⟩
  | 3, _ => exact ⟨1885432178, by decide, by decide, rfl⟩
  | 4, _ => exact ⟨461262647411, by decide, by decide, rfl⟩
  | 5, _ => exact ⟨512802514792, by decide, by decide, rfl⟩
  | 6, _ => exact ⟨495672453989, by decide, by decide, rfl⟩
  | 7, _ => exact ⟨126926742711411, by decide, by decide, rfl⟩
  | 8, _ => exact ⟨1717660018, by decide, by decide, rfl⟩
  | 9, _ => exact ⟨1851878757, by decide, by decide, rfl⟩
  | 10, _ => exact ⟨465558138734, by decide, by decide, rfl⟩
  | 11, _ => exact ⟨1650815860, by decide, by decide, rfl⟩
  | 12, _ => exact ⟨426952976750, by decide, by decide, rfl⟩
  | 13, _ => exact ⟨495925031534, by decide, by decide, rfl⟩
theorem wdx_no {X : Int64} (h : ∀ j, j < 14 → lw_wl j ≠ X) : wdx X = -1 := by
  have : ∀ k i, i + k = 14 → wdf X k i = -1 := by
    intro k
    induction k with
    | zero => intro i _; rfl
    | succ k ih =>
      intro i hi
      show (if lw_wl i = X then nI i else wdf X k (i + 1)) = -1
      rw [if_neg (h i (by omega))]
      exact ih (i + 1) (by omega)
  exact this 14 0 rfl
theorem wdx_yes {j : Nat} (hj : j < 14) : wdx (lw_wl j) = nI j := by
  have : ∀ j : Fin 14, wdx (lw_wl j.1) = nI j.1 := by decide +kernel
  exact this ⟨j, hj⟩
theorem wdx_cs (X : Int64) : (∃ j, j < 14 ∧ X = lw_wl j) ∨ ((∀ j, j < 14 → lw_wl j ≠ X) ∧ wdx X = -1) := by
  by_cases h : ∃ j, j < 14 ∧ X = lw_wl j
  · exact Or.inl h
  · have h' : ∀ j, j < 14 → lw_wl j ≠ X := fun j hj e => h ⟨j, hj, e.symm⟩
    exact Or.inr ⟨h', wdx_no h'⟩
theorem wl_le (h : wl b n p ≤ 8) : wv b n p = lN (vN b p (wl b n p)) := by
  unfold wv
  rw [if_pos h]
  exact vs_vN _ wl_run.1
theorem vl_1 (h : kd b n p = 1) : vl b n p = lN (vN b p (ln b n p)) := by
  unfold vl
  rw [h]
  refine vs_vN (n := n) _ fun i hi => ?_
  rw [(ln_12 (b := b) (n := n) (p := p) (Or.inl h)).1 i hi, h]
/-- a long word is none of the text's own -/
theorem wd_long (h : kd b n p = 1) (h8 : 8 < ln b n p) : wd b n p = -1 := by
  unfold wd
  rw [if_pos h]
  refine wdx_no fun j hj e => ?_
  rw [vl_1 h] at e
  obtain ⟨k, k1, k2, k3⟩ := lw_small j hj
  have hr := (ln_12 (b := b) (n := n) (p := p) (Or.inl h)).1
  have v8 := vN_8 (b := b) (n := n) (p := p) (ln b n p - 8) (fun i hi => by rw [hr i (by omega), h])
  rw [show ln b n p - 8 + 8 = ln b n p by omega] at v8
  rw [k3, wb_mod (vN b p (ln b n p))] at e
  have := congrArg tbn e
  unfold tbn at this
  rw [wb_tn (by omega), wb_tn (by omega)] at this
  omega
theorem wv_0 : wv b n p = 0 ↔ ¬ (kd b n p = 1 ∧ ln b n p ≤ 8) := by
  by_cases h : kd b n p = 1
  · have el : wl b n p = ln b n p := if_pos h
    by_cases h8 : ln b n p ≤ 8
    · have hr := (ln_12 (b := b) (n := n) (p := p) (Or.inl h)).1
      have l1 := (ln_pos (b := b) (n := n) (p := p) (Or.inl h)).1
      obtain ⟨v1, v2⟩ := vN_lt (b := b) (n := n) (p := p) (k := ln b n p) (fun i hi => by rw [hr i hi, h]) (ln b n p) (Nat.le_refl _)
      rw [wl_le (by omega), el]
      have v3 : vN b p (ln b n p) < 2 ^ 64 := by
        have : 256 ^ ln b n p ≤ 256 ^ 8 := Nat.pow_le_pow_right (by omega) h8
        omega
      constructor
      · intro e
        have := congrArg tbn e
        unfold tbn at this
        rw [wb_tn v3] at this
        have v4 := v2 l1
        have : vN b p (ln b n p) = 0 := this
        omega
      · intro e; exact absurd ⟨h, h8⟩ e
    · constructor
      · intro _ e; exact h8 e.2
      · intro _
        unfold wv
        rw [if_neg (by omega)]
  · have el : wl b n p = 0 := if_neg h
    constructor
    · intro _ e; exact h e.1
    · intro _
      unfold wv
      rw [el]; rfl
theorem wv_vl (h : kd b n p = 1) (h8 : ln b n p ≤ 8) : wv b n p = vl b n p := by
  have el : wl b n p = ln b n p := if_pos h
  unfold wv vl
  rw [el, if_pos h8, h]
/-- the reference's word is the class's -/
theorem wv_wd {j : Nat} (hj : j < 14) : wv b n p = lw_wl j ↔ wd b n p = nI j := by
  obtain ⟨k, k1, k2, k3⟩ := lw_small j hj
  by_cases h : kd b n p = 1 ∧ ln b n p ≤ 8
  · rw [wv_vl h.1 h.2]
    unfold wd
    rw [if_pos h.1]
    constructor
    · intro e; rw [e]; exact wdx_yes hj
    · intro e
      rcases wdx_cs (vl b n p) with ⟨i, hi, e2⟩ | ⟨-, e2⟩
      · rw [e2, wdx_yes hi] at e
        have := (nI_eq (a := i) (b := j) (by omega) (by omega)).mp e
        rw [e2, this]
      · rw [e2, m1_nI (by omega)] at e
        exact e.elim
  · have e0 := wv_0.mpr h
    have e1 : wd b n p = -1 := by
      by_cases h1 : kd b n p = 1
      · exact wd_long h1 (by
          by_cases h8 : 8 < ln b n p
          · exact h8
          · exact absurd ⟨h1, by omega⟩ h)
      · exact if_neg h1
    rw [e0, e1]
    constructor
    · intro e
      rw [k3] at e
      have := congrArg tbn e
      unfold tbn at this
      rw [wb_tn (by omega)] at this
      have : 0 = k := this
      omega
    · intro e
      rw [m1_nI (by omega)] at e
      exact e.elim
theorem wd_cs : (∃ j, j < 14 ∧ wd b n p = nI j ∧ kd b n p = 1 ∧ ln b n p ≤ 8) ∨ wd b n p = -1 := by
  by_cases h : kd b n p = 1
  · by_cases h8 : ln b n p ≤ 8
    · rcases wdx_cs (vl b n p) with ⟨i, hi, e2⟩ | ⟨-, e2⟩
      · refine Or.inl ⟨i, hi, ?_, h, h8⟩
        unfold wd
        rw [if_pos h, e2]; exact wdx_yes hi
      · refine Or.inr ?_
        unfold wd
        rw [if_pos h, e2]
    · exact Or.inr (wd_long h (by omega))
  · exact Or.inr (if_neg h)
theorem wv_wdx : wv b n p ≠ 0 → wdx (wv b n p) = wd b n p := by
  intro h
  have h' : kd b n p = 1 ∧ ln b n p ≤ 8 := by
    by_cases z : kd b n p = 1 ∧ ln b n p ≤ 8
    · exact z
    · exact absurd (wv_0.mpr z) h
  rw [wv_vl h'.1 h'.2]
  unfold wd
  rw [if_pos h'.1]
theorem wdx_0 : wdx 0 = -1 := by decide +kernel
/-- the reference's manner -/
theorem m207 (w : cm_W) (X : Int64) : fn_207 w X = some (if wdx X - 8 < 0 then -1 else wdx X - 8) := by
  rcases wdx_cs X with ⟨j, hj, rfl⟩ | ⟨h, e⟩
  · have : ∀ j : Fin 14, fn_207 (lw_w0 (fun _ => 0) 0) (lw_wl j.1) = some (if wdx (lw_wl j.1) - 8 < 0 then -1 else wdx (lw_wl j.1) - 8) := by decide +kernel
    exact this ⟨j, hj⟩
  · rw [e, if_pos (by decide)]
    have h8 : ¬ X = 1717660018 := fun q => h 8 (by omega) q.symm
    have h9 : ¬ X = 1851878757 := fun q => h 9 (by omega) q.symm
    have h10 : ¬ X = 465558138734 := fun q => h 10 (by omega) q.symm
    have h11 : ¬ X = 1650815860 := fun q => h 11 (by omega) q.symm
    have h12 : ¬ X = 426952976750 := fun q => h 12 (by omega) q.symm
    have h13 : ¬ X = 495925031534 := fun q => h 13 (by omega) q.symm
    simp only [fn_207, fn_207_12, fn_207_24, fn_207_36, fn_207_48, fn_207_60, lgc_eq, h8, h9, h10, h11, h12, h13, not_false_eq_true, ↓reduceIte]
/-- the reference's words of its own -/
theorem m208 (w : cm_W) (X : Int64) : fn_208 w X = some (decide (wdx X ≠ -1)) := by
  rcases wdx_cs X with ⟨j, hj, rfl⟩ | ⟨h, e⟩
  · have : ∀ j : Fin 14, fn_208 (lw_w0 (fun _ => 0) 0) (lw_wl j.1) = some (decide (wdx (lw_wl j.1) ≠ -1)) := by decide +kernel
    exact this ⟨j, hj⟩
  · have m := m207 w X
    rw [e, if_pos (by decide)] at m
    have h0 : ¬ X = 499967946343 := fun q => h 0 (by omega) q.symm
    have h1 : ¬ X = 7825519 := fun q => h 1 (by omega) q.symm
    have h2 : ¬ X = 439855377523 := fun q => h 2 (by omega) q.symm
    have h3 : ¬ X = 1885432178 := fun q => h 3 (by omega) q.symm
    have h4 : ¬ X = 461262647411 := fun q => h 4 (by omega) q.symm
    have h5 : ¬ X = 512802514792 := fun q => h 5 (by omega) q.symm
    have h6 : ¬ X = 495672453989 := fun q => h 6 (by omega) q.symm
    have h7 : ¬ X = 126926742711411 := fun q => h 7 (by omega) q.symm
    rw [e, decide_eq_false (fun h => h rfl)]
    simp only [fn_208, lgc_eq, h0, h1, h2, h3, h4, h5, h6, h7, m, Option.bind_some, ↓reduceIte]
end WORDS
