/-! masks of things -/
def msk (b : Nat → Bool) : Nat → Int32 := fup (fun t a => if b t then a ||| ((1 : Int32) <<< (nI t &&& 31)) else a) 0
theorem bt1 (x : Int32) {k : Nat} (hk : k < 8) : ((x >>> (nI k &&& 31)) &&& (1 : Int32) = 1) ↔ x.toBitVec.getLsbD k = true := by
  have e : ∀ y : Int32, (y &&& (1 : Int32) = 1) ↔ y.toBitVec.getLsbD 0 = true := fun y => by
    rw [← Int32.toBitVec_inj]
    rw [Int32.toBitVec_and]
    constructor
    · intro h
      have := congrArg (fun z : BitVec 32 => z.getLsbD 0) h
      simpa using this
    · intro h
      ext i hi
      by_cases z : i = 0
      · subst z; simpa using h
      · have : (1 : Int32).toBitVec[i] = false := by
          show (1#32)[i] = false
          simp [z]
        rw [BitVec.getElem_and, this, Bool.and_false]
  rw [e, Int32.toBitVec_shiftRight]
  have e2 : ∀ k : Fin 8, ((nI k.1 &&& 31 : Int32).toBitVec.smod 32).toNat = k.1 := by decide +kernel
  show ((x.toBitVec.sshiftRight ((nI k &&& 31 : Int32).toBitVec.smod 32).toNat).getLsbD 0 = true ↔ _)
  rw [e2 ⟨k, hk⟩, BitVec.getLsbD_sshiftRight, if_pos (show k + 0 < 32 by omega), Nat.add_zero]
  simp
theorem bt2 {j k : Nat} (hj : j < 8) (hk : k < 8) : ((1 : Int32) <<< (nI j &&& 31)).toBitVec.getLsbD k = decide (k = j) := by
  have : ∀ j : Fin 8, ∀ k : Fin 8, ((1 : Int32) <<< (nI j.1 &&& 31)).toBitVec.getLsbD k.1 = decide (k.1 = j.1) := by decide +kernel
  exact this ⟨j, hj⟩ ⟨k, hk⟩
theorem sh0 {j : Nat} (hj : j < 8) : ((0 : Int32) <<< (nI j &&& 31)) = 0 := by
  have : ∀ j : Fin 8, ((0 : Int32) <<< (nI j.1 &&& 31)) = 0 := by decide +kernel
  exact this ⟨j, hj⟩
theorem msk_bit (b : Nat → Bool) {k : Nat} (hk : k < 8) : ∀ n, n ≤ 8 → (msk b n).toBitVec.getLsbD k = (decide (k < n) && b k) := by
  intro n
  induction n with
  | zero =>
    intro _
    show (0 : Int32).toBitVec.getLsbD k = _
    simp
  | succ n ih =>
    intro hn
    have i0 := ih (by omega)
    show (if b n then msk b n ||| ((1 : Int32) <<< (nI n &&& 31)) else msk b n).toBitVec.getLsbD k = _
    by_cases z : b n = true
    · rw [if_pos z, Int32.toBitVec_or, BitVec.getLsbD_or, i0, bt2 (by omega) hk]
      by_cases e : k = n
      · subst e; simp [z]
      · have : decide (k < n + 1) = decide (k < n) := decide_eq_decide.mpr (by omega)
        rw [this]; simp [e]
    · rw [if_neg z, i0]
      by_cases e : k = n
      · subst e; simp [z]
      · have : decide (k < n + 1) = decide (k < n) := decide_eq_decide.mpr (by omega)
        rw [this]
theorem m196 (w : cm_W) (b : Nat → Bool) {k n : Nat} (hn : n ≤ 8) (hk : k < n) : fn_196 w (msk b n) (nI k) = some (b k) := by
  unfold fn_196
  have h := msk_bit b (k := k) (by omega) n hn
  rw [decide_eq_true hk, Bool.true_and] at h
  by_cases z : b k = true
  · rw [if_neg (fun q => q ((bt1 _ (by omega)).mpr (h.trans z))), z]
  · rw [if_pos (fun q => z (h.symm.trans ((bt1 _ (by omega)).mp q)))]
    rw [Bool.not_eq_true] at z
    rw [z]
theorem msk_no (b : Nat → Bool) : ∀ n, (∀ k, k < n → b k = false) → msk b n = 0 := by
  intro n
  induction n with
  | zero => intro _; rfl
  | succ n ih =>
    intro h
    show (if b n then _ else msk b n) = 0
    rw [h n (by omega), if_neg (by decide)]
    exact ih (fun k hk => h k (by omega))
theorem msk_yes (b : Nat → Bool) {k n : Nat} (hn : n ≤ 8) (hk : k < n) (h : b k = true) : msk b n ≠ 0 := by
  intro z
  have e := msk_bit b (k := k) (by omega) n hn
  rw [z, h, decide_eq_true hk] at e
  simp at e
theorem msk_cg {b d : Nat → Bool} : ∀ n, (∀ k, k < n → b k = d k) → msk b n = msk d n := by
  intro n h
  refine fup_cg fun k x hk => ?_
  rw [h k hk]
theorem msk_ext {b : Nat → Bool} {n : Nat} (h : ∀ k, n ≤ k → b k = false) : ∀ m, n ≤ m → msk b m = msk b n := by
  intro m
  induction m with
  | zero => intro hm; rw [show n = 0 by omega]
  | succ m ih =>
    intro hm
    by_cases q : n = m + 1
    · rw [q]
    · show (if b m then _ else msk b m) = _
      rw [h m (by omega), if_neg (by decide)]
      exact ih (by omega)
