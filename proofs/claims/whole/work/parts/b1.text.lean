/-! a text: kinds, blanks, runs, values; what is read at a place -/
def bk (x : Int32) : Nat := if x = 32 then 4 else if x = 10 then 4 else if x < 97 then (if x < 48 then 3 else if 57 < x then 3 else 2) else if 122 < x then (if x < 48 then 3 else if 57 < x then 3 else 2) else 1
def kd (b : Nat → Int32) (n p : Nat) : Nat := if p < n then bk (b p) else 0
def skN (b : Nat → Int32) (n : Nat) : Nat → Nat → Nat
  | 0, p => p
  | k + 1, p => if kd b n p = 4 then skN b n k (p + 1) else p
def sk (b : Nat → Int32) (n p : Nat) : Nat := skN b n (n - p) p
def runN (b : Nat → Int32) (n c : Nat) : Nat → Nat → Nat
  | 0, _ => 0
  | k + 1, p => if kd b n p = c then runN b n c k (p + 1) + 1 else 0
def ln (b : Nat → Int32) (n p : Nat) : Nat := if kd b n p = 3 then 1 else if kd b n p = 1 ∨ kd b n p = 2 then runN b n (kd b n p) (n - p) p else 0
def vs (b : Nat → Int32) (c p : Nat) : Nat → Int64 := fup (fun j a => if c = 2 then a * 10 + (b (p + j) - 48).toInt64 else (a <<< (Int32.toInt64 (8 : Int32) &&& 63)) ||| (b (p + j) &&& (255 : Int32)).toInt64) 0
def vl (b : Nat → Int32) (n p : Nat) : Int64 := vs b (kd b n p) p (ln b n p)
def nxt (b : Nat → Int32) (n p : Nat) : Nat := sk b n (p + ln b n p)
def pos (b : Nat → Int32) (n : Nat) : Nat → Nat
  | 0 => sk b n 0
  | j + 1 => nxt b n (pos b n j)
def wdf (x : Int64) : Nat → Nat → Int32
  | 0, _ => -1
  | k + 1, j => if lw_wl j = x then nI j else wdf x k (j + 1)
def wdx (x : Int64) : Int32 := wdf x 14 0
def wd (b : Nat → Int32) (n p : Nat) : Int32 := if kd b n p = 1 then wdx (vl b n p) else -1
section TEXT
variable {b : Nat → Int32} {n p q c k l : Nat}
theorem bk_rg (x : Int32) : 1 ≤ bk x ∧ bk x ≤ 4 := by
  unfold bk
  split
  · omega
  · split
    · omega
    · split
      · split
        · omega
        · split <;> omega
      · split
        · split
          · omega
          · split <;> omega
        · omega
theorem kd_le (b : Nat → Int32) (n p : Nat) : kd b n p ≤ 4 := by
  unfold kd
  split
  · exact (bk_rg _).2
  · omega
theorem kd_0 : kd b n p = 0 ↔ n ≤ p := by
  unfold kd
  split
  · have := (bk_rg (b p)).1
    omega
  · omega
theorem kd_n (b : Nat → Int32) (n : Nat) : kd b n n = 0 := kd_0.mpr (Nat.le_refl _)
theorem skN_ok : ∀ k p, n - p ≤ k → p ≤ skN b n k p ∧ (p ≤ n → skN b n k p ≤ n) ∧ kd b n (skN b n k p) ≠ 4 ∧ ∀ j, p ≤ j → j < skN b n k p → kd b n j = 4 := by
  intro k
  induction k with
  | zero =>
    intro p hp
    have h0 : kd b n p = 0 := kd_0.mpr (by omega)
    exact ⟨Nat.le_refl _, fun h => h, by show kd b n p ≠ 4; omega, fun j h1 h2 => by have h2 : j < p := h2; omega⟩
  | succ k ih =>
    intro p hp
    have e : skN b n (k + 1) p = if kd b n p = 4 then skN b n k (p + 1) else p := rfl
    rw [e]
    by_cases z : kd b n p = 4
    · rw [if_pos z]
      have pn : p < n := by
        by_cases h : p < n
        · exact h
        · have := (kd_0 (b := b)).mpr (Nat.le_of_not_lt h); omega
      obtain ⟨h1, h2, h3, h4⟩ := ih (p + 1) (by omega)
      refine ⟨by omega, fun _ => h2 (by omega), h3, fun j h5 h6 => ?_⟩
      by_cases q : j = p
      · rw [q]; exact z
      · exact h4 j (by omega) h6
    · rw [if_neg z]
      exact ⟨Nat.le_refl _, fun h => h, z, fun j h1 h2 => by omega⟩
theorem sk_ge (b : Nat → Int32) (n p : Nat) : p ≤ sk b n p := (skN_ok _ p (Nat.le_refl _)).1
theorem sk_le (h : p ≤ n) : sk b n p ≤ n := (skN_ok _ p (Nat.le_refl _)).2.1 h
theorem sk_nb (b : Nat → Int32) (n p : Nat) : kd b n (sk b n p) ≠ 4 := (skN_ok _ p (Nat.le_refl _)).2.2.1
theorem sk_bl {j : Nat} (h1 : p ≤ j) (h2 : j < sk b n p) : kd b n j = 4 := (skN_ok _ p (Nat.le_refl _)).2.2.2 j h1 h2
theorem sk_un (h1 : p ≤ q) (h2 : ∀ j, p ≤ j → j < q → kd b n j = 4) (h3 : kd b n q ≠ 4) : sk b n p = q := by
  by_cases z : sk b n p < q
  · exact absurd (h2 _ (sk_ge b n p) z) (sk_nb b n p)
  · by_cases z2 : q < sk b n p
    · exact absurd (sk_bl h1 z2) h3
    · omega
theorem sk_id (h : kd b n p ≠ 4) : sk b n p = p := sk_un (Nat.le_refl _) (fun j h1 h2 => by omega) h
theorem sk_sk (b : Nat → Int32) (n p : Nat) : sk b n (sk b n p) = sk b n p := sk_id (sk_nb b n p)
theorem sk_1 (h : kd b n p = 4) : sk b n (p + 1) = sk b n p := by
  have ne : p ≠ sk b n p := fun e => by have := sk_nb b n p; rw [← e] at this; exact this h
  have ge := sk_ge b n p
  exact sk_un (by omega) (fun j h1 h2 => sk_bl (by omega) h2) (sk_nb b n p)
theorem runN_ok (hc : c ≠ 0) : ∀ k p, n - p ≤ k → (∀ i, i < runN b n c k p → kd b n (p + i) = c) ∧ kd b n (p + runN b n c k p) ≠ c := by
  intro k
  induction k with
  | zero =>
    intro p hp
    have h0 : kd b n p = 0 := kd_0.mpr (by omega)
    exact ⟨fun i h => absurd h (Nat.not_lt_zero i), by show kd b n p ≠ c; omega⟩
  | succ k ih =>
    intro p hp
    have e : runN b n c (k + 1) p = if kd b n p = c then runN b n c k (p + 1) + 1 else 0 := rfl
    rw [e]
    by_cases z : kd b n p = c
    · rw [if_pos z]
      have pn : p < n := by
        by_cases h : p < n
        · exact h
        · have := (kd_0 (b := b)).mpr (Nat.le_of_not_lt h); omega
      obtain ⟨h1, h2⟩ := ih (p + 1) (by omega)
      refine ⟨fun i hi => ?_, ?_⟩
      · by_cases q : i = 0
        · rw [q]; exact z
        · have := h1 (i - 1) (by omega)
          rw [show p + 1 + (i - 1) = p + i by omega] at this
          exact this
      · rw [show p + (runN b n c k (p + 1) + 1) = p + 1 + runN b n c k (p + 1) by omega]
        exact h2
    · rw [if_neg z]
      exact ⟨fun i h => absurd h (Nat.not_lt_zero i), z⟩
theorem ln_3 (h : kd b n p = 3) : ln b n p = 1 := if_pos h
theorem ln_0 (h : kd b n p = 0) : ln b n p = 0 := by
  unfold ln
  rw [h]; rfl
theorem ln_12 (h : kd b n p = 1 ∨ kd b n p = 2) : (∀ i, i < ln b n p → kd b n (p + i) = kd b n p) ∧ kd b n (p + ln b n p) ≠ kd b n p := by
  have e : ln b n p = runN b n (kd b n p) (n - p) p := by
    unfold ln
    rw [if_neg (by omega), if_pos h]
  rw [e]
  exact runN_ok (by omega) _ p (Nat.le_refl _)
theorem ln_pos (h : kd b n p = 1 ∨ kd b n p = 2 ∨ kd b n p = 3) : 1 ≤ ln b n p ∧ p + ln b n p ≤ n := by
  have pn : p < n := by
    by_cases h' : p < n
    · exact h'
    · have := (kd_0 (b := b)).mpr (Nat.le_of_not_lt h'); omega
  by_cases h3 : kd b n p = 3
  · rw [ln_3 h3]; omega
  · obtain ⟨h1, h2⟩ := ln_12 (b := b) (n := n) (p := p) (by omega)
    refine ⟨?_, ?_⟩
    · by_cases z : ln b n p = 0
      · rw [z] at h2; exact absurd rfl h2
      · omega
    · by_cases z : p + ln b n p ≤ n
      · exact z
      · have := h1 (n - p) (by omega)
        rw [show p + (n - p) = n by omega, kd_n] at this
        omega
theorem ln_un (h : kd b n p = 1 ∨ kd b n p = 2) (h1 : ∀ i, i < l → kd b n (p + i) = kd b n p) (h2 : kd b n (p + l) ≠ kd b n p) : ln b n p = l := by
  obtain ⟨h3, h4⟩ := ln_12 (b := b) (n := n) (p := p) h
  by_cases z : ln b n p < l
  · exact absurd (h1 _ z) h4
  · by_cases z2 : l < ln b n p
    · exact absurd (h3 _ z2) h2
    · omega
theorem nxt_le (h : p ≤ n) : nxt b n p ≤ n := by
  unfold nxt
  refine sk_le ?_
  by_cases z : kd b n p = 1 ∨ kd b n p = 2 ∨ kd b n p = 3
  · exact (ln_pos z).2
  · have : ln b n p = 0 := by
      unfold ln
      rw [if_neg (by omega), if_neg (by omega)]
    omega
theorem pos_le (b : Nat → Int32) (n : Nat) : ∀ j, pos b n j ≤ n := by
  intro j
  induction j with
  | zero => exact sk_le (Nat.zero_le _)
  | succ j ih => exact nxt_le ih
theorem pos_nb (b : Nat → Int32) (n : Nat) : ∀ j, kd b n (pos b n j) ≠ 4 := by
  intro j
  cases j with
  | zero => exact sk_nb b n 0
  | succ j => exact sk_nb b n _
theorem kind_ok (w : cm_W) (x : Int32) : fn_57 w x = some (nI (bk x)) := by
  unfold fn_57 bk
  by_cases h1 : x = 32
  · rw [if_pos h1, if_pos h1]; rfl
  · rw [if_neg h1, if_neg h1]
    by_cases h2 : x = 10
    · rw [if_neg (fun h => h h2), if_pos h2]; rfl
    · rw [if_pos h2, if_neg h2]
      unfold fn_57_14
      have e28 : fn_57_28 w x = some (nI (if x < 48 then 3 else if 57 < x then 3 else 2)) := by
        unfold fn_57_28
        by_cases h5 : x < 48
        · rw [if_pos h5, if_pos h5]; rfl
        · rw [if_neg h5, if_neg h5]
          by_cases h6 : 57 < x
          · rw [if_pos h6, if_pos h6]; rfl
          · rw [if_neg h6, if_neg h6]; rfl
      by_cases h3 : x < 97
      · rw [if_pos h3, if_pos h3, e28]
      · rw [if_neg h3, if_neg h3]
        by_cases h4 : 122 < x
        · rw [if_pos h4, if_pos h4, e28]
        · rw [if_neg h4, if_neg h4]; rfl
end TEXT
