/-! the market, without any program: amounts D, worths U, kept prices K of n things -/
def sgm (f : Nat → Nat) : Nat → Nat
  | 0 => 0
  | n + 1 => sgm f n + f n
theorem sgm_cg {f g : Nat → Nat} : ∀ n, (∀ k, k < n → f k = g k) → sgm f n = sgm g n := by
  intro n
  induction n with
  | zero => intro _; rfl
  | succ n ih => intro h; show sgm f n + f n = sgm g n + g n; rw [ih (fun k hk => h k (by omega)), h n (by omega)]
theorem sgm_le {f g : Nat → Nat} : ∀ n, (∀ k, k < n → f k ≤ g k) → sgm f n ≤ sgm g n := by
  intro n
  induction n with
  | zero => intro _; exact Nat.le_refl _
  | succ n ih => intro h; have := ih (fun k hk => h k (by omega)); have := h n (by omega); show sgm f n + f n ≤ sgm g n + g n; omega
theorem sgm_mul {f : Nat → Nat} (c : Nat) : ∀ n, sgm (fun k => c * f k) n = c * sgm f n := by
  intro n
  induction n with
  | zero => rfl
  | succ n ih => show sgm _ n + c * f n = c * (sgm f n + f n); rw [ih, Nat.mul_add]
theorem sgm_add {f g : Nat → Nat} : ∀ n, sgm (fun k => f k + g k) n = sgm f n + sgm g n := by
  intro n
  induction n with
  | zero => rfl
  | succ n ih => show sgm _ n + (f n + g n) = (sgm f n + f n) + (sgm g n + g n); rw [ih]; omega
theorem sgm_bd {f : Nat → Nat} (c : Nat) : ∀ n, (∀ k, k < n → f k ≤ c) → sgm f n ≤ c * n := by
  intro n
  induction n with
  | zero => intro _; exact Nat.le_refl _
  | succ n ih => intro h; have := ih (fun k hk => h k (by omega)); have := h n (by omega); show sgm f n + f n ≤ c * (n + 1); rw [Nat.mul_add]; omega
theorem sgm_pos {f : Nat → Nat} : ∀ n k, k < n → 0 < f k → 0 < sgm f n := by
  intro n
  induction n with
  | zero => intro k h; omega
  | succ n ih =>
    intro k h h2
    show 0 < sgm f n + f n
    by_cases q : k = n
    · subst q; omega
    · have := ih k (by omega) h2; omega
theorem sgm_0 {f : Nat → Nat} : ∀ n, (∀ k, k < n → f k = 0) → sgm f n = 0 := by
  intro n h
  have := sgm_bd (f := f) 0 n (fun k hk => by rw [h k hk]; exact Nat.le_refl _)
  omega
theorem sgm_ex {f : Nat → Nat} {n : Nat} (h : sgm f n ≠ 0) : ∃ k, k < n ∧ 0 < f k := by
  by_cases q : ∃ k, k < n ∧ 0 < f k
  · exact q
  · exact absurd (sgm_0 n (fun k hk => Nat.eq_zero_of_not_pos fun z => q ⟨k, hk, z⟩)) h
theorem sgm_ext {f : Nat → Nat} {n m : Nat} (h : n ≤ m) (h0 : ∀ k, n ≤ k → f k = 0) : sgm f m = sgm f n := by
  induction m with
  | zero => rw [show n = 0 by omega]
  | succ m ih =>
    by_cases q : n = m + 1
    · rw [q]
    · show sgm f m + f m = _
      rw [ih (by omega), h0 m (by omega), Nat.add_zero]
def Mk : Type := (Nat → Nat) × (Nat → Nat) × (Nat → Nat) × Nat
def Mk.D (m : Mk) : Nat → Nat := m.1
def Mk.U (m : Mk) : Nat → Nat := m.2.1
def Mk.K (m : Mk) : Nat → Nat := m.2.2.1
def Mk.n (m : Mk) : Nat := m.2.2.2
section MK
variable (m : Mk)
def Mk.sold (q t : Nat) : Bool := decide (0 < m.D t ∧ m.K t ≤ q)
def Mk.SD (q : Nat) : Nat := sgm (fun t => if m.sold q t then m.D t else 0) m.n
def Mk.SU (q : Nat) : Nat := sgm (fun t => if m.sold q t then m.D t * m.U t else 0) m.n
/-- one more than the mean price of what is sold at q, if that is at least q -/
def Mk.good (q : Nat) : Bool := decide (0 < m.SD q ∧ q ≤ m.SU q / m.SD q)
def Mk.scan : Nat → Nat
  | 0 => 0
  | q + 1 => if m.good q then q + 1 else scan q
/-- one more than the price at which the market rests; 0: none -/
def Mk.rest : Nat := m.scan 1000
def Mk.cl (t a : Nat) : Nat := if 0 < m.D t ∧ m.K t ≤ m.SU (m.K t) / m.SD (m.K t) then (if a < m.SU (m.K t) / m.SD (m.K t) + 1 then m.SU (m.K t) / m.SD (m.K t) + 1 else a) else a
def Mk.Ok : Prop := (∀ t, t < m.n → m.K t ≤ m.U t ∧ m.U t < 1000 ∧ m.D t ≤ 100000000000000) ∧ (∀ t u, t < m.n → u < m.n → m.K t < m.K u → m.U t ≤ m.U u) ∧ m.n ≤ 8 ∧ ∀ t, m.n ≤ t → m.D t = 0
theorem Mk.scan_le (N : Nat) : m.scan N ≤ N := by
  induction N with
  | zero => exact Nat.le_refl _
  | succ N ih => show (if m.good N then N + 1 else m.scan N) ≤ _; split <;> omega
theorem Mk.scan_ge {q : Nat} (h : m.good q = true) : ∀ N, q < N → q + 1 ≤ m.scan N := by
  intro N
  induction N with
  | zero => intro h; omega
  | succ N ih =>
    intro hq
    show _ ≤ if m.good N then N + 1 else m.scan N
    by_cases z : q = N
    · subst z; rw [if_pos h]; omega
    · split
      · omega
      · exact ih (by omega)
theorem Mk.scan_good : ∀ N q, m.scan N = q + 1 → m.good q = true := by
  intro N
  induction N with
  | zero => intro q h; cases h
  | succ N ih =>
    intro q h
    by_cases z : m.good N = true
    · have h' : (if m.good N then N + 1 else m.scan N) = q + 1 := h
      rw [if_pos z] at h'
      rw [show q = N by omega]; exact z
    · have h' : (if m.good N then N + 1 else m.scan N) = q + 1 := h
      rw [if_neg z] at h'
      exact ih q h'
end MK
section MK2
variable {m : Mk}
theorem Mk.SD_le (h : m.Ok) (q : Nat) : m.SD q ≤ 800000000000000 := by
  have := sgm_bd (f := fun t => if m.sold q t then m.D t else 0) 100000000000000 m.n (fun k hk => by
    have := (h.1 k hk).2.2
    show (if m.sold q k then m.D k else 0) ≤ _
    split <;> omega)
  have h2 := h.2.2.1
  have h3 : 100000000000000 * m.n ≤ 100000000000000 * 8 := Nat.mul_le_mul_left _ h2
  exact Nat.le_trans this (by omega)
theorem Mk.SU_B {q B : Nat} (h : ∀ t, t < m.n → m.sold q t = true → m.U t ≤ B) : m.SU q ≤ B * m.SD q := by
  unfold SU SD
  rw [← sgm_mul]
  refine sgm_le _ fun k hk => ?_
  show (if m.sold q k then m.D k * m.U k else 0) ≤ B * if m.sold q k then m.D k else 0
  by_cases z : m.sold q k = true
  · rw [if_pos z, if_pos z, Nat.mul_comm]; exact Nat.mul_le_mul_right _ (h k hk z)
  · rw [if_neg z]; exact Nat.zero_le _
theorem Mk.SU_lt (h : m.Ok) (q : Nat) : m.SU q ≤ 999 * m.SD q := SU_B fun t ht _ => by have := (h.1 t ht).2.1; omega
theorem Mk.mean_lt (h : m.Ok) (q : Nat) : m.SU q / m.SD q < 1000 := by
  by_cases z : m.SD q = 0
  · rw [z, Nat.div_zero]; decide
  · rw [Nat.div_lt_iff_lt_mul (by omega)]
    have := SU_lt h q
    omega
theorem Mk.mean_le {q B : Nat} (h : ∀ t, t < m.n → m.sold q t = true → m.U t ≤ B) : m.SU q / m.SD q ≤ B := by
  by_cases z : m.SD q = 0
  · rw [z, Nat.div_zero]; omega
  · exact Nat.div_le_of_le_mul (by rw [Nat.mul_comm]; exact SU_B h)
theorem Mk.SD_pos {q t : Nat} (ht : t < m.n) (h : m.sold q t = true) : 0 < m.SD q := by
  refine sgm_pos m.n t ht ?_
  show 0 < if m.sold q t then m.D t else 0
  rw [if_pos h]
  exact (of_decide_eq_true h).1
theorem Mk.SD_ex {q : Nat} (h : 0 < m.SD q) : ∃ t, t < m.n ∧ m.sold q t = true := by
  obtain ⟨k, hk, h2⟩ := sgm_ex (f := fun t => if m.sold q t then m.D t else 0) (n := m.n) (by unfold SD at h; omega)
  refine ⟨k, hk, ?_⟩
  by_cases z : m.sold q k = true
  · exact z
  · rw [if_neg z] at h2; omega
/-- the mean at a kept price is itself good -/
theorem Mk.mean_good (h : m.Ok) {t : Nat} (ht : t < m.n) (hd : 0 < m.D t) (hk : m.K t ≤ m.SU (m.K t) / m.SD (m.K t)) : m.good (m.SU (m.K t) / m.SD (m.K t)) = true := by
  have s0 : m.sold (m.K t) t = true := decide_eq_true ⟨hd, Nat.le_refl _⟩
  have p0 := SD_pos ht s0
  generalize hv : m.SU (m.K t) / m.SD (m.K t) = v at hk ⊢
  have s1 : m.sold v t = true := decide_eq_true ⟨hd, hk⟩
  have p1 := SD_pos ht s1
  refine decide_eq_true ⟨p1, ?_⟩
  rw [Nat.le_div_iff_mul_le p1]
  have b0 : v * m.SD (m.K t) ≤ m.SU (m.K t) := by
    rw [← Nat.le_div_iff_mul_le p0]; omega
  have b1 : m.SU (m.K t) + v * m.SD v ≤ m.SU v + v * m.SD (m.K t) := by
    unfold SU SD
    rw [← sgm_mul, ← sgm_mul, ← sgm_add, ← sgm_add]
    refine sgm_le _ fun k hk' => ?_
    show (if m.sold (m.K t) k then m.D k * m.U k else 0) + v * (if m.sold v k then m.D k else 0) ≤ (if m.sold v k then m.D k * m.U k else 0) + v * (if m.sold (m.K t) k then m.D k else 0)
    by_cases z : m.sold (m.K t) k = true
    · have z2 : m.sold v k = true := by
        have := of_decide_eq_true z
        exact decide_eq_true ⟨this.1, by omega⟩
      rw [if_pos z, if_pos z2, if_pos z2, if_pos z]
      exact Nat.le_refl _
    · by_cases z2 : m.sold v k = true
      · rw [if_neg z, if_pos z2, if_pos z2, if_neg z]
        have h3 := of_decide_eq_true z2
        have h4 : m.K t < m.K k := by
          rcases Nat.lt_or_ge (m.K t) (m.K k) with h | h
          · exact h
          · exact absurd (decide_eq_true ⟨h3.1, h⟩) z
        have h5 : v ≤ m.U k := by
          rw [← hv]
          refine mean_le fun x hx sx => h.2.1 x k hx hk' ?_
          have := (of_decide_eq_true sx).2
          omega
        have := Nat.mul_le_mul_left (m.D k) h5
        rw [Nat.mul_comm v]
        omega
      · rw [if_neg z, if_neg z2, if_neg z2, if_neg z]
        exact Nat.le_refl _
  omega
theorem Mk.cl_eq (h : m.Ok) : fup m.cl 0 m.n = m.rest := by
  have le : ∀ n, n ≤ m.n → fup m.cl 0 n ≤ m.rest := by
    intro n
    induction n with
    | zero => intro _; exact Nat.zero_le _
    | succ n ih =>
      intro hn
      have i0 := ih (by omega)
      show m.cl n (fup m.cl 0 n) ≤ _
      unfold cl
      split
      · rename_i q
        split
        · exact m.scan_ge (mean_good h (by omega) q.1 q.2) 1000 (mean_lt h _)
        · exact i0
      · exact i0
  have ge : ∀ n t, t < n → 0 < m.D t → m.K t ≤ m.SU (m.K t) / m.SD (m.K t) → m.SU (m.K t) / m.SD (m.K t) + 1 ≤ fup m.cl 0 n := by
    intro n
    induction n with
    | zero => intro t h; omega
    | succ n ih =>
      intro t ht h1 h2
      show _ ≤ m.cl n (fup m.cl 0 n)
      revert ih
      generalize fup m.cl 0 n = zz
      intro ih
      unfold cl
      by_cases z : t = n
      · subst z
        rw [if_pos ⟨h1, h2⟩]
        split <;> omega
      · have := ih t (by omega) h1 h2
        split
        · split <;> omega
        · exact this
  have l := le m.n (Nat.le_refl _)
  rcases hr : m.rest with _ | q
  · omega
  · have g := of_decide_eq_true (m.scan_good 1000 q hr)
    obtain ⟨t0, ht0, st0⟩ := SD_ex g.1
    -- the one with the greatest kept price
    have mx : ∀ n, (∃ t, t < n ∧ m.sold q t = true) → ∃ t, t < n ∧ m.sold q t = true ∧ ∀ x, x < n → m.sold q x = true → m.K x ≤ m.K t := by
      intro n
      induction n with
      | zero => rintro ⟨t, h, _⟩; omega
      | succ n ih =>
        rintro ⟨t, h1, h2⟩
        by_cases z : ∃ t, t < n ∧ m.sold q t = true
        · obtain ⟨x, x1, x2, x3⟩ := ih z
          by_cases z2 : m.sold q n = true ∧ m.K x < m.K n
          · refine ⟨n, by omega, z2.1, fun y hy sy => ?_⟩
            by_cases e : y = n
            · subst e; exact Nat.le_refl _
            · have := x3 y (by omega) sy; omega
          · refine ⟨x, by omega, x2, fun y hy sy => ?_⟩
            by_cases e : y = n
            · subst e
              rcases Nat.lt_or_ge (m.K x) (m.K y) with h | h
              · exact absurd ⟨sy, h⟩ z2
              · exact h
            · exact x3 y (by omega) sy
        · have e : t = n := by
            rcases Nat.lt_or_ge t n with h | h
            · exact absurd ⟨t, h, h2⟩ z
            · omega
          subst e
          refine ⟨t, by omega, h2, fun y hy sy => ?_⟩
          by_cases e : y = t
          · subst e; exact Nat.le_refl _
          · exact absurd ⟨y, by omega, sy⟩ z
    obtain ⟨t, ht, s1, s2⟩ := mx m.n ⟨t0, ht0, st0⟩
    have s3 := of_decide_eq_true s1
    have same : ∀ k, k < m.n → m.sold (m.K t) k = m.sold q k := fun k hk => by
      by_cases z : m.sold q k = true
      · rw [z]
        exact decide_eq_true ⟨(of_decide_eq_true z).1, s2 k hk z⟩
      · have z2 : ¬ m.sold (m.K t) k = true := fun z3 => by
          have := of_decide_eq_true z3
          exact z (decide_eq_true ⟨this.1, by omega⟩)
        rw [Bool.not_eq_true] at z z2
        rw [z, z2]
    have e1 : m.SD (m.K t) = m.SD q := sgm_cg _ fun k hk => by rw [same k hk]
    have e2 : m.SU (m.K t) = m.SU q := sgm_cg _ fun k hk => by rw [same k hk]
    have := ge m.n t ht s3.1 (by rw [e1, e2]; omega)
    rw [e1, e2] at this
    omega
/-- when anything is offered, the market rests somewhere -/
theorem Mk.rest_pos (h : m.Ok) {t : Nat} (ht : t < m.n) (hd : 0 < m.D t) : 0 < m.rest := by
  have mn : ∀ n, (∃ t, t < n ∧ 0 < m.D t) → ∃ t, t < n ∧ 0 < m.D t ∧ ∀ x, x < n → 0 < m.D x → m.K t ≤ m.K x := by
    intro n
    induction n with
    | zero => rintro ⟨t, h, _⟩; omega
    | succ n ih =>
      rintro ⟨t, h1, h2⟩
      by_cases z : ∃ t, t < n ∧ 0 < m.D t
      · obtain ⟨x, x1, x2, x3⟩ := ih z
        by_cases z2 : 0 < m.D n ∧ m.K n < m.K x
        · refine ⟨n, by omega, z2.1, fun y hy sy => ?_⟩
          by_cases e : y = n
          · subst e; exact Nat.le_refl _
          · have := x3 y (by omega) sy; omega
        · refine ⟨x, by omega, x2, fun y hy sy => ?_⟩
          by_cases e : y = n
          · subst e
            rcases Nat.lt_or_ge (m.K y) (m.K x) with h | h
            · exact absurd ⟨sy, h⟩ z2
            · exact h
          · exact x3 y (by omega) sy
      · have e : t = n := by
          rcases Nat.lt_or_ge t n with h | h
          · exact absurd ⟨t, h, h2⟩ z
          · omega
        subst e
        refine ⟨t, by omega, h2, fun y hy sy => ?_⟩
        by_cases e : y = t
        · subst e; exact Nat.le_refl _
        · exact absurd ⟨y, by omega, sy⟩ z
  obtain ⟨x, hx, dx, mx⟩ := mn m.n ⟨t, ht, hd⟩
  have sx : m.sold (m.K x) x = true := decide_eq_true ⟨dx, Nat.le_refl _⟩
  have p := SD_pos hx sx
  have q : m.K x ≤ m.SU (m.K x) / m.SD (m.K x) := by
    rw [Nat.le_div_iff_mul_le p]
    unfold SU SD
    rw [← sgm_mul]
    refine sgm_le _ fun k hk => ?_
    show m.K x * (if m.sold (m.K x) k then m.D k else 0) ≤ (if m.sold (m.K x) k then m.D k * m.U k else 0)
    by_cases z : m.sold (m.K x) k = true
    · rw [if_pos z, if_pos z, Nat.mul_comm]
      have := mx k hk (of_decide_eq_true z).1
      have := (h.1 k hk).1
      exact Nat.mul_le_mul_left _ (by omega)
    · rw [if_neg z, if_neg z]; exact Nat.le_refl _
  have := m.scan_ge (mean_good h hx dx q) 1000 (mean_lt h _)
  exact Nat.lt_of_lt_of_le (Nat.succ_pos _) this
/-- some thing is sold at the price where the market rests -/
theorem Mk.rest_ex {q : Nat} (h : m.rest = q + 1) : ∃ t, t < m.n ∧ m.sold q t = true := SD_ex (of_decide_eq_true (m.scan_good 1000 q h)).1
end MK2
