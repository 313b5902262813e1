/-! rules for what the functions compute: ints, guards, loops -/
theorem iin_nI {k n : Nat} (h : k < n) (hn : n ≤ 2147483648) : cm_iin (nI k) n = true := by
  unfold cm_iin
  have h1 : ¬ nI k < 0 := nI_pos (by omega)
  have h2 : (nI k).toNatClampNeg = k := nI_clamp (by omega)
  simp [h1, h2]; omega
theorem iin_no {k n : Nat} (h : n ≤ k) (hk : k < 2147483648) : cm_iin (nI k) n = false := by
  unfold cm_iin
  have h1 : ¬ nI k < 0 := nI_pos (by omega)
  have h2 : (nI k).toNatClampNeg = k := nI_clamp (by omega)
  simp [h1, h2]; omega
theorem iin_lit {k n : Nat} (h : (OfNat.ofNat k : Nat) < n) (hn : n ≤ 2147483648) : cm_iin (no_index (OfNat.ofNat k) : Int32) n = true := iin_nI h hn
theorem iin_m1 (n : Nat) : cm_iin (-1) n = false := by
  unfold cm_iin
  have : ((-1 : Int32) < 0) := by decide
  simp [this]
theorem iin_cs (i : Int32) {n : Nat} (hn : n ≤ 2147483648) : cm_iin i n = false ∨ ∃ k, k < n ∧ i = nI k := by
  cases h : cm_iin i n with
  | false => exact Or.inl rfl
  | true =>
    unfold cm_iin at h
    simp only [Bool.not_eq_true', Bool.or_eq_false_iff, decide_eq_false_iff_not] at h
    obtain ⟨j, hj, rfl⟩ := nI_of h.1
    have h2 : (nI j).toNatClampNeg = j := nI_clamp hj
    rw [h2] at h
    exact Or.inr ⟨j, by omega, rfl⟩
theorem tn_nI {k : Nat} (h : k < 2147483648) : (nI k).toNatClampNeg = k := nI_clamp h
theorem tn_lit {k : Nat} (h : (OfNat.ofNat k : Nat) < 2147483648) : (no_index (OfNat.ofNat k) : Int32).toNatClampNeg = (OfNat.ofNat k : Nat) := nI_clamp h
theorem nI_lm (n k : Nat) : (no_index (OfNat.ofNat n) : Int32) * nI k = nI ((OfNat.ofNat n : Nat) * k) := pk_mul n k
theorem nI_ml (n k : Nat) : nI k * (no_index (OfNat.ofNat n) : Int32) = nI ((OfNat.ofNat n : Nat) * k) := (pk_mul k n).trans (congrArg nI (Nat.mul_comm k n))
theorem nI_al (n k : Nat) : (no_index (OfNat.ofNat n) : Int32) + nI k = nI ((OfNat.ofNat n : Nat) + k) := nI_add n k
theorem nI_la (n k : Nat) : nI k + (no_index (OfNat.ofNat n) : Int32) = nI (k + (OfNat.ofNat n : Nat)) := nI_add k n
theorem nI_lit (n : Nat) : (no_index (OfNat.ofNat n) : Int32) = nI n := rfl
theorem nI_le_l {n k : Nat} (hn : (OfNat.ofNat n : Nat) < 2147483648) (hk : k < 2147483648) : ((no_index (OfNat.ofNat n) : Int32) ≤ nI k) = ((OfNat.ofNat n : Nat) ≤ k) := propext (nI_leI hn hk)
theorem nI_l_le {n k : Nat} (hn : (OfNat.ofNat n : Nat) < 2147483648) (hk : k < 2147483648) : (nI k ≤ (no_index (OfNat.ofNat n) : Int32)) = (k ≤ (OfNat.ofNat n : Nat)) := propext (nI_leI hk hn)
theorem nI_lt_l {n k : Nat} (hn : (OfNat.ofNat n : Nat) < 2147483648) (hk : k < 2147483648) : ((no_index (OfNat.ofNat n) : Int32) < nI k) = ((OfNat.ofNat n : Nat) < k) := propext (nI_ltI hn hk)
theorem nI_l_lt {n k : Nat} (hn : (OfNat.ofNat n : Nat) < 2147483648) (hk : k < 2147483648) : (nI k < (no_index (OfNat.ofNat n) : Int32)) = (k < (OfNat.ofNat n : Nat)) := propext (nI_ltI hk hn)
theorem nI_eq_l {n k : Nat} (hn : (OfNat.ofNat n : Nat) < 2147483648) (hk : k < 2147483648) : ((no_index (OfNat.ofNat n) : Int32) = nI k) = ((OfNat.ofNat n : Nat) = k) := propext (nI_eq hn hk)
theorem nI_l_eq {n k : Nat} (hn : (OfNat.ofNat n : Nat) < 2147483648) (hk : k < 2147483648) : (nI k = (no_index (OfNat.ofNat n) : Int32)) = (k = (OfNat.ofNat n : Nat)) := propext (nI_eq hk hn)
theorem nI_ll {a b : Nat} (ha : (OfNat.ofNat a : Nat) < 2147483648) (hb : (OfNat.ofNat b : Nat) < 2147483648) : ((no_index (OfNat.ofNat a) : Int32) = (no_index (OfNat.ofNat b) : Int32)) = ((OfNat.ofNat a : Nat) = (OfNat.ofNat b : Nat)) := propext (nI_eq ha hb)
theorem nI_eqP {a b : Nat} (ha : a < 2147483648) (hb : b < 2147483648) : (nI a = nI b) = (a = b) := propext (nI_eq ha hb)
theorem nI_leP {a b : Nat} (ha : a < 2147483648) (hb : b < 2147483648) : (nI a ≤ nI b) = (a ≤ b) := propext (nI_leI ha hb)
theorem nI_ltP {a b : Nat} (ha : a < 2147483648) (hb : b < 2147483648) : (nI a < nI b) = (a < b) := propext (nI_ltI ha hb)
theorem nI_m1 {k : Nat} (hk : k < 2147483648) : (nI k = (-1 : Int32)) = False := by
  refine eq_false fun h => ?_
  have h1 : ¬ nI k < 0 := nI_pos hk
  rw [h] at h1
  exact h1 (by decide)
theorem m1_nI {k : Nat} (hk : k < 2147483648) : ((-1 : Int32) = nI k) = False := (propext ⟨Eq.symm, Eq.symm⟩).trans (nI_m1 hk)
theorem m1_l {k : Nat} (hk : (OfNat.ofNat k : Nat) < 2147483648) : ((-1 : Int32) = (no_index (OfNat.ofNat k) : Int32)) = False := m1_nI hk
theorem l_m1 {k : Nat} (hk : (OfNat.ofNat k : Nat) < 2147483648) : ((no_index (OfNat.ofNat k) : Int32) = (-1 : Int32)) = False := nI_m1 hk
theorem cmb0 (b : Bool) : (cm_b b = 0) = (b = false) := by cases b <;> simp [cm_b]
theorem cmb1 (b : Bool) : (cm_b b = 1) = (b = true) := by cases b <;> simp [cm_b]
theorem lgc_le (x y : Int64) : (lg_cmp x y ≤ 0) = (x ≤ y) := by
  unfold lg_cmp
  by_cases h : x > y
  · rw [if_pos h]
    have h2 : ¬ x ≤ y := by rw [Int64.not_le]; exact h
    simp [h2]
  · rw [if_neg h]
    have h2 : x ≤ y := by rw [← Int64.not_lt]; exact h
    by_cases h3 : x = y
    · rw [if_pos h3]; simp [h2]
    · rw [if_neg h3]; simp [h2]
theorem lgc_ge (x y : Int64) : (0 ≤ lg_cmp x y) = (y ≤ x) := by
  unfold lg_cmp
  by_cases h : x > y
  · rw [if_pos h]
    have h2 : y ≤ x := Int64.le_of_lt h
    simp [h2]
  · rw [if_neg h]
    by_cases h3 : x = y
    · rw [if_pos h3]; simp [h3]
    · rw [if_neg h3]
      have h2 : ¬ y ≤ x := fun q => h3 (Int64.le_antisymm (by rw [← Int64.not_lt]; exact h) q)
      simp [h2]
theorem lgc_lt (x y : Int64) : (lg_cmp x y < 0) = (x < y) := by
  have := lgc_ge x y
  rw [← Int32.not_le, this, Int64.not_le]
theorem lgc_gt (x y : Int64) : (0 < lg_cmp x y) = (y < x) := by
  have := lgc_le x y
  rw [← Int32.not_le, this, Int64.not_le]
theorem lgc_eq (x y : Int64) : (lg_cmp x y = 0) = (x = y) := by
  unfold lg_cmp
  by_cases h : x > y
  · rw [if_pos h]
    have h2 : ¬ x = y := fun q => by subst q; exact Int64.lt_irrefl h
    simp [h2]
  · rw [if_neg h]
    by_cases h3 : x = y
    · rw [if_pos h3]; simp [h3]
    · rw [if_neg h3]; simp [h3]
theorem some_if {α : Type} {c : Prop} [Decidable c] {a b : α} : (if c then some a else some b) = some (if c then a else b) := by by_cases h : c <;> simp [h]
section UP
variable {w : cm_W} {a b j k : Nat} {x : Int32} {y : Int64} {z : Option Nat} {ty : FieldType} {i : Int32}
theorem sh_sI : cm_sh (cm_sI w a k x) = cm_sh w := rfl
theorem sh_sL : cm_sh (cm_sL w a k y) = cm_sh w := rfl
theorem sh_sR : cm_sh (cm_sR w a k z) = cm_sh w := rfl
theorem R_sI : cm_R (cm_sI w a k x) = cm_R w := rfl
theorem R_sL : cm_R (cm_sL w a k y) = cm_R w := rfl
theorem ga_sI : cm_ga (cm_sI w a k x) ty b i = cm_ga w ty b i := rfl
theorem ga_sL : cm_ga (cm_sL w a k y) ty b i = cm_ga w ty b i := rfl
theorem ga_sR : cm_ga (cm_sR w a k z) ty b i = cm_ga w ty b i := rfl
theorem al_sI : cm_al (cm_sI w a k x) b = cm_al w b := rfl
theorem al_sL : cm_al (cm_sL w a k y) b = cm_al w b := rfl
theorem al_sR : cm_al (cm_sR w a k z) b = cm_al w b := rfl
theorem L_sI : cm_L (cm_sI w a k x) = cm_L w := rfl
theorem I_sL : cm_I (cm_sL w a k y) = cm_I w := rfl
theorem I_sR : cm_I (cm_sR w a k z) = cm_I w := rfl
theorem L_sR : cm_L (cm_sR w a k z) = cm_L w := rfl
theorem I_eq : cm_I (cm_sI w a k x) a k = x := if_pos ⟨rfl, rfl⟩
theorem I_ne (h : b ≠ a) : cm_I (cm_sI w a k x) b j = cm_I w b j := if_neg fun q => h q.1
theorem I_nk (h : j ≠ k) : cm_I (cm_sI w a k x) a j = cm_I w a j := if_neg fun q => h q.2
theorem L_eq : cm_L (cm_sL w a k y) a k = y := if_pos ⟨rfl, rfl⟩
theorem L_ne (h : b ≠ a) : cm_L (cm_sL w a k y) b j = cm_L w b j := if_neg fun q => h q.1
theorem L_nk (h : j ≠ k) : cm_L (cm_sL w a k y) a j = cm_L w a j := if_neg fun q => h q.2
theorem I_if : cm_I (cm_sI w a k x) b j = if b = a ∧ j = k then x else cm_I w b j := rfl
theorem L_if : cm_L (cm_sL w a k y) b j = if b = a ∧ j = k then y else cm_L w b j := rfl
end UP
section US
variable {s : Nat → Nat → Int32} {a b j k : Nat} {x : Int32}
theorem u_eq : cm_up s a k x a k = x := if_pos ⟨rfl, rfl⟩
theorem u_ne (h : b ≠ a) : cm_up s a k x b j = s b j := if_neg fun q => h q.1
theorem u_nk (h : j ≠ k) : cm_up s a k x a j = s a j := if_neg fun q => h q.2
theorem u_if : cm_up s a k x b j = if b = a ∧ j = k then x else s b j := rfl
end US
/-- a fold from below -/
def fup {α : Type} (f : Nat → α → α) (a : α) : Nat → α
  | 0 => a
  | k + 1 => f k (fup f a k)
theorem fup_rel {α β : Type} {f : Nat → α → α} {g : Nat → β → β} {a : α} {b : β} (R : Nat → α → β → Prop) (h0 : R 0 a b) : ∀ n : Nat, (∀ k x y, k < n → R k x y → R (k + 1) (f k x) (g k y)) → R n (fup f a n) (fup g b n) := by
  intro n
  induction n with
  | zero => intro _; exact h0
  | succ n ih => intro h; exact h n _ _ (by omega) (ih fun k x y hk hr => h k x y (by omega) hr)
theorem fup_inv {α : Type} {f : Nat → α → α} {a : α} (R : Nat → α → Prop) (h0 : R 0 a) : ∀ n : Nat, (∀ k x, k < n → R k x → R (k + 1) (f k x)) → R n (fup f a n) := by
  intro n
  induction n with
  | zero => intro _; exact h0
  | succ n ih => intro h; exact h n _ (by omega) (ih fun k x hk hr => h k x (by omega) hr)
theorem fup_cg {α : Type} {f g : Nat → α → α} {a : α} {n : Nat} (h : ∀ k x, k < n → f k x = g k x) : fup f a n = fup g a n := fup_rel (fun _ x y => x = y) rfl n fun k x y hk e => by rw [e]; exact h k y hk
/-- a loop that counts up, with an invariant; it may end early -/
theorem up_ok {α β : Type} (F : Nat → Nat → α → Option β) (n : Nat) (I : Nat → α → Prop) (P : Option β → Prop)
    (hs : ∀ m k a, k < n → I k a → P (F (m + 1) k a) ∨ ∃ a', I (k + 1) a' ∧ F (m + 1) k a = F m (k + 1) a')
    (he : ∀ m a, I n a → P (F (m + 1) n a)) : ∀ (d k : Nat) (a : α) (m : Nat), k + d = n → d < m → I k a → P (F m k a) := by
  intro d
  induction d with
  | zero =>
    intro k a m h1 h2 h3
    obtain ⟨m', rfl⟩ : ∃ m', m = m' + 1 := ⟨m - 1, by omega⟩
    obtain rfl : k = n := by omega
    exact he m' a h3
  | succ d ih =>
    intro k a m h1 h2 h3
    obtain ⟨m', rfl⟩ : ∃ m', m = m' + 1 := ⟨m - 1, by omega⟩
    rcases hs m' k a (by omega) h3 with h | ⟨a', h4, h5⟩
    · exact h
    · rw [h5]; exact ih (k + 1) a' m' (by omega) (by omega) h4
theorem up_0 {α β : Type} (F : Nat → Nat → α → Option β) (n : Nat) (I : Nat → α → Prop) (P : Option β → Prop) (a : α) (hn : n < 100000) (h0 : I 0 a)
    (hs : ∀ m k a, k < n → I k a → P (F (m + 1) k a) ∨ ∃ a', I (k + 1) a' ∧ F (m + 1) k a = F m (k + 1) a')
    (he : ∀ m a, I n a → P (F (m + 1) n a)) : P (F cm_N 0 a) := up_ok F n I P hs he n 0 a cm_N (by omega) hn h0
/-- a loop that counts up and only gathers -/
theorem up_f {α β : Type} (F : Nat → Nat → α → Option β) (n : Nat) (f : Nat → α → α) (a : α) (g : Option β) (hn : n < 100000)
    (hs : ∀ m k a, k < n → F (m + 1) k a = F m (k + 1) (f k a))
    (he : ∀ m, F (m + 1) n (fup f a n) = g) : F cm_N 0 a = g := by
  refine up_0 F n (fun k b => b = fup f a k) (fun o => o = g) a hn rfl (fun m k b hk hb => Or.inr ⟨f k b, ?_, hs m k b hk⟩) (fun m b hb => ?_)
  · subst hb; rfl
  · subst hb; exact he m
