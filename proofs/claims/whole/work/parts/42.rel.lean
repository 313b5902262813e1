/-! what a world holds: one logical state (the reference's own cells, by address) for both objects -/
abbrev St : Type := Nat → Nat → Int32
def nT (s : St) : Nat := (s 96 1).toNatClampNeg
def nP (s : St) : Nat := (s 96 2).toNatClampNeg
def nQ (s : St) : Nat := (s 96 3).toNatClampNeg
def nM (s : St) : Nat := (s 96 8).toNatClampNeg
def nA (s : St) : Nat := (s 96 9).toNatClampNeg
def nB (s : St) : Nat := (s 96 38).toNatClampNeg
def nR (s : St) : Nat := (s 96 39).toNatClampNeg
def nL (s : St) : Nat := (s 96 51).toNatClampNeg
def nK (s : St) : Nat := (s 96 58).toNatClampNeg
def nG (s : St) : Nat := (s 96 73).toNatClampNeg
/-- in [0, n) -/
def rg (x : Int32) (n : Nat) : Prop := ∃ k, k < n ∧ x = nI k
/-- the shares of one, added up -/
def shs (s : St) (p : Nat) : Int32 := fup (fun t a => a + s 107 (8 * p + t)) 0 (nT s)
/-- the state in an image: where the arrays and the fields lie in it -/
def imo (a : Nat) : Option Nat := match a with
  | 105 => some 5
  | 114 => some 17
  | 115 => some 57
  | 116 => some 97
  | 117 => some 137
  | 118 => some 177
  | 119 => some 217
  | 120 => some 257
  | 121 => some 297
  | 122 => some 777
  | 124 => some 2877
  | 125 => some 2897
  | 126 => some 2917
  | 127 => some 2937
  | 128 => some 2957
  | 129 => some 2977
  | 130 => some 2997
  | 131 => some 3037
  | 132 => some 3077
  | 133 => some 3117
  | _ => none
def imf (k : Nat) : Option Nat := match k with
  | 8 => some 0
  | 38 => some 1
  | 39 => some 2
  | 51 => some 3
  | 58 => some 4
  | _ => none
def ims (s : St) (i : Nat) : St := fun a k => if a = 96 then (match imf k with
  | some o => s 140 (3200 * i + o)
  | none => s 96 k) else match imo a with
  | some o => s 140 (3200 * i + o + k)
  | none => s a k
/-- what an image holds -/
def sa (a k : Nat) : Bool := if a = 96 then (imf k).isSome else (imo a).isSome
theorem ims_cg {s s' : St} (h : ∀ a k, sa a k = false → s' a k = s a k) (i : Nat) : ims s' i = ims s i := by
  funext a k
  unfold ims
  by_cases h0 : a = 96
  · rw [if_pos h0, if_pos h0]
    cases e : imf k with
    | some o => exact h 140 _ rfl
    | none => exact h 96 k (by unfold sa; rw [if_pos rfl, e]; rfl)
  · rw [if_neg h0, if_neg h0]
    cases e : imo a with
    | some o => exact h 140 _ rfl
    | none => exact h a k (by unfold sa; rw [if_neg h0, e]; rfl)
theorem sa_up {s : St} {a k : Nat} {x : Int32} (h : sa a k = true) : ∀ b j, sa b j = false → cm_up s a k x b j = s b j := by
  intro b j hb
  show (if b = a ∧ j = k then x else s b j) = s b j
  rw [if_neg]
  intro e
  rw [e.1, e.2, h] at hb; cases hb
/-- the cells of the reference that last from call to call -/
def mt (a k : Nat) : Bool := match a with
  | 96 => decide (k ∈ [1, 2, 3, 4, 5, 6, 7, 8, 9, 12, 38, 39, 51, 58, 73])
  | 97 => decide (k < 3)
  | 100 => decide (k < 8)
  | 101 => decide (k < 8)
  | 102 => decide (k < 8)
  | 103 => decide (k < 8)
  | 104 => decide (k < 12)
  | 105 => decide (k < 12)
  | 107 => decide (k < 96)
  | 108 => decide (k < 6)
  | 109 => decide (k < 6)
  | 110 => decide (k < 6)
  | 111 => decide (k < 12)
  | 112 => decide (k < 900)
  | 114 => decide (k < 40)
  | 115 => decide (k < 40)
  | 116 => decide (k < 40)
  | 117 => decide (k < 40)
  | 118 => decide (k < 40)
  | 119 => decide (k < 40)
  | 120 => decide (k < 40)
  | 121 => decide (k < 480)
  | 122 => decide (k < 2100)
  | 124 => decide (k < 20)
  | 125 => decide (k < 20)
  | 126 => decide (k < 20)
  | 127 => decide (k < 20)
  | 128 => decide (k < 20)
  | 129 => decide (k < 20)
  | 130 => decide (k < 40)
  | 131 => decide (k < 40)
  | 132 => decide (k < 40)
  | 133 => decide (k < 40)
  | 140 => decide (k < 9600)
  | _ => false
/-- the reference's cells -/
def RelM (w : cm_W) (s : St) : Prop := ∀ a k, mt a k = true → cm_I w a k = s a k
theorem RM {w : cm_W} {s : St} (h : RelM w s) : (cm_I w 96 1 = s 96 1 ∧ cm_I w 96 2 = s 96 2 ∧ cm_I w 96 3 = s 96 3 ∧ cm_I w 96 4 = s 96 4 ∧ cm_I w 96 5 = s 96 5 ∧ cm_I w 96 6 = s 96 6 ∧ cm_I w 96 7 = s 96 7 ∧ cm_I w 96 8 = s 96 8 ∧ cm_I w 96 9 = s 96 9 ∧ cm_I w 96 12 = s 96 12 ∧ cm_I w 96 38 = s 96 38 ∧ cm_I w 96 39 = s 96 39 ∧ cm_I w 96 51 = s 96 51 ∧ cm_I w 96 58 = s 96 58 ∧ cm_I w 96 73 = s 96 73) ∧ (∀ k, k < 3 → cm_I w 97 k = s 97 k) ∧ (∀ k, k < 8 → cm_I w 100 k = s 100 k) ∧ (∀ k, k < 8 → cm_I w 101 k = s 101 k) ∧ (∀ k, k < 8 → cm_I w 102 k = s 102 k) ∧ (∀ k, k < 8 → cm_I w 103 k = s 103 k) ∧ (∀ k, k < 12 → cm_I w 104 k = s 104 k) ∧ (∀ k, k < 12 → cm_I w 105 k = s 105 k) ∧ (∀ k, k < 96 → cm_I w 107 k = s 107 k) ∧ (∀ k, k < 6 → cm_I w 108 k = s 108 k) ∧ (∀ k, k < 6 → cm_I w 109 k = s 109 k) ∧ (∀ k, k < 6 → cm_I w 110 k = s 110 k) ∧ (∀ k, k < 12 → cm_I w 111 k = s 111 k) ∧ (∀ k, k < 900 → cm_I w 112 k = s 112 k) ∧ (∀ k, k < 40 → cm_I w 114 k = s 114 k) ∧ (∀ k, k < 40 → cm_I w 115 k = s 115 k) ∧ (∀ k, k < 40 → cm_I w 116 k = s 116 k) ∧ (∀ k, k < 40 → cm_I w 117 k = s 117 k) ∧ (∀ k, k < 40 → cm_I w 118 k = s 118 k) ∧ (∀ k, k < 40 → cm_I w 119 k = s 119 k) ∧ (∀ k, k < 40 → cm_I w 120 k = s 120 k) ∧ (∀ k, k < 480 → cm_I w 121 k = s 121 k) ∧ (∀ k, k < 2100 → cm_I w 122 k = s 122 k) ∧ (∀ k, k < 20 → cm_I w 124 k = s 124 k) ∧ (∀ k, k < 20 → cm_I w 125 k = s 125 k) ∧ (∀ k, k < 20 → cm_I w 126 k = s 126 k) ∧ (∀ k, k < 20 → cm_I w 127 k = s 127 k) ∧ (∀ k, k < 20 → cm_I w 128 k = s 128 k) ∧ (∀ k, k < 20 → cm_I w 129 k = s 129 k) ∧ (∀ k, k < 40 → cm_I w 130 k = s 130 k) ∧ (∀ k, k < 40 → cm_I w 131 k = s 131 k) ∧ (∀ k, k < 40 → cm_I w 132 k = s 132 k) ∧ (∀ k, k < 40 → cm_I w 133 k = s 133 k) ∧ (∀ k, k < 9600 → cm_I w 140 k = s 140 k) := ⟨⟨h 96 1 rfl, h 96 2 rfl, h 96 3 rfl, h 96 4 rfl, h 96 5 rfl, h 96 6 rfl, h 96 7 rfl, h 96 8 rfl, h 96 9 rfl, h 96 12 rfl, h 96 38 rfl, h 96 39 rfl, h 96 51 rfl, h 96 58 rfl, h 96 73 rfl⟩, fun k hk => h 97 k (decide_eq_true hk), fun k hk => h 100 k (decide_eq_true hk), fun k hk => h 101 k (decide_eq_true hk), fun k hk => h 102 k (decide_eq_true hk), fun k hk => h 103 k (decide_eq_true hk), fun k hk => h 104 k (decide_eq_true hk), fun k hk => h 105 k (decide_eq_true hk), fun k hk => h 107 k (decide_eq_true hk), fun k hk => h 108 k (decide_eq_true hk), fun k hk => h 109 k (decide_eq_true hk), fun k hk => h 110 k (decide_eq_true hk), fun k hk => h 111 k (decide_eq_true hk), fun k hk => h 112 k (decide_eq_true hk), fun k hk => h 114 k (decide_eq_true hk), fun k hk => h 115 k (decide_eq_true hk), fun k hk => h 116 k (decide_eq_true hk), fun k hk => h 117 k (decide_eq_true hk), fun k hk => h 118 k (decide_eq_true hk), fun k hk => h 119 k (decide_eq_true hk), fun k hk => h 120 k (decide_eq_true hk), fun k hk => h 121 k (decide_eq_true hk), fun k hk => h 122 k (decide_eq_true hk), fun k hk => h 124 k (decide_eq_true hk), fun k hk => h 125 k (decide_eq_true hk), fun k hk => h 126 k (decide_eq_true hk), fun k hk => h 127 k (decide_eq_true hk), fun k hk => h 128 k (decide_eq_true hk), fun k hk => h 129 k (decide_eq_true hk), fun k hk => h 130 k (decide_eq_true hk), fun k hk => h 131 k (decide_eq_true hk), fun k hk => h 132 k (decide_eq_true hk), fun k hk => h 133 k (decide_eq_true hk), fun k hk => h 140 k (decide_eq_true hk)⟩
theorem RelM.sI {w : cm_W} {s : St} (h : RelM w s) {a k : Nat} {x : Int32} (hm : mt a k = false) : RelM (cm_sI w a k x) s := by
  intro b j hb
  show (if b = a ∧ j = k then x else cm_I w b j) = s b j
  by_cases e : b = a ∧ j = k
  · rw [e.1, e.2, hm] at hb; cases hb
  · rw [if_neg e]; exact h b j hb
theorem RelM.sL {w : cm_W} {s : St} (h : RelM w s) {a k : Nat} {x : Int64} : RelM (cm_sL w a k x) s := h
theorem RelM.up {w : cm_W} {s : St} (h : RelM w s) {a k : Nat} {x : Int32} : RelM (cm_sI w a k x) (cm_up s a k x) := by
  intro b j hb
  show (if b = a ∧ j = k then x else cm_I w b j) = if b = a ∧ j = k then x else s b j
  by_cases e : b = a ∧ j = k
  · rw [if_pos e, if_pos e]
  · rw [if_neg e, if_neg e]; exact h b j hb
/-- a village of the class -/
def VilC (w : cm_W) (u : Nat) (s : St) : Prop := (cm_I w (u + 2) 2 = s 96 1 ∧ cm_I w (u + 5) 2 = s 96 2 ∧ cm_I w (u + 8) 2 = s 96 3 ∧ cm_I w u 9 = s 96 4 ∧ cm_I w u 6 = s 96 5 ∧ cm_I w u 7 = s 96 6 ∧ cm_I w u 8 = s 96 7)
  ∧ (cm_I w (u + 2) 0 = 4 ∧ cm_I w (u + 5) 0 = 3 ∧ cm_I w (u + 8) 0 = 3)
  ∧ (∀ t, t < nT s → ∀ c, c < 4 → cm_I w (u + 3) (4 * t + c) = s (100 + c) t)
  ∧ (∀ p, p < nP s → cm_I w (u + 6) (3 * p) = s 104 p ∧ cm_I w (u + 6) (3 * p + 1) = s 111 p ∧ cm_I w (u + 6) (3 * p + 2) = shs s p)
  ∧ (∀ p, p < nP s → ∀ t, t < nT s → cm_I w (u + 7) (8 * p + t) = s 107 (8 * p + t))
  ∧ (∀ k, k < nQ s → ∀ c, c < 3 → cm_I w (u + 9) (3 * k + c) = s (108 + c) k)
/-- a row's columns in the reference -/
def rcl (c : Nat) : Nat := match c with
  | 0 => 1
  | 1 => 2
  | 2 => 3
  | 3 => 4
  | 4 => 5
  | 5 => 0
  | _ => 6
/-- a state of the class -/
def StC (w : cm_W) (b : Nat) (s : St) : Prop := (cm_I w (b + 1) 2 = s 96 38 ∧ cm_I w (b + 3) 2 = s 96 39 ∧ cm_I w (b + 5) 2 = s 96 51 ∧ cm_I w (b + 7) 2 = s 96 58 ∧ cm_I w b 6 = s 96 8)
  ∧ (cm_I w (b + 1) 0 = 6 ∧ cm_I w (b + 3) 0 = 7 ∧ cm_I w (b + 5) 0 = 6 ∧ cm_I w (b + 7) 0 = 4)
  ∧ (∀ x, x < nB s → ∀ c, c < 6 → cm_I w (b + 2) (6 * x + c) = s (114 + c) x)
  ∧ (∀ r, r < nR s → ∀ c, c < 7 → cm_I w (b + 4) (7 * r + c) = s 122 (7 * r + rcl c))
  ∧ (∀ l, l < nL s → ∀ c, c < 6 → cm_I w (b + 6) (6 * l + c) = s (124 + c) l)
  ∧ (∀ k, k < nK s → ∀ c, c < 4 → cm_I w (b + 8) (4 * k + c) = s (130 + c) k)
  ∧ (∀ x, x < nB s → ∀ p, p < 12 → cm_I w (b + 9) (12 * x + p) = s 121 (12 * x + p))
  ∧ (∀ p, p < nP s → cm_I w (b + 10) p = s 105 p)
/-- the class's cells -/
def RelC (v : Nat) (w : cm_W) (s : St) : Prop := (cm_I w 2 1 = s 96 9 ∧ cm_I w 2 4 = s 96 12 ∧ cm_I w 2 7 = s 96 73 ∧ (∀ k, k < 3 → cm_I w 42 k = s 97 k) ∧ ∀ k, k < nA s → cm_I w 3 k = s 112 k)
  ∧ VilC w v s ∧ StC w 30 s ∧ (∀ i, i < 3 → (cm_I w (64 + 11 * i) 0 = 6 ∧ cm_I w (66 + 11 * i) 0 = 7 ∧ cm_I w (68 + 11 * i) 0 = 6 ∧ cm_I w (70 + 11 * i) 0 = 4)) ∧ (∀ i, i < nG s → i < 3 → StC w (63 + 11 * i) (ims s i)) ∧ (cm_I w (30 - v + 2) 0 = 4 ∧ cm_I w (30 - v + 5) 0 = 3 ∧ cm_I w (30 - v + 8) 0 = 3)
/-- the longs that stay: z, now and in the images -/
def RelZ (w : cm_W) (s : St) : Prop := cm_L w 30 7 = cm_L w 96 71 ∧ ∀ i, i < nG s → cm_L w (63 + 11 * i) 7 = cm_L w 142 i
/-- what holds of a village -/
def InvV (s : St) : Prop := (s 96 1 = nI (nT s) ∧ nT s ≤ 8) ∧ (s 96 2 = nI (nP s) ∧ nP s ≤ 12) ∧ (s 96 3 = nI (nQ s) ∧ nQ s ≤ 6) ∧ (rg (s 96 5) 11 ∧ rg (s 96 6) 11 ∧ rg (s 96 7) 11)
  ∧ (∀ t, t < nT s → rg (s 100 t) 1000 ∧ rg (s 101 t) 100 ∧ rg (s 102 t) 10 ∧ rg (s 103 t) 100)
  ∧ (∀ p, p < nP s → rg (s 104 p) 6 ∧ (∀ t, t < nT s → rg (s 107 (8 * p + t)) 100) ∧ (0 < nT s → ∃ t, t < nT s ∧ s 107 (8 * p + t) ≠ 0))
  ∧ (∀ k, k < nQ s → rg (s 108 k) (nT s) ∧ rg (s 109 k) (nT s) ∧ s 108 k ≠ s 109 k ∧ rg (s 110 k) 1000)
/-- boxes that lie in another -/
def nIn (s : St) : Nat := fup (fun b a => if s 117 b = -1 then a else a + 1) 0 (nB s)
/-- what holds of a state -/
def InvS (s : St) : Prop := (s 96 8 = nI (nM s) ∧ nM s ≤ 5) ∧ (s 96 38 = nI (nB s) ∧ nB s ≤ 40) ∧ (s 96 39 = nI (nR s) ∧ nR s ≤ 300) ∧ (s 96 51 = nI (nL s) ∧ nL s ≤ 20) ∧ (s 96 58 = nI (nK s) ∧ nK s ≤ 40)
  ∧ (∀ b, b < nB s → rg (s 114 b) (nP s) ∧ rg (s 115 b) (nT s) ∧ rg (s 116 b) (nP s) ∧ (s 117 b = -1 ∨ rg (s 117 b) (nB s)) ∧ s 120 b = fup (fun r a => if s 122 (7 * r) = nI b then a + 1 else a) 0 (nR s))
  ∧ (∃ d : Nat → Nat, ∀ b, b < nB s → d b ≤ nIn s ∧ ∀ c, c < nB s → s 117 b = nI c → d c < d b)
  ∧ (∀ b, b < nB s → ∀ p, p < 12 → rg (s 121 (12 * b + p)) 101 ∧ (nP s ≤ p → s 121 (12 * b + p) = 0))
  ∧ (∀ r, r < nR s → rg (s 122 (7 * r)) (nB s) ∧ rg (s 122 (7 * r + 1)) 4 ∧ (s 122 (7 * r + 2) = -1 ∨ rg (s 122 (7 * r + 2)) (nP s)) ∧ rg (s 122 (7 * r + 4)) 10000 ∧ rg (s 122 (7 * r + 5)) 5 ∧ rg (s 122 (7 * r + 6)) 2 ∧ (s 122 (7 * r + 6) = 1 → rg (s 122 (7 * r + 2)) (nP s)) ∧ (s 122 (7 * r + 1) = 1 → rg (s 122 (7 * r + 2)) (nP s) ∧ rg (s 122 (7 * r + 4)) (nT s)))
  ∧ (∀ l, l < nL s → rg (s 124 l) (nB s) ∧ rg (s 125 l) (nP s) ∧ rg (s 126 l) (nP s) ∧ rg (s 127 l) 10000 ∧ rg (s 128 l) 10000 ∧ rg (s 129 l) 2)
  ∧ (∀ k, k < nK s → rg (s 130 k) (nB s) ∧ rg (s 131 k) (nP s) ∧ rg (s 132 k) (nP s) ∧ rg (s 133 k) 10000)
def Inv (s : St) : Prop := InvV s ∧ InvS s ∧ (s 96 9 = nI (nA s) ∧ nA s ≤ 900) ∧ (s 96 73 = nI (nG s) ∧ nG s ≤ 3) ∧ ∀ i, i < nG s → InvS (ims s i)
/-- Table.get -/
theorem get_in {w : cm_W} {tb ce W n N : Nat} (h0 : cm_sh w tb = some (.inl 7)) (h1 : cm_R w tb 1 = some ce) (hg : ∀ i, cm_ga w .int ce i = cm_iin i N) (hW : cm_I w tb 0 = nI W) (hn : cm_I w tb 2 = nI n) (hN : W * n ≤ N) (hM : N ≤ 2100) (hW2 : W < 100) {k c : Nat} (hk : k < n) (hn2 : n ≤ 2100) (hc : c < W) : fn_1 w tb (nI k) (nI c) = some (cm_I w ce (W * k + c)) := by
  have e1 : W * (k + 1) ≤ W * n := Nat.mul_le_mul_left W hk
  have e2 : W * (k + 1) = W * k + W := by rw [Nat.mul_add, Nat.mul_one]
  unfold fn_1
  rw [if_neg (nI_pos (by omega)), if_pos h0, hn, if_neg (nI_ge hk (by omega)), if_neg (nI_pos (by omega)), hW, if_neg (nI_ge hc (by omega)), h1]
  show (if cm_ga w .int ce (nI k * nI W + nI c) = true then some (cm_I w ce (nI k * nI W + nI c).toNatClampNeg) else none) = _
  rw [pk_mul, nI_add, hg, Nat.mul_comm k W, if_pos (iin_nI (by omega) (by omega)), tn_nI (by omega)]
theorem get_m1 {w : cm_W} {tb : Nat} {i j : Int32} : fn_1_28 w tb i j = some (-1) := rfl
theorem iin_f {i : Int32} {n : Nat} (h : cm_iin i n = false) (hn : n < 2147483648) : i < 0 ∨ nI n ≤ i := by
  unfold cm_iin at h
  simp only [Bool.not_eq_false', Bool.or_eq_true, decide_eq_true_eq, Bool.not_eq_eq_eq_not, Bool.not_false] at h
  by_cases h0 : i < 0
  · exact Or.inl h0
  · obtain ⟨j, hj, rfl⟩ := nI_of h0
    rw [nI_clamp hj] at h
    exact Or.inr (nI_le (h.resolve_left (nI_pos hj)) hj)
theorem get_out {w : cm_W} {tb n : Nat} (h0 : cm_sh w tb = some (.inl 7)) (hn : cm_I w tb 2 = nI n) {i j : Int32} (hi : cm_iin i n = false) (hn2 : n ≤ 2100) : fn_1 w tb i j = some (-1) := by
  unfold fn_1
  rcases iin_f hi (by omega) with h | h
  · rw [if_pos h]; rfl
  · by_cases h' : i < 0
    · rw [if_pos h']; rfl
    · rw [if_neg h', if_pos h0, hn, if_pos h]; rfl
/-- Table.has -/
theorem has_ok {w : cm_W} {tb n : Nat} (h0 : cm_sh w tb = some (.inl 7)) (hn : cm_I w tb 2 = nI n) (hn2 : n ≤ 2100) (i : Int32) : fn_7 w tb i = some (cm_iin i n) := by
  unfold fn_7
  rcases iin_cs i (n := n) (by omega) with h | ⟨k, hk, rfl⟩
  · rcases iin_f h (by omega) with h' | h'
    · rw [if_pos h', h]
    · by_cases h2 : i < 0
      · rw [if_pos h2, h]
      · rw [if_neg h2, if_pos h0, hn, if_pos h', h]
  · rw [if_neg (nI_pos (by omega)), if_pos h0, hn, if_neg (nI_ge hk (by omega)), iin_nI hk (by omega)]
/-- isIn -/
theorem isIn_ok (w : cm_W) (i : Int32) {n : Nat} (hn : n < 2147483648) : fn_194 w i 0 (nI n - 1) = some (cm_iin i n) := by
  unfold fn_194
  rcases iin_cs i (n := n) (by omega) with h | ⟨k, hk, rfl⟩
  · rw [h]
    rcases iin_f h hn with h' | h'
    · rw [if_pos h']
    · by_cases h2 : i < 0
      · rw [if_pos h2]
      · rw [if_neg h2]
        obtain ⟨j, hj, rfl⟩ := nI_of h2
        have : n ≤ j := (nI_leI hn hj).mp h'
        rw [if_pos ?_]
        cases n with
        | zero => exact Int32.lt_of_lt_of_le (show nI 0 - 1 < nI 0 by decide) (nI_le (by omega) hj)
        | succ n => rw [nI_pred]; exact nI_lt (by omega) hj
  · rw [iin_nI hk (by omega), if_neg (nI_pos (by omega))]
    obtain ⟨m, rfl⟩ : ∃ m, n = m + 1 := ⟨n - 1, by omega⟩
    rw [nI_pred, if_neg (nI_nlt (by omega) (by omega))]
theorem isIn_lit (w : cm_W) (i : Int32) (n : Nat) (hn : n + 1 < 2147483648) : fn_194 w i 0 (no_index (OfNat.ofNat n)) = some (cm_iin i (n + 1)) := by
  have h := isIn_ok w i (n := n + 1) hn
  rw [nI_pred] at h
  exact h
