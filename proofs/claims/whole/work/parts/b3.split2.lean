/-! the class splits a text: the loop -/
section SPLIT2
variable {v c n m q k : Nat} {b : Nat → Int32} {w w' w'' y : cm_W}
theorem TKD.eq (h : TKD b n m w) (e : ∀ j, j ≠ m → cm_I y 5 j = cm_I w 5 j ∧ cm_I y 6 j = cm_I w 6 j ∧ cm_I y 7 j = cm_I w 7 j ∧ cm_L y 8 j = cm_L w 8 j) : TKD b n m y := fun j hj => by
  obtain ⟨h1, h2, h3, h4⟩ := h j hj
  obtain ⟨e1, e2, e3, e4⟩ := e j (by omega)
  exact ⟨e1.trans h1, e2.trans h2, e3.trans h3, e4.trans h4⟩
theorem TKD.suc (h : TKD b n m w) (e : cm_I w 5 m = nI (pos b n m) ∧ cm_I w 6 m = nI (kd b n (pos b n m)) ∧ cm_I w 7 m = nI (ln b n (pos b n m)) ∧ cm_L w 8 m = vl b n (pos b n m)) : TKD b n (m + 1) w := fun j hj => by
  by_cases z : j = m
  · rw [z]; exact e
  · exact h j (by omega)
theorem t61_s (hb : ∀ j, j < n → cm_I w 3 j = b j) (hn : n ≤ 900) (F : FTk v c w y) {f N : Nat} (hq : q < n) : fn_61_10 (N + 1) 4 3 (nI n) (nI f) (nI q) y = if nI (kd b n q) = (4 : Int32) then fn_61_51 (fn_61_10 N) 4 3 (nI n) (nI q) (nI (kd b n q)) y else if ¬ nI (kd b n q) = nI f then fn_61_43 (fn_61_10 N) 4 3 (nI n) (nI q) (nI (kd b n q)) y else if ¬ nI (kd b n q) = (3 : Int32) then fn_61_51 (fn_61_10 N) 4 3 (nI n) (nI q) (nI (kd b n q)) y else fn_61_43 (fn_61_10 N) 4 3 (nI n) (nI q) (nI (kd b n q)) y := by
  have L := F.1
  have e3 : cm_I y 3 q = b q := by rw [(F.2.1 3 (by omega)).1]; exact hb q hq
  have g3 : cm_ga y .byte 3 (nI q) = true := by
    rw [ga_of (n := 900) ((L.sh (a := 3) (by decide) (by decide)).trans rfl)]
    exact iin_nI (by omega) (by decide)
  have ek : kd b n q = bk (b q) := if_pos hq
  rw [ek, fn_61_10, if_neg (nI_ge hq (by omega)), if_pos g3, if_pos (by decide), tn_nI (by omega), e3, bd (kind_ok y (b q))]
theorem t61_51 (hb : ∀ j, j < n → cm_I w 3 j = b j) (hn : n ≤ 900) (F : FTk v c w y) {K : Nat → Nat → Int32 → Int32 → Int32 → cm_W → Option cm_W} (hq : q < n) {z : cm_W} {k0 : Nat} (hk : k0 < 4) (h : fn_59 4 (b q) y = some z) : fn_61_51 K 4 3 (nI n) (nI q) (nI k0) y = K 4 3 (nI n) (nI k0) (nI (q + 1)) z := by
  have L := F.1
  have e3 : cm_I y 3 q = b q := by rw [(F.2.1 3 (by omega)).1]; exact hb q hq
  have g3 : cm_ga y .byte 3 (nI q) = true := by
    rw [ga_of (n := 900) ((L.sh (a := 3) (by decide) (by decide)).trans rfl)]
    exact iin_nI (by omega) (by decide)
  have n4 : ¬ nI k0 = (4 : Int32) := fun e => by
    have := (nI_eq (a := k0) (b := 4) (by omega) (by decide)).mp e
    omega
  rw [fn_61_51, if_neg n4, if_pos g3, if_pos (by decide), if_pos (LD L).1, tn_nI (by omega), e3, bd h, fn_61_65, nI_1]
/-- the rest of a run -/
theorem t_run (hb : ∀ j, j < n → cm_I w 3 j = b j) (hn : n ≤ 900) {p c0 l : Nat} (hc : c0 = 1 ∨ c0 = 2) (hk : ∀ i, i < l → kd b n (p + i) = c0) (hl : p + l ≤ n) (hm : m < 901) : ∀ e i y N, i + e = l → 1 ≤ i → e < N → FTk v c w y → cm_I y 4 5 = nI (m + 1) → (cm_I y 5 m = nI p ∧ cm_I y 6 m = nI c0 ∧ cm_I y 7 m = nI i ∧ cm_L y 8 m = vs b c0 p i) → TKD b n m y → ∃ y', fn_61_10 N 4 3 (nI n) (nI c0) (nI (p + i)) y = fn_61_10 (N - e) 4 3 (nI n) (nI c0) (nI (p + l)) y' ∧ FTk v c w y' ∧ cm_I y' 4 5 = nI (m + 1) ∧ (cm_I y' 5 m = nI p ∧ cm_I y' 6 m = nI c0 ∧ cm_I y' 7 m = nI l ∧ cm_L y' 8 m = vs b c0 p l) ∧ TKD b n m y' := by
  intro e
  induction e with
  | zero =>
    intro i y N h1 h2 h3 F e5 h4 T
    obtain rfl : i = l := by omega
    exact ⟨y, rfl, F, e5, h4, T⟩
  | succ e ih =>
    intro i y N h1 h2 h3 F e5 h4 T
    obtain ⟨N, rfl⟩ : ∃ M, N = M + 1 := ⟨N - 1, by omega⟩
    have ki := hk i (by omega)
    obtain ⟨z, a1, F1, z5, r5, r6, r7, r8, rr⟩ := t59 F.1 e5 hm h4.2.1 (by omega) h4.2.2.1 (by omega) h4.2.2.2
    obtain ⟨y', a2, G⟩ := ih (i + 1) z N (by omega) (by omega) (by omega) (F.tr F1) z5 ⟨r5.trans h4.1, r6.trans h4.2.1, r7, r8⟩ (T.eq rr)
    refine ⟨y', ?_, G⟩
    rw [t61_s hb hn F (by omega), ki]
    have n4 : ¬ nI c0 = (4 : Int32) := fun e => by
      have := (nI_eq (a := c0) (b := 4) (by omega) (by decide)).mp e
      omega
    have n3 : ¬ nI c0 = (3 : Int32) := fun e => by
      have := (nI_eq (a := c0) (b := 3) (by omega) (by decide)).mp e
      omega
    rw [if_neg n4, if_neg (fun h => h rfl), if_pos n3, t61_51 hb hn F (by omega) (by omega) a1]
    rw [show p + i + 1 = p + (i + 1) by omega, show N + 1 - (e + 1) = N - e by omega]
    exact a2
theorem t61_10 (hb : ∀ j, j < n → cm_I w 3 j = b j) (hn : n ≤ 900) : ∀ d q m f y N, n - q ≤ d → n - q < N → q ≤ n → m ≤ q → FTk v c w y → cm_I y 4 5 = nI m → TKD b n m y → sk b n q = pos b n m → (kd b n q = 4 ∨ kd b n q = 0 ∨ kd b n q = 3 ∨ f ≠ kd b n q) → f ≤ 4 → (∀ j, j < m → pos b n j < n) → ∃ y' M, fn_61_10 N 4 3 (nI n) (nI f) (nI q) y = fn_61_74 4 (nI n) y' ∧ FTk v c w y' ∧ M ≤ n ∧ cm_I y' 4 5 = nI M ∧ TKD b n M y' ∧ pos b n M = n ∧ ∀ j, j < M → pos b n j < n := by
  intro d
  induction d with
  | zero =>
    intro q m f y N h1 h2 h3 h4 F e5 T hs hk hf hp
    obtain rfl : q = n := by omega
    obtain ⟨N, rfl⟩ : ∃ M, N = M + 1 := ⟨N - 1, by omega⟩
    refine ⟨y, m, ?_, F, h4, e5, T, ?_, hp⟩
    · rw [fn_61_10, if_pos (nI_le (Nat.le_refl _) (by omega))]
    · rw [← hs]; exact sk_id (by rw [kd_n]; omega)
  | succ d ih =>
    intro q m f y N h1 h2 h3 h4 F e5 T hs hk hf hp
    obtain ⟨N, rfl⟩ : ∃ M, N = M + 1 := ⟨N - 1, by omega⟩
    by_cases hq : q < n
    rotate_left
    · obtain rfl : q = n := by omega
      refine ⟨y, m, ?_, F, h4, e5, T, ?_, hp⟩
      · rw [fn_61_10, if_pos (nI_le (Nat.le_refl _) (by omega))]
      · rw [← hs]; exact sk_id (by rw [kd_n]; omega)
    rw [t61_s hb hn F hq]
    by_cases k4 : kd b n q = 4
    · -- a blank
      have s4 : fn_61_51 (fn_61_10 N) 4 3 (nI n) (nI q) (nI (kd b n q)) y = fn_61_10 N 4 3 (nI n) (nI 4) (nI (q + 1)) y := by
        rw [k4, fn_61_51, if_pos (show nI 4 = (4 : Int32) from rfl), fn_61_65, nI_1]
      rw [if_pos (by rw [k4]; rfl), s4]
      refine ih (q + 1) m 4 y N (by omega) (by omega) (by omega) (by omega) F e5 T (by rw [sk_1 k4]; exact hs) ?_ (Nat.le_refl _) hp
      have := kd_le b n (q + 1)
      omega
    · have k1 : kd b n q = 1 ∨ kd b n q = 2 ∨ kd b n q = 3 := by
        have a1 := kd_le b n q
        have a2 : kd b n q ≠ 0 := fun e => by have := kd_0.mp e; omega
        omega
      have pq : pos b n m = q := by rw [← hs]; exact sk_id k4
      have n4 : ¬ nI (kd b n q) = (4 : Int32) := fun e => by
        have := (nI_eq (a := kd b n q) (b := 4) (by omega) (by decide)).mp e
        omega
      have to43 : (if ¬ nI (kd b n q) = nI f then fn_61_43 (fn_61_10 N) 4 3 (nI n) (nI q) (nI (kd b n q)) y else if ¬ nI (kd b n q) = (3 : Int32) then fn_61_51 (fn_61_10 N) 4 3 (nI n) (nI q) (nI (kd b n q)) y else fn_61_43 (fn_61_10 N) 4 3 (nI n) (nI q) (nI (kd b n q)) y) = fn_61_43 (fn_61_10 N) 4 3 (nI n) (nI q) (nI (kd b n q)) y := by
        by_cases z : nI (kd b n q) = nI f
        · have ef := (nI_eq (a := kd b n q) (b := f) (by omega) (by omega)).mp z
          have k3 : kd b n q = 3 := by omega
          rw [if_neg (fun h => h z), if_neg (fun h => h (by rw [k3]; rfl))]
        · rw [if_pos z]
      rw [if_neg n4, to43]
      obtain ⟨y1, a1, F1, z5, r5, r6, r7, r8, rr⟩ := t58 F.1 e5 (by omega) (nI q) (nI (kd b n q))
      obtain ⟨lp, ll⟩ := ln_pos k1
      obtain ⟨y2, a2, F2, zz5, s5, s6, s7, s8, ss⟩ := t59 (b := b) (c0 := kd b n q) (p := q) (l := 0) F1.1 z5 (by omega) r6 (by omega) r7 (by omega) r8
      have FF := (F.tr F1).tr F2
      have T2 := (T.eq rr).eq ss
      have e43 : fn_61_43 (fn_61_10 N) 4 3 (nI n) (nI q) (nI (kd b n q)) y = fn_61_10 N 4 3 (nI n) (nI (kd b n q)) (nI (q + 1)) y2 := by
        rw [fn_61_43, if_pos (LD F.1).1, bd a1, t61_51 hb hn (F.tr F1) hq (by omega) a2]
      rw [e43]
      -- the whole token
      have tok : ∃ y3, fn_61_10 N 4 3 (nI n) (nI (kd b n q)) (nI (q + 1)) y2 = fn_61_10 (N - (ln b n q - 1)) 4 3 (nI n) (nI (kd b n q)) (nI (q + ln b n q)) y3 ∧ FTk v c w y3 ∧ cm_I y3 4 5 = nI (m + 1) ∧ (cm_I y3 5 m = nI q ∧ cm_I y3 6 m = nI (kd b n q) ∧ cm_I y3 7 m = nI (ln b n q) ∧ cm_L y3 8 m = vs b (kd b n q) q (ln b n q)) ∧ TKD b n m y3 := by
        by_cases z : kd b n q = 3
        · have l1 := ln_3 z
          rw [l1]
          exact ⟨y2, rfl, FF, zz5, ⟨s5.trans r5, s6.trans r6, s7, s8⟩, T2⟩
        · obtain ⟨g1, g2⟩ := ln_12 (b := b) (n := n) (p := q) (by omega)
          exact t_run hb hn (c0 := kd b n q) (by omega) g1 ll (by omega) (ln b n q - 1) 1 y2 N (by omega) (Nat.le_refl _) (by omega) FF zz5 ⟨s5.trans r5, s6.trans r6, s7, s8⟩ T2
      obtain ⟨y3, b1, F3, x5, xx, T3⟩ := tok
      rw [b1]
      have T4 : TKD b n (m + 1) y3 := T3.suc (by rw [pq]; exact xx)
      refine ih (q + ln b n q) (m + 1) (kd b n q) y3 (N - (ln b n q - 1)) (by omega) (by omega) ll (by omega) F3 x5 T4 ?_ ?_ (by omega) (fun j hj => ?_)
      · show _ = nxt b n (pos b n m)
        rw [pq]; rfl
      · by_cases z : kd b n q = 3
        · by_cases z2 : kd b n (q + ln b n q) = 3
          · omega
          · have := kd_le b n (q + ln b n q)
            omega
        · have := (ln_12 (b := b) (n := n) (p := q) (by omega)).2
          omega
      · by_cases z : j = m
        · rw [z, pq]; exact hq
        · exact hp j (by omega)
end SPLIT2
