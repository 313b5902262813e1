/-! images: puts and fetches of the reference -/
/-- some rows put into the image that begins at B, up to e -/
def PW (v c : Nat) (x : cm_W) (B : Nat) (l : List (Nat × Nat × Nat)) (e : Nat) (w : cm_W) : Prop := Lay v c w ∧ cm_L w = cm_L x ∧ cm_I w 96 74 = nI (B + e) ∧ (∀ q, q ∈ l → ∀ k, k < q.2.2 → cm_I w 140 (B + q.2.1 + k) = cm_I x q.1 k) ∧ (∀ j, j < B ∨ B + e ≤ j → cm_I w 140 j = cm_I x 140 j) ∧ (∀ b j, b ≠ 140 → (b ≠ 96 ∨ j ≠ 74) → cm_I w b j = cm_I x b j) ∧ ∀ q, q ∈ l → q.2.1 + q.2.2 ≤ e
/-- some rows fetched from there -/
def FW (v c : Nat) (x : cm_W) (B : Nat) (l : List (Nat × Nat × Nat)) (e : Nat) (w : cm_W) : Prop := Lay v c w ∧ cm_L w = cm_L x ∧ cm_I w 96 74 = nI (B + e) ∧ (∀ q, q ∈ l → ∀ k, k < q.2.2 → cm_I w q.1 k = cm_I x 140 (B + q.2.1 + k)) ∧ (∀ b j, (∀ q, q ∈ l → b ≠ q.1) → (b ≠ 96 ∨ j ≠ 74) → cm_I w b j = cm_I x b j)
section IMG2
variable {v c u n m p q d r b b' B e a K N pl : Nat} {w w' w'' x y : cm_W} {s s' : St} {l : List (Nat × Nat × Nat)}
theorem m295 (L : Lay v c w) (hs : ly_s a = some (.inr (.int, N))) (ha : 96 < a) (ha3 : a < 143) (ha2 : a ≠ 140) (hn : n ≤ N) (hN : N ≤ 9600) (hp : cm_I w 96 74 = nI pl) (hpl : pl + n ≤ 9600) : ∃ w', fn_295 96 a (nI n) w = some w' ∧ Lay v c w' ∧ cm_L w' = cm_L w ∧ cm_I w' 96 74 = nI (pl + n) ∧ (∀ k, k < n → cm_I w' 140 (pl + k) = cm_I w a k) ∧ (∀ j, j < pl ∨ pl + n ≤ j → cm_I w' 140 j = cm_I w 140 j) ∧ ∀ b j, b ≠ 140 → (b ≠ 96 ∨ j ≠ 74) → cm_I w' b j = cm_I w b j := by
  refine up_0 (fun M k y => fn_295_2 M 96 a (nI n) (nI k) y) n (fun k y => Lay v c y ∧ cm_L y = cm_L w ∧ (∀ t, t < k → cm_I y 140 (pl + t) = cm_I w a t) ∧ (∀ j, j < pl ∨ pl + k ≤ j → cm_I y 140 j = cm_I w 140 j) ∧ ∀ b j, b ≠ 140 → cm_I y b j = cm_I w b j) (fun o => ∃ w', o = some w' ∧ Lay v c w' ∧ cm_L w' = cm_L w ∧ cm_I w' 96 74 = nI (pl + n) ∧ (∀ k, k < n → cm_I w' 140 (pl + k) = cm_I w a k) ∧ (∀ j, j < pl ∨ pl + n ≤ j → cm_I w' 140 j = cm_I w 140 j) ∧ ∀ b j, b ≠ 140 → (b ≠ 96 ∨ j ≠ 74) → cm_I w' b j = cm_I w b j) w (by omega) ⟨L, rfl, fun t h => by omega, fun _ _ => rfl, fun _ _ _ => rfl⟩ (fun M k y hk hy => Or.inr ?_) (fun M y hy => ?_)
  · obtain ⟨LL, h1, h2, h3, h4⟩ := hy
    have hk' : ¬ n ≤ k := by omega
    have ga := ga_of ((LL.sh (by omega) ha3).trans hs)
    have e74 : cm_I y 96 74 = nI pl := by rw [h4 _ _ (by omega)]; exact hp
    have eak : cm_I y a k = cm_I w a k := h4 _ _ ha2
    refine ⟨cm_sI y 140 (pl + k) (cm_I w a k), ⟨LL, h1, fun t ht => ?_, fun j hj => ?_, fun b j hb => ?_⟩, ?_⟩
    · by_cases z : t = k
      · subst z; rw [I_eq]
      · rw [I_nk (by omega)]; exact h2 t (by omega)
    · rw [I_nk (by omega)]; exact h3 j (by omega)
    · rw [I_ne hb]; exact h4 b j hb
    · simp (disch := omega) only [fn_295_2, hk', ↓LMb LL, LM LL, ga, e74, eak, cm_w2, Nat.reduceLeDiff, Nat.reduceLT, decide_true, Bool.and_self, Bool.and_true, eq_self, Nat.le_refl, Nat.lt_irrefl, some_if, Option.bind_some, Option.bind_none, Option.some.injEq, ↓reduceIte, reduceCtorEq, Bool.false_eq_true, Bool.true_eq_false, not_true_eq_false, not_false_eq_true, cmb0, cmb1, Nat.reduceAdd, Nat.reduceMul, Nat.reduceSub, Nat.add_zero, Bool.not_eq_true, Bool.not_eq_false, Nat.reduceEqDiff, Nat.reduceLeDiff, Nat.reduceLT, Int32.reduceLT, Int32.reduceLE, iin_nI, iin_lit, iin_m1, tn_nI, tn_lit, nI_lm, nI_ml, nI_al, nI_la, nI_add, pk_mul, nI_le_l, nI_l_le, nI_lt_l, nI_l_lt, nI_eq_l, nI_l_eq, nI_eqP, nI_leP, nI_ltP, nI_m1, m1_nI, nI_ll, m1_l, l_m1]
  · obtain ⟨LL, h1, h2, h3, h4⟩ := hy
    have e74 : cm_I y 96 74 = nI pl := by rw [h4 _ _ (by omega)]; exact hp
    refine ⟨cm_sI y 96 74 (nI (pl + n)), ?_, LL, h1, I_eq, fun k hk => ?_, fun j hj => ?_, fun b j hb h => ?_⟩
    · simp (disch := omega) only [fn_295_2, fn_295_27, LM LL, e74, cm_w2, Nat.reduceLeDiff, Nat.reduceLT, decide_true, Bool.and_self, Bool.and_true, eq_self, Nat.le_refl, Nat.lt_irrefl, some_if, Option.bind_some, Option.bind_none, Option.some.injEq, ↓reduceIte, reduceCtorEq, Bool.false_eq_true, Bool.true_eq_false, not_true_eq_false, not_false_eq_true, cmb0, cmb1, Nat.reduceAdd, Nat.reduceMul, Nat.reduceSub, Nat.add_zero, Bool.not_eq_true, Bool.not_eq_false, Nat.reduceEqDiff, Nat.reduceLeDiff, Nat.reduceLT, Int32.reduceLT, Int32.reduceLE, iin_nI, iin_lit, iin_m1, tn_nI, tn_lit, nI_lm, nI_ml, nI_al, nI_la, nI_add, pk_mul, nI_le_l, nI_l_le, nI_lt_l, nI_l_lt, nI_eq_l, nI_l_eq, nI_eqP, nI_leP, nI_ltP, nI_m1, m1_nI, nI_ll, m1_l, l_m1]
    · rw [I_ne (by omega)]; exact h2 k hk
    · rw [I_ne (by omega)]; exact h3 j hj
    · rw [I_if, if_neg (by omega)]; exact h4 b j hb
theorem m296 (L : Lay v c w) (hs : ly_s a = some (.inr (.int, N))) (ha : 96 < a) (ha3 : a < 143) (ha2 : a ≠ 140) (hn : n ≤ N) (hN : N ≤ 9600) (hp : cm_I w 96 74 = nI pl) (hpl : pl + n ≤ 9600) : ∃ w', fn_296 96 a (nI n) w = some w' ∧ Lay v c w' ∧ cm_L w' = cm_L w ∧ cm_I w' 96 74 = nI (pl + n) ∧ (∀ k, k < n → cm_I w' a k = cm_I w 140 (pl + k)) ∧ ∀ b j, b ≠ a → (b ≠ 96 ∨ j ≠ 74) → cm_I w' b j = cm_I w b j := by
  have hw : cm_w2 96 143 a = true := by
    unfold cm_w2
    rw [decide_eq_true (show 96 ≤ a by omega), decide_eq_true ha3, decide_eq_true (show 2 ≤ a by omega)]; rfl
  refine up_0 (fun M k y => fn_296_2 M 96 a (nI n) (nI k) y) n (fun k y => Lay v c y ∧ cm_L y = cm_L w ∧ (∀ t, t < k → cm_I y a t = cm_I w 140 (pl + t)) ∧ ∀ b j, b ≠ a → cm_I y b j = cm_I w b j) (fun o => ∃ w', o = some w' ∧ Lay v c w' ∧ cm_L w' = cm_L w ∧ cm_I w' 96 74 = nI (pl + n) ∧ (∀ k, k < n → cm_I w' a k = cm_I w 140 (pl + k)) ∧ ∀ b j, b ≠ a → (b ≠ 96 ∨ j ≠ 74) → cm_I w' b j = cm_I w b j) w (by omega) ⟨L, rfl, fun t h => by omega, fun _ _ _ => rfl⟩ (fun M k y hk hy => Or.inr ?_) (fun M y hy => ?_)
  · obtain ⟨LL, h1, h2, h4⟩ := hy
    have hk' : ¬ n ≤ k := by omega
    have ga := ga_of ((LL.sh (by omega) ha3).trans hs)
    have e74 : cm_I y 96 74 = nI pl := by rw [h4 _ _ (by omega)]; exact hp
    have eak : cm_I y 140 (pl + k) = cm_I w 140 (pl + k) := h4 _ _ (by omega)
    refine ⟨cm_sI y a k (cm_I w 140 (pl + k)), ⟨LL, h1, fun t ht => ?_, fun b j hb => ?_⟩, ?_⟩
    · by_cases z : t = k
      · subst z; rw [I_eq]
      · rw [I_nk (by omega)]; exact h2 t (by omega)
    · rw [I_ne hb]; exact h4 b j hb
    · simp (disch := omega) only [fn_296_2, hk', ↓LMb LL, LM LL, ga, e74, eak, hw, eq_self, Nat.le_refl, Nat.lt_irrefl, some_if, Option.bind_some, Option.bind_none, Option.some.injEq, ↓reduceIte, reduceCtorEq, Bool.false_eq_true, Bool.true_eq_false, not_true_eq_false, not_false_eq_true, cmb0, cmb1, Nat.reduceAdd, Nat.reduceMul, Nat.reduceSub, Nat.add_zero, Bool.not_eq_true, Bool.not_eq_false, Nat.reduceEqDiff, Nat.reduceLeDiff, Nat.reduceLT, Int32.reduceLT, Int32.reduceLE, iin_nI, iin_lit, iin_m1, tn_nI, tn_lit, nI_lm, nI_ml, nI_al, nI_la, nI_add, pk_mul, nI_le_l, nI_l_le, nI_lt_l, nI_l_lt, nI_eq_l, nI_l_eq, nI_eqP, nI_leP, nI_ltP, nI_m1, m1_nI, nI_ll, m1_l, l_m1]
  · obtain ⟨LL, h1, h2, h4⟩ := hy
    have e74 : cm_I y 96 74 = nI pl := by rw [h4 _ _ (by omega)]; exact hp
    refine ⟨cm_sI y 96 74 (nI (pl + n)), ?_, LL, h1, I_eq, fun k hk => ?_, fun b j hb h => ?_⟩
    · simp (disch := omega) only [fn_296_2, fn_296_27, LM LL, e74, cm_w2, Nat.reduceLeDiff, Nat.reduceLT, decide_true, Bool.and_self, Bool.and_true, eq_self, Nat.le_refl, Nat.lt_irrefl, some_if, Option.bind_some, Option.bind_none, Option.some.injEq, ↓reduceIte, reduceCtorEq, Bool.false_eq_true, Bool.true_eq_false, not_true_eq_false, not_false_eq_true, cmb0, cmb1, Nat.reduceAdd, Nat.reduceMul, Nat.reduceSub, Nat.add_zero, Bool.not_eq_true, Bool.not_eq_false, Nat.reduceEqDiff, Nat.reduceLeDiff, Nat.reduceLT, Int32.reduceLT, Int32.reduceLE, iin_nI, iin_lit, iin_m1, tn_nI, tn_lit, nI_lm, nI_ml, nI_al, nI_la, nI_add, pk_mul, nI_le_l, nI_l_le, nI_lt_l, nI_l_lt, nI_eq_l, nI_l_eq, nI_eqP, nI_leP, nI_ltP, nI_m1, m1_nI, nI_ll, m1_l, l_m1]
    · rw [I_ne (by omega)]; exact h2 k hk
    · rw [I_if, if_neg (by omega)]; exact h4 b j hb
theorem ps0 (P : PW v c x B l e w) {a N n : Nat} {i : Int32} (hi : i = nI n) (hs : ly_s a = some (.inr (.int, N))) (ha : 96 < a) (ha3 : a < 143) (ha2 : a ≠ 140) (hn : n ≤ N) (hN : N ≤ 9600) (hB : B + e + n ≤ 9600) {e' : Nat} (he : e' = e + n) : ∃ w', PW v c x B ((a, e, n) :: l) e' w' ∧ fn_295 96 a i w = some w' := by
  obtain ⟨P1, P2, P3, P4, P5, P6, P7⟩ := P
  obtain ⟨w', a1, L', z1, p1, k1, o1, f1⟩ := m295 P1 hs ha ha3 ha2 hn hN P3 hB
  subst hi he
  refine ⟨w', ⟨L', z1.trans P2, ?_, fun q hq k hk => ?_, fun j hj => ?_, fun b j hb h => (f1 b j hb h).trans (P6 b j hb h), fun q hq => ?_⟩, a1⟩
  · rw [p1, Nat.add_assoc]
  · rcases List.mem_cons.mp hq with rfl | hq
    · dsimp only at hk ⊢
      rw [k1 k hk, P6 _ _ ha2 (Or.inl (by omega))]
    · have := P7 q hq
      rw [o1 _ (by omega)]
      exact P4 q hq k hk
  · rw [o1 j (by omega)]
    exact P5 j (by omega)
  · rcases List.mem_cons.mp hq with rfl | hq
    · exact Nat.le_refl _
    · have := P7 q hq
      omega
theorem ps1 (P : PW v c x B l e w) (a K N n : Nat) (i : Int32) (hi : i = nI n) (hR : ly_R 96 K = some a) (hs : ly_s a = some (.inr (.int, N))) (ha : 96 < a) (ha3 : a < 143) (ha2 : a ≠ 140) (hn : n ≤ N) (hN : N ≤ 9600) (hB : B + e + n ≤ 9600) (e' : Nat) (he : e' = e + n) : ∃ w', PW v c x B ((a, e, n) :: l) e' w' ∧ ∀ (β : Type) (f : cm_W → Option β), (if cm_sh w 96 = some (.inl 11) then (cm_R w 96 K).bind fun r => (fn_295 96 r i w).bind f else none) = f w' := by
  obtain ⟨w', P', e1⟩ := ps0 P (a := a) (N := N) (n := n) hi hs ha ha3 ha2 hn hN hB he
  refine ⟨w', P', fun β f => ?_⟩
  rw [if_pos (LM P.1).1, bd (P.1.R hR), bd e1]
theorem fs0 (P : FW v c x B l e w) {a N n : Nat} {i : Int32} (hi : i = nI n) (hs : ly_s a = some (.inr (.int, N))) (ha : 96 < a) (ha3 : a < 143) (ha2 : a ≠ 140) (hn : n ≤ N) (hN : N ≤ 9600) (hB : B + e + n ≤ 9600) {e' : Nat} (he : e' = e + n) (hl : ∀ q, q ∈ l → q.1 ≠ a ∧ q.1 ≠ 140 ∧ q.1 ≠ 96) : ∃ w', FW v c x B ((a, e, n) :: l) e' w' ∧ fn_296 96 a i w = some w' := by
  obtain ⟨P1, P2, P3, P4, P6⟩ := P
  obtain ⟨w', a1, L', z1, p1, k1, f1⟩ := m296 P1 hs ha ha3 ha2 hn hN P3 hB
  subst hi he
  refine ⟨w', ⟨L', z1.trans P2, ?_, fun q hq k hk => ?_, fun b j hb h => ?_⟩, a1⟩
  · rw [p1, Nat.add_assoc]
  · rcases List.mem_cons.mp hq with rfl | hq
    · dsimp only at hk ⊢
      rw [k1 k hk, P6 140 _ (fun q hq => (hl q hq).2.1.symm) (Or.inl (by omega))]
    · have := hl q hq
      rw [f1 _ _ this.1 (Or.inl this.2.2)]
      exact P4 q hq k hk
  · rw [f1 b j (hb _ List.mem_cons_self) h]
    exact P6 b j (fun q hq => hb q (List.mem_cons_of_mem _ hq)) h
theorem fs1 (P : FW v c x B l e w) (a K N n : Nat) (i : Int32) (hi : i = nI n) (hR : ly_R 96 K = some a) (hs : ly_s a = some (.inr (.int, N))) (ha : 96 < a) (ha3 : a < 143) (ha2 : a ≠ 140) (hn : n ≤ N) (hN : N ≤ 9600) (hB : B + e + n ≤ 9600) (e' : Nat) (he : e' = e + n) (hl : ∀ q, q ∈ l → q.1 ≠ a ∧ q.1 ≠ 140 ∧ q.1 ≠ 96) : ∃ w', FW v c x B ((a, e, n) :: l) e' w' ∧ ∀ (β : Type) (f : cm_W → Option β), (if cm_sh w 96 = some (.inl 11) then (cm_R w 96 K).bind fun r => (fn_296 96 r i w).bind f else none) = f w' := by
  obtain ⟨w', P', e1⟩ := fs0 P (a := a) (N := N) (n := n) hi hs ha ha3 ha2 hn hN hB he hl
  refine ⟨w', P', fun β f => ?_⟩
  rw [if_pos (LM P.1).1, bd (P.1.R hR), bd e1]
/-- the reference makes an image -/
theorem m297 (L : Lay v c x) {g : Nat} (hg : g < 3) (eg : cm_I x 96 73 = nI g) : ∃ y, fn_297_15 96 x = some (nI g, y) ∧ Lay v c y ∧ (∀ a k, sb a k = true → cm_I y 140 (3200 * g + iof a k) = cm_I x a k) ∧ (∀ j, j < 3200 * g → cm_I y 140 j = cm_I x 140 j) ∧ cm_I y 96 73 = nI (g + 1) ∧ (∀ a j, a ≠ 140 → a ≠ 141 → (a ≠ 96 ∨ j ≠ 74 ∧ j ≠ 73) → cm_I y a j = cm_I x a j) ∧ ∀ a j, cm_L y a j = if a = 142 ∧ j = g then cm_L x 96 71 else cm_L x a j := by
  have g141 : ∀ i : Nat, i < 5 → cm_ga x .int 141 (nI i) = true := fun i hi => by
    rw [ga_of (n := 5) ((L.sh (a := 141) (by decide) (by decide)).trans rfl)]
    exact iin_nI hi (by decide)
  have g142 : cm_ga x .long 142 (nI g) = true := by
    rw [ga_of (n := 3) ((L.sh (a := 142) (by decide) (by decide)).trans rfl)]
    exact iin_nI hg (by decide)
  have r76 : ∀ z, Lay v c z → cm_R z 96 76 = some 141 := fun z Lz => Lz.R rfl
  have r77 : ∀ z, Lay v c z → cm_R z 96 77 = some 142 := fun z Lz => Lz.R rfl
  have wr : cm_w2 96 143 96 = true ∧ cm_w2 96 143 141 = true ∧ cm_w2 96 143 142 = true := ⟨rfl, rfl, rfl⟩
  rw [fn_297_15, if_pos (LM L).1, if_pos wr.1]
  generalize h1 : cm_sI x 96 74 ((3200 : Int32) * (cm_I x 96 73)) = w1
  have L1 : Lay v c w1 := by rw [← h1]; exact L
  have e173 : cm_I w1 96 73 = nI g := by rw [← h1, I_nk (by omega)]; exact eg
  rw [bd (r77 _ L1), e173, if_pos g142, if_pos wr.2.2]
  generalize h2 : cm_sL w1 142 (nI g).toNatClampNeg (cm_L w1 96 71) = w2
  have L2 : Lay v c w2 := by rw [← h2]; exact L1.sL (by omega)
  rw [bd (r76 _ L2), if_pos (show cm_ga x .int 141 (0 : Int32) = true from g141 0 (by decide)), if_pos wr.2.1]
  generalize h3 : cm_sI w2 141 (0 : Int32).toNatClampNeg (cm_I w2 96 8) = w3
  have L3 : Lay v c w3 := by rw [← h3]; exact L2
  rw [bd (r76 _ L3), if_pos (show cm_ga x .int 141 (1 : Int32) = true from g141 1 (by decide)), if_pos wr.2.1]
  generalize h4 : cm_sI w3 141 (1 : Int32).toNatClampNeg (cm_I w3 96 38) = w4
  have L4 : Lay v c w4 := by rw [← h4]; exact L3
  rw [bd (r76 _ L4), if_pos (show cm_ga x .int 141 (2 : Int32) = true from g141 2 (by decide)), if_pos wr.2.1]
  generalize h5 : cm_sI w4 141 (2 : Int32).toNatClampNeg (cm_I w4 96 39) = w5
  have L5 : Lay v c w5 := by rw [← h5]; exact L4
  rw [bd (r76 _ L5), if_pos (show cm_ga x .int 141 (3 : Int32) = true from g141 3 (by decide)), if_pos wr.2.1]
  generalize h6 : cm_sI w5 141 (3 : Int32).toNatClampNeg (cm_I w5 96 51) = w6
  have L6 : Lay v c w6 := by rw [← h6]; exact L5
  rw [bd (r76 _ L6), if_pos (show cm_ga x .int 141 (4 : Int32) = true from g141 4 (by decide)), if_pos wr.2.1]
  generalize h7 : cm_sI w6 141 (4 : Int32).toNatClampNeg (cm_I w6 96 58) = w7
  have L7 : Lay v c w7 := by rw [← h7]; exact L6
  have tg : (nI g).toNatClampNeg = g := tn_nI (by omega)
  have i2 : ∀ a j, (a ≠ 96 ∨ j ≠ 74) → cm_I w2 a j = cm_I x a j := fun a j h => by rw [← h2, I_sL, ← h1, I_if, if_neg (by omega)]
  have i3 : ∀ a j, (a ≠ 141 ∨ j ≠ 0) → cm_I w3 a j = cm_I w2 a j := fun a j h => by
    rw [← h3]
    show (if a = 141 ∧ j = 0 then _ else cm_I w2 a j) = _
    rw [if_neg (by omega)]
  have c3 : cm_I w3 141 0 = cm_I w2 96 8 := by rw [← h3]; exact I_eq
  have i4 : ∀ a j, (a ≠ 141 ∨ j ≠ 1) → cm_I w4 a j = cm_I w3 a j := fun a j h => by
    rw [← h4]
    show (if a = 141 ∧ j = 1 then _ else cm_I w3 a j) = _
    rw [if_neg (by omega)]
  have c4 : cm_I w4 141 1 = cm_I w3 96 38 := by rw [← h4]; exact I_eq
  have i5 : ∀ a j, (a ≠ 141 ∨ j ≠ 2) → cm_I w5 a j = cm_I w4 a j := fun a j h => by
    rw [← h5]
    show (if a = 141 ∧ j = 2 then _ else cm_I w4 a j) = _
    rw [if_neg (by omega)]
  have c5 : cm_I w5 141 2 = cm_I w4 96 39 := by rw [← h5]; exact I_eq
  have i6 : ∀ a j, (a ≠ 141 ∨ j ≠ 3) → cm_I w6 a j = cm_I w5 a j := fun a j h => by
    rw [← h6]
    show (if a = 141 ∧ j = 3 then _ else cm_I w5 a j) = _
    rw [if_neg (by omega)]
  have c6 : cm_I w6 141 3 = cm_I w5 96 51 := by rw [← h6]; exact I_eq
  have i7 : ∀ a j, (a ≠ 141 ∨ j ≠ 4) → cm_I w7 a j = cm_I w6 a j := fun a j h => by
    rw [← h7]
    show (if a = 141 ∧ j = 4 then _ else cm_I w6 a j) = _
    rw [if_neg (by omega)]
  have c7 : cm_I w7 141 4 = cm_I w6 96 58 := by rw [← h7]; exact I_eq
  have i7x : ∀ a j, a ≠ 141 → (a ≠ 96 ∨ j ≠ 74) → cm_I w7 a j = cm_I x a j := fun a j h1 h2 => by
    rw [i7 _ _ (Or.inl h1), i6 _ _ (Or.inl h1), i5 _ _ (Or.inl h1), i4 _ _ (Or.inl h1), i3 _ _ (Or.inl h1), i2 _ _ h2]
  have q0 : cm_I w7 141 0 = cm_I x 96 8 := by rw [i7 _ _ (by omega), i6 _ _ (by omega), i5 _ _ (by omega), i4 _ _ (by omega), c3, i2 _ _ (by omega)]
  have q1 : cm_I w7 141 1 = cm_I x 96 38 := by rw [i7 _ _ (by omega), i6 _ _ (by omega), i5 _ _ (by omega), c4, i3 _ _ (by omega), i2 _ _ (by omega)]
  have q2 : cm_I w7 141 2 = cm_I x 96 39 := by rw [i7 _ _ (by omega), i6 _ _ (by omega), c5, i4 _ _ (by omega), i3 _ _ (by omega), i2 _ _ (by omega)]
  have q3 : cm_I w7 141 3 = cm_I x 96 51 := by rw [i7 _ _ (by omega), c6, i5 _ _ (by omega), i4 _ _ (by omega), i3 _ _ (by omega), i2 _ _ (by omega)]
  have q4 : cm_I w7 141 4 = cm_I x 96 58 := by rw [c7, i6 _ _ (by omega), i5 _ _ (by omega), i4 _ _ (by omega), i3 _ _ (by omega), i2 _ _ (by omega)]
  have z7 : ∀ a j, cm_L w7 a j = if a = 142 ∧ j = g then cm_L x 96 71 else cm_L x a j := fun a j => by
    rw [← h7, L_sI, ← h6, L_sI, ← h5, L_sI, ← h4, L_sI, ← h3, L_sI, ← h2, tg, L_if, ← h1, L_sI]
  have p74 : cm_I w7 96 74 = nI (3200 * g + 0) := by
    rw [i7 _ _ (by omega), i6 _ _ (by omega), i5 _ _ (by omega), i4 _ _ (by omega), i3 _ _ (by omega), ← h2, I_sL, ← h1, I_eq, eg]
    exact nI_lm 3200 g
  have P0 : PW v c w7 (3200 * g) [] 0 w7 := ⟨L7, rfl, p74, fun q hq => (List.not_mem_nil hq).elim, fun _ _ => rfl, fun _ _ _ _ => rfl, fun q hq => (List.not_mem_nil hq).elim⟩
  obtain ⟨v1, P1, b1⟩ := ps0 P0 (a := 141) (N := 5) (n := 5) (i := 5) (e' := 5) rfl rfl (by decide) (by decide) (by decide) (by decide) (by decide) (by omega) rfl
  rw [bd (r76 _ L7), bd b1]
  obtain ⟨v2, P2, b2⟩ := ps1 P1 105 27 24 12 12 rfl rfl rfl (by decide) (by decide) (by decide) (by decide) (by decide) (by omega) 17 rfl
  rw [b2]
  obtain ⟨v3, P3, b3⟩ := ps1 P2 114 40 40 40 40 rfl rfl rfl (by decide) (by decide) (by decide) (by decide) (by decide) (by omega) 57 rfl
  rw [b3]
  obtain ⟨v4, P4, b4⟩ := ps1 P3 115 41 40 40 40 rfl rfl rfl (by decide) (by decide) (by decide) (by decide) (by decide) (by omega) 97 rfl
  rw [b4]
  obtain ⟨v5, P5, b5⟩ := ps1 P4 116 42 40 40 40 rfl rfl rfl (by decide) (by decide) (by decide) (by decide) (by decide) (by omega) 137 rfl
  rw [b5]
  obtain ⟨v6, P6, b6⟩ := ps1 P5 117 43 40 40 40 rfl rfl rfl (by decide) (by decide) (by decide) (by decide) (by decide) (by omega) 177 rfl
  rw [b6]
  obtain ⟨v7, P7, b7⟩ := ps1 P6 118 44 40 40 40 rfl rfl rfl (by decide) (by decide) (by decide) (by decide) (by decide) (by omega) 217 rfl
  rw [b7]
  obtain ⟨v8, P8, b8⟩ := ps1 P7 119 45 40 40 40 rfl rfl rfl (by decide) (by decide) (by decide) (by decide) (by decide) (by omega) 257 rfl
  rw [b8]
  obtain ⟨v9, P9, b9⟩ := ps1 P8 120 46 40 40 40 rfl rfl rfl (by decide) (by decide) (by decide) (by decide) (by decide) (by omega) 297 rfl
  rw [b9]
  obtain ⟨v10, P10, b10⟩ := ps1 P9 121 47 480 480 480 rfl rfl rfl (by decide) (by decide) (by decide) (by decide) (by decide) (by omega) 777 rfl
  rw [b10]
  obtain ⟨v11, P11, b11⟩ := ps1 P10 122 48 2100 2100 2100 rfl rfl rfl (by decide) (by decide) (by decide) (by decide) (by decide) (by omega) 2877 rfl
  rw [b11]
  obtain ⟨v12, P12, b12⟩ := ps1 P11 124 52 20 20 20 rfl rfl rfl (by decide) (by decide) (by decide) (by decide) (by decide) (by omega) 2897 rfl
  rw [b12]
  obtain ⟨v13, P13, b13⟩ := ps1 P12 125 53 20 20 20 rfl rfl rfl (by decide) (by decide) (by decide) (by decide) (by decide) (by omega) 2917 rfl
  rw [b13]
  obtain ⟨v14, P14, b14⟩ := ps1 P13 126 54 20 20 20 rfl rfl rfl (by decide) (by decide) (by decide) (by decide) (by decide) (by omega) 2937 rfl
  rw [b14]
  obtain ⟨v15, P15, b15⟩ := ps1 P14 127 55 20 20 20 rfl rfl rfl (by decide) (by decide) (by decide) (by decide) (by decide) (by omega) 2957 rfl
  rw [b15]
  obtain ⟨v16, P16, b16⟩ := ps1 P15 128 56 20 20 20 rfl rfl rfl (by decide) (by decide) (by decide) (by decide) (by decide) (by omega) 2977 rfl
  rw [b16]
  obtain ⟨v17, P17, b17⟩ := ps1 P16 129 57 20 20 20 rfl rfl rfl (by decide) (by decide) (by decide) (by decide) (by decide) (by omega) 2997 rfl
  rw [b17]
  obtain ⟨v18, P18, b18⟩ := ps1 P17 130 59 40 40 40 rfl rfl rfl (by decide) (by decide) (by decide) (by decide) (by decide) (by omega) 3037 rfl
  rw [b18]
  obtain ⟨v19, P19, b19⟩ := ps1 P18 131 60 40 40 40 rfl rfl rfl (by decide) (by decide) (by decide) (by decide) (by decide) (by omega) 3077 rfl
  rw [b19]
  obtain ⟨v20, P20, b20⟩ := ps1 P19 132 61 40 40 40 rfl rfl rfl (by decide) (by decide) (by decide) (by decide) (by decide) (by omega) 3117 rfl
  rw [b20]
  obtain ⟨v21, P21, b21⟩ := ps1 P20 133 62 40 40 40 rfl rfl rfl (by decide) (by decide) (by decide) (by decide) (by decide) (by omega) 3157 rfl
  rw [b21]
  obtain ⟨k1, k2, k3, k4, k5, k6, -⟩ := P21
  have e73 : cm_I v21 96 73 = nI g := by rw [k6 _ _ (by omega) (by omega), i7x _ _ (by omega) (by omega)]; exact eg
  refine ⟨cm_sI v21 96 73 (nI (g + 1)), ?_, k1, fun a k hs => ?_, fun j hj => ?_, I_eq, fun a j h1 h2 h3 => ?_, fun a j => ?_⟩
  · rw [if_pos (LM k1).1, if_pos wr.1, I_eq, e73, nI_1, nI_pred]
  · rw [I_ne (by omega)]
    rcases sb_cs hs with ⟨rfl, o, e1, e2, e3⟩ | ⟨z, o, e1, e2, e3, e4⟩
    · rw [e2]
      have := k4 (141, 0, 5) (List.mem_append_right iml List.mem_cons_self) o e3
      dsimp only at this
      rw [Nat.add_zero] at this
      rw [this]
      unfold imf at e1
      split at e1
      · cases e1; exact q0
      · cases e1; exact q1
      · cases e1; exact q2
      · cases e1; exact q3
      · cases e1; exact q4
      · cases e1
    · rw [e2, ← Nat.add_assoc]
      have := k4 (a, o, ilen a) (List.mem_append_left [(141, 0, 5)] (imo_l e1)) k e3
      dsimp only at this
      rw [this]
      refine i7x a k (fun h => ?_) (Or.inl z)
      rw [h] at e1; cases e1
  · rw [I_ne (by omega), k5 j (Or.inl hj), i7x _ _ (by omega) (by omega)]
  · rw [I_if, if_neg (by omega), k6 _ _ h1 (by omega), i7x _ _ h2 (by omega)]
  · rw [L_sI, k2, z7]
/-- the reference goes back to one -/
theorem m298 (L : Lay v c x) {g : Nat} (hg : g < 3) : ∃ y, fn_298_20 96 (nI g) x = some (true, y) ∧ Lay v c y ∧ (∀ a k, sb a k = true → cm_I y a k = cm_I x 140 (3200 * g + iof a k)) ∧ (∀ a j, imo a = none → a ≠ 141 → (a ≠ 96 ∨ j ≠ 74 ∧ imf j = none) → cm_I y a j = cm_I x a j) ∧ ∀ a j, cm_L y a j = if a = 96 ∧ j = 71 then cm_L x 142 g else cm_L x a j := by
  have g141 : ∀ z, Lay v c z → ∀ i : Nat, i < 5 → cm_ga z .int 141 (nI i) = true := fun z Lz i hi => by
    rw [ga_of (n := 5) ((Lz.sh (a := 141) (by decide) (by decide)).trans rfl)]
    exact iin_nI hi (by decide)
  have g142 : cm_ga x .long 142 (nI g) = true := by
    rw [ga_of (n := 3) ((L.sh (a := 142) (by decide) (by decide)).trans rfl)]
    exact iin_nI hg (by decide)
  have r76 : ∀ z, Lay v c z → cm_R z 96 76 = some 141 := fun z Lz => Lz.R rfl
  have r77 : ∀ z, Lay v c z → cm_R z 96 77 = some 142 := fun z Lz => Lz.R rfl
  have wr : cm_w2 96 143 96 = true := rfl
  have tg : (nI g).toNatClampNeg = g := tn_nI (by omega)
  rw [fn_298_20, if_pos (LM L).1, if_pos wr]
  generalize h1 : cm_sI x 96 74 ((3200 : Int32) * nI g) = w1
  have L1 : Lay v c w1 := by rw [← h1]; exact L
  rw [bd (r77 _ L1), if_pos g142]
  generalize h2 : cm_sL w1 96 71 (cm_L w1 142 (nI g).toNatClampNeg) = w2
  have L2 : Lay v c w2 := by rw [← h2]; exact L1.sL (by omega)
  have i2 : ∀ a j, (a ≠ 96 ∨ j ≠ 74) → cm_I w2 a j = cm_I x a j := fun a j h => by rw [← h2, I_sL, ← h1, I_if, if_neg (by omega)]
  have z2 : ∀ a j, cm_L w2 a j = if a = 96 ∧ j = 71 then cm_L x 142 g else cm_L x a j := fun a j => by
    rw [← h2, tg, L_if, ← h1, L_sI]
  have p74 : cm_I w2 96 74 = nI (3200 * g + 0) := by
    rw [← h2, I_sL, ← h1, I_eq]
    exact nI_lm 3200 g
  have P0 : FW v c w2 (3200 * g) [] 0 w2 := ⟨L2, rfl, p74, fun q hq => (List.not_mem_nil hq).elim, fun _ _ _ _ => rfl⟩
  obtain ⟨w3, Q1, b0⟩ := fs0 P0 (a := 141) (N := 5) (n := 5) (i := 5) (e' := 5) rfl rfl (by decide) (by decide) (by decide) (by decide) (by decide) (by omega) rfl (fun q hq => (List.not_mem_nil hq).elim)
  rw [bd (r76 _ L2), bd b0]
  obtain ⟨L3, k2, k3, k4, k6⟩ := Q1
  have s0 : ∀ o, o < 5 → cm_I w3 141 o = cm_I x 140 (3200 * g + o) := fun o ho => by
    have := k4 (141, 0, 5) List.mem_cons_self o ho
    dsimp only at this
    rw [this, Nat.add_zero, i2 _ _ (by omega)]
  have f3 : ∀ a j, a ≠ 141 → (a ≠ 96 ∨ j ≠ 74) → cm_I w3 a j = cm_I x a j := fun a j h1 h2 => by
    rw [k6 a j (fun q hq => by rw [List.mem_singleton.mp hq]; exact h1) h2, i2 _ _ h2]
  rw [if_pos (LM L3).1]
  rw [bd (r76 _ L3), if_pos (show cm_ga w3 .int 141 (0 : Int32) = true from g141 _ L3 0 (by decide)), if_pos wr]
  generalize h4 : cm_sI w3 96 8 (cm_I w3 141 (0 : Int32).toNatClampNeg) = w4
  have L4 : Lay v c w4 := by rw [← h4]; exact L3
  have i4 : ∀ a j, (a ≠ 96 ∨ j ≠ 8) → cm_I w4 a j = cm_I w3 a j := fun a j h => by rw [← h4, I_if, if_neg (by omega)]
  have c4 : cm_I w4 96 8 = cm_I w3 141 0 := by rw [← h4]; exact I_eq
  rw [bd (r76 _ L4), if_pos (show cm_ga w3 .int 141 (1 : Int32) = true from g141 _ L3 1 (by decide))]
  generalize h5 : cm_sI w4 96 38 (cm_I w4 141 (1 : Int32).toNatClampNeg) = w5
  have L5 : Lay v c w5 := by rw [← h5]; exact L4
  have i5 : ∀ a j, (a ≠ 96 ∨ j ≠ 38) → cm_I w5 a j = cm_I w4 a j := fun a j h => by rw [← h5, I_if, if_neg (by omega)]
  have c5 : cm_I w5 96 38 = cm_I w4 141 1 := by rw [← h5]; exact I_eq
  rw [bd (r76 _ L5), if_pos (show cm_ga w3 .int 141 (2 : Int32) = true from g141 _ L3 2 (by decide))]
  generalize h6 : cm_sI w5 96 39 (cm_I w5 141 (2 : Int32).toNatClampNeg) = w6
  have L6 : Lay v c w6 := by rw [← h6]; exact L5
  have i6 : ∀ a j, (a ≠ 96 ∨ j ≠ 39) → cm_I w6 a j = cm_I w5 a j := fun a j h => by rw [← h6, I_if, if_neg (by omega)]
  have c6 : cm_I w6 96 39 = cm_I w5 141 2 := by rw [← h6]; exact I_eq
  rw [bd (r76 _ L6), if_pos (show cm_ga w3 .int 141 (3 : Int32) = true from g141 _ L3 3 (by decide))]
  generalize h7 : cm_sI w6 96 51 (cm_I w6 141 (3 : Int32).toNatClampNeg) = w7
  have L7 : Lay v c w7 := by rw [← h7]; exact L6
  have i7 : ∀ a j, (a ≠ 96 ∨ j ≠ 51) → cm_I w7 a j = cm_I w6 a j := fun a j h => by rw [← h7, I_if, if_neg (by omega)]
  have c7 : cm_I w7 96 51 = cm_I w6 141 3 := by rw [← h7]; exact I_eq
  rw [bd (r76 _ L7), if_pos (show cm_ga w3 .int 141 (4 : Int32) = true from g141 _ L3 4 (by decide))]
  generalize h8 : cm_sI w7 96 58 (cm_I w7 141 (4 : Int32).toNatClampNeg) = w8
  have L8 : Lay v c w8 := by rw [← h8]; exact L7
  have i8 : ∀ a j, (a ≠ 96 ∨ j ≠ 58) → cm_I w8 a j = cm_I w7 a j := fun a j h => by rw [← h8, I_if, if_neg (by omega)]
  have c8 : cm_I w8 96 58 = cm_I w7 141 4 := by rw [← h8]; exact I_eq
  have z8 : cm_L w8 = cm_L w3 := by rw [← h8, L_sI, ← h7, L_sI, ← h6, L_sI, ← h5, L_sI, ← h4, L_sI]
  have i8x : ∀ a j, (a ≠ 96 ∨ j ≠ 8 ∧ j ≠ 38 ∧ j ≠ 39 ∧ j ≠ 51 ∧ j ≠ 58) → cm_I w8 a j = cm_I w3 a j := fun a j h => by
    rw [i8 _ _ (by omega), i7 _ _ (by omega), i6 _ _ (by omega), i5 _ _ (by omega), i4 _ _ (by omega)]
  have q0 : cm_I w8 96 8 = cm_I w3 141 0 := by rw [i8 _ _ (by omega), i7 _ _ (by omega), i6 _ _ (by omega), i5 _ _ (by omega), c4]
  have q1 : cm_I w8 96 38 = cm_I w3 141 1 := by rw [i8 _ _ (by omega), i7 _ _ (by omega), i6 _ _ (by omega), c5, i4 _ _ (by omega)]
  have q2 : cm_I w8 96 39 = cm_I w3 141 2 := by rw [i8 _ _ (by omega), i7 _ _ (by omega), c6, i5 _ _ (by omega), i4 _ _ (by omega)]
  have q3 : cm_I w8 96 51 = cm_I w3 141 3 := by rw [i8 _ _ (by omega), c7, i6 _ _ (by omega), i5 _ _ (by omega), i4 _ _ (by omega)]
  have q4 : cm_I w8 96 58 = cm_I w3 141 4 := by rw [c8, i7 _ _ (by omega), i6 _ _ (by omega), i5 _ _ (by omega), i4 _ _ (by omega)]
  have P1 : FW v c w8 (3200 * g) [] 5 w8 := ⟨L8, rfl, by rw [i8x _ _ (by omega)]; exact k3, fun q hq => (List.not_mem_nil hq).elim, fun _ _ _ _ => rfl⟩
  obtain ⟨v2, P2, b2⟩ := fs0 P1 (a := 105) (N := 24) (n := 12) (i := 12) (e' := 17) rfl rfl (by decide) (by decide) (by decide) (by decide) (by decide) (by omega) rfl (fun q hq => (List.not_mem_nil hq).elim)
  rw [bd (show cm_R w8 96 27 = some 105 from L8.R rfl), bd b2]
  obtain ⟨v3, P3, b3⟩ := fs1 P2 114 40 40 40 40 rfl rfl rfl (by decide) (by decide) (by decide) (by decide) (by decide) (by omega) 57 rfl (by decide)
  rw [b3]
  obtain ⟨v4, P4, b4⟩ := fs1 P3 115 41 40 40 40 rfl rfl rfl (by decide) (by decide) (by decide) (by decide) (by decide) (by omega) 97 rfl (by decide)
  rw [b4]
  obtain ⟨v5, P5, b5⟩ := fs1 P4 116 42 40 40 40 rfl rfl rfl (by decide) (by decide) (by decide) (by decide) (by decide) (by omega) 137 rfl (by decide)
  rw [b5]
  obtain ⟨v6, P6, b6⟩ := fs1 P5 117 43 40 40 40 rfl rfl rfl (by decide) (by decide) (by decide) (by decide) (by decide) (by omega) 177 rfl (by decide)
  rw [b6]
  obtain ⟨v7, P7, b7⟩ := fs1 P6 118 44 40 40 40 rfl rfl rfl (by decide) (by decide) (by decide) (by decide) (by decide) (by omega) 217 rfl (by decide)
  rw [b7]
  obtain ⟨v8, P8, b8⟩ := fs1 P7 119 45 40 40 40 rfl rfl rfl (by decide) (by decide) (by decide) (by decide) (by decide) (by omega) 257 rfl (by decide)
  rw [b8]
  obtain ⟨v9, P9, b9⟩ := fs1 P8 120 46 40 40 40 rfl rfl rfl (by decide) (by decide) (by decide) (by decide) (by decide) (by omega) 297 rfl (by decide)
  rw [b9]
  obtain ⟨v10, P10, b10⟩ := fs1 P9 121 47 480 480 480 rfl rfl rfl (by decide) (by decide) (by decide) (by decide) (by decide) (by omega) 777 rfl (by decide)
  rw [b10]
  obtain ⟨v11, P11, b11⟩ := fs1 P10 122 48 2100 2100 2100 rfl rfl rfl (by decide) (by decide) (by decide) (by decide) (by decide) (by omega) 2877 rfl (by decide)
  rw [b11]
  obtain ⟨v12, P12, b12⟩ := fs1 P11 124 52 20 20 20 rfl rfl rfl (by decide) (by decide) (by decide) (by decide) (by decide) (by omega) 2897 rfl (by decide)
  rw [b12]
  obtain ⟨v13, P13, b13⟩ := fs1 P12 125 53 20 20 20 rfl rfl rfl (by decide) (by decide) (by decide) (by decide) (by decide) (by omega) 2917 rfl (by decide)
  rw [b13]
  obtain ⟨v14, P14, b14⟩ := fs1 P13 126 54 20 20 20 rfl rfl rfl (by decide) (by decide) (by decide) (by decide) (by decide) (by omega) 2937 rfl (by decide)
  rw [b14]
  obtain ⟨v15, P15, b15⟩ := fs1 P14 127 55 20 20 20 rfl rfl rfl (by decide) (by decide) (by decide) (by decide) (by decide) (by omega) 2957 rfl (by decide)
  rw [b15]
  obtain ⟨v16, P16, b16⟩ := fs1 P15 128 56 20 20 20 rfl rfl rfl (by decide) (by decide) (by decide) (by decide) (by decide) (by omega) 2977 rfl (by decide)
  rw [b16]
  obtain ⟨v17, P17, b17⟩ := fs1 P16 129 57 20 20 20 rfl rfl rfl (by decide) (by decide) (by decide) (by decide) (by decide) (by omega) 2997 rfl (by decide)
  rw [b17]
  obtain ⟨v18, P18, b18⟩ := fs1 P17 130 59 40 40 40 rfl rfl rfl (by decide) (by decide) (by decide) (by decide) (by decide) (by omega) 3037 rfl (by decide)
  rw [b18]
  obtain ⟨v19, P19, b19⟩ := fs1 P18 131 60 40 40 40 rfl rfl rfl (by decide) (by decide) (by decide) (by decide) (by decide) (by omega) 3077 rfl (by decide)
  rw [b19]
  obtain ⟨v20, P20, b20⟩ := fs1 P19 132 61 40 40 40 rfl rfl rfl (by decide) (by decide) (by decide) (by decide) (by decide) (by omega) 3117 rfl (by decide)
  rw [b20]
  obtain ⟨v21, P21, b21⟩ := fs1 P20 133 62 40 40 40 rfl rfl rfl (by decide) (by decide) (by decide) (by decide) (by decide) (by omega) 3157 rfl (by decide)
  rw [b21]
  obtain ⟨m1, m2, m3, m4, m6⟩ := P21
  refine ⟨v21, rfl, m1, fun a k hs => ?_, fun a j ha h1 h2 => ?_, fun a j => ?_⟩
  · rcases sb_cs hs with ⟨rfl, o, e1, e2, e3⟩ | ⟨z, o, e1, e2, e3, e4⟩
    · rw [e2, ← s0 o e3, m6 96 k (by decide) (Or.inr (fun h => by rw [h] at e1; cases e1))]
      unfold imf at e1
      split at e1
      · cases e1; exact q0
      · cases e1; exact q1
      · cases e1; exact q2
      · cases e1; exact q3
      · cases e1; exact q4
      · cases e1
    · rw [e2, ← Nat.add_assoc]
      have := m4 (a, o, ilen a) (imo_l e1) k e3
      dsimp only at this
      rw [this, i8x _ _ (by omega), f3 _ _ (by omega) (by omega)]
  · have : ∀ q, q ∈ iml → imo q.1 ≠ none := by decide
    rw [m6 a j (fun q hq e => this q hq (by rw [← e]; exact ha)) (by omega)]
    have hj : a ≠ 96 ∨ j ≠ 8 ∧ j ≠ 38 ∧ j ≠ 39 ∧ j ≠ 51 ∧ j ≠ 58 := by
      rcases h2 with h2 | ⟨-, h2⟩
      · exact Or.inl h2
      · refine Or.inr ⟨?_, ?_, ?_, ?_, ?_⟩ <;> (intro h; rw [h] at h2; cases h2)
    rw [i8x _ _ hj, f3 _ _ h1 (by omega)]
  · rw [m2, z8, k2, z2]
end IMG2
