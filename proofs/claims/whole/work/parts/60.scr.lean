/-! calls that only look, but use rows of their own on the way; the book: wrong -/
/-- the class wrote in its own rows only -/
def FC (v c : Nat) (w w' : cm_W) : Prop := Lay v c w' ∧ ∀ a, a < 43 ∨ 63 ≤ a → cm_I w' a = cm_I w a ∧ cm_L w' a = cm_L w a
/-- the reference wrote in its own rows only -/
def FM (v c : Nat) (x y : cm_W) (s : St) : Prop := Lay v c y ∧ RelM y s ∧ (∀ a, a < 96 → cm_I y a = cm_I x a ∧ cm_L y a = cm_L x a) ∧ cm_L y 142 = cm_L x 142 ∧ cm_L y 96 71 = cm_L x 96 71
section SCR
variable {v c u n : Nat} {w w' w'' : cm_W} {s s' : St}
theorem FC.rf (L : Lay v c w) : FC v c w w := ⟨L, fun _ _ => ⟨rfl, rfl⟩⟩
theorem FC.sI (h : FC v c w w') {a k : Nat} {x : Int32} (ha : 43 ≤ a ∧ a < 63) : FC v c w (cm_sI w' a k x) := ⟨h.1, fun b hb => ⟨by
  funext j; rw [I_ne (by omega)]; rw [(h.2 b hb).1], (h.2 b hb).2⟩⟩
theorem FC.sL (h : FC v c w w') {a k : Nat} {x : Int64} (ha : 43 ≤ a ∧ a < 63) : FC v c w (cm_sL w' a k x) := ⟨h.1.sL (by omega), fun b hb => ⟨(h.2 b hb).1, by
  funext j; rw [L_ne (by omega)]; rw [(h.2 b hb).2]⟩⟩
theorem FC.tr (h : FC v c w w') (h2 : FC v c w' w'') : FC v c w w'' := ⟨h2.1, fun a ha => ⟨(h2.2 a ha).1.trans (h.2 a ha).1, (h2.2 a ha).2.trans (h.2 a ha).2⟩⟩
theorem FC.V (h : FC v c w w') (V : VilC w u s) (hu : u = 10 ∨ u = 20) : VilC w' u s := V.cg hu (fun a ha j => by rw [(h.2 a (by omega)).1]) (fun _ _ _ => rfl)
theorem FC.S (h : FC v c w w') (V : StC w 30 s) : StC w' 30 s := V.cg (fun a h1 h2 j => by rw [(h.2 a (by omega)).1]) (fun _ _ _ => rfl) rfl
theorem FC.M (h : FC v c w w') (M : RelM w s) : RelM w' s := M.fr fun a ha j => by rw [(h.2 a (by omega)).1]
theorem FC.C (h : FC v c w w') (C : RelC v w s) (hv : v = 10 ∨ v = 20) : RelC v w' s := by
  refine ⟨?_, h.V C.2.1 hv, h.S C.2.2.1, fun i hi => ?_, fun i hi hi3 => ?_, ?_⟩
  · rw [(h.2 2 (by omega)).1, (h.2 42 (by omega)).1, (h.2 3 (by omega)).1]; exact C.1
  · rw [(h.2 _ (by omega)).1, (h.2 _ (by omega)).1, (h.2 _ (by omega)).1, (h.2 _ (by omega)).1]; exact C.2.2.2.1 i hi
  · exact (C.2.2.2.2.1 i hi hi3).cg (fun a h1 h2 j => by rw [(h.2 a (by omega)).1]) (fun _ _ _ => rfl) rfl
  · rw [(h.2 _ (by omega)).1, (h.2 _ (by omega)).1, (h.2 _ (by omega)).1]; exact C.2.2.2.2.2
theorem FM.rf (L : Lay v c w) (M : RelM w s) : FM v c w w s := ⟨L, M, fun _ _ => ⟨rfl, rfl⟩, rfl, rfl⟩
theorem FM.sI (h : FM v c w w' s) {a k : Nat} {x : Int32} (ha : 96 ≤ a) (hm : mt a k = false) : FM v c w (cm_sI w' a k x) s := ⟨h.1, h.2.1.sI hm, fun b hb => ⟨by
  funext j; rw [I_ne (by omega)]; rw [(h.2.2.1 b hb).1], (h.2.2.1 b hb).2⟩, h.2.2.2⟩
theorem FM.sL (h : FM v c w w' s) {a k : Nat} {x : Int64} (ha : 96 ≤ a) (h1 : a ≠ 142) (h2 : a ≠ 96 ∨ k ≠ 71) : FM v c w (cm_sL w' a k x) s := ⟨h.1.sL (by omega), h.2.1, fun b hb => ⟨(h.2.2.1 b hb).1, by
  funext j; rw [L_ne (by omega)]; rw [(h.2.2.1 b hb).2]⟩, by
  funext j; rw [L_ne (by omega)]; rw [h.2.2.2.1], by
  rw [L_if, if_neg (by omega)]; exact h.2.2.2.2⟩
theorem FM.tr (h : FM v c w w' s) (h2 : FM v c w' w'' s) : FM v c w w'' s := ⟨h2.1, h2.2.1, fun a ha => ⟨(h2.2.2.1 a ha).1.trans (h.2.2.1 a ha).1, (h2.2.2.1 a ha).2.trans (h.2.2.1 a ha).2⟩, h2.2.2.2.1.trans h.2.2.2.1, h2.2.2.2.2.trans h.2.2.2.2⟩
/-- a call of both that changes nothing that lasts -/
theorem ok_ro {α : Type} {X Mf : cm_W → Option (α × cm_W)} {r : α} {c' : Nat} (g : GG v c w s) (h1 : ∃ w1, X w = some (r, w1) ∧ FC v c' w w1)
    (h2 : ∀ x, Lay v c' x → RelM x s → cm_L x 96 71 = cm_L w 30 7 → ∃ y, Mf x = some (r, y) ∧ FM v c' x y s) : OKW X Mf w := by
  obtain ⟨L, M, C, Z, I⟩ := g
  obtain ⟨w1, a1, a2⟩ := h1
  obtain ⟨y, b1, b2⟩ := h2 w1 a2.1 (M.fr fun a ha j => by rw [(a2.2 a (by omega)).1]) (by rw [(a2.2 96 (by omega)).2]; exact Z.1.symm)
  obtain ⟨k1, k2, k3, k4, k5⟩ := b2
  have C1 : RelC v w1 s := by
    refine ⟨?_, C.2.1.cg L.1 (fun a ha j => by rw [(a2.2 a (by omega)).1]) (fun _ _ _ => rfl), C.2.2.1.cg (fun a h1 h2 j => by rw [(a2.2 a (by omega)).1]) (fun _ _ _ => rfl) rfl, fun i hi => ?_, fun i hi hi3 => ?_, ?_⟩
    · rw [(a2.2 2 (by omega)).1, (a2.2 42 (by omega)).1, (a2.2 3 (by omega)).1]; exact C.1
    · rw [(a2.2 _ (by omega)).1, (a2.2 _ (by omega)).1, (a2.2 _ (by omega)).1, (a2.2 _ (by omega)).1]; exact C.2.2.2.1 i hi
    · exact (C.2.2.2.2.1 i hi hi3).cg (fun a h1 h2 j => by rw [(a2.2 a (by omega)).1]) (fun _ _ _ => rfl) rfl
    · have hv := L.1
      rw [(a2.2 _ (by omega)).1, (a2.2 _ (by omega)).1, (a2.2 _ (by omega)).1]; exact C.2.2.2.2.2
  refine ⟨r, w1, y, v, c', s, a1, b1, k1, k2, C1.fr L.1 (fun a ha j => by rw [(k3 a ha).1]), ?_, I⟩
  refine Z.cg ?_ ?_ (fun i hi => ?_) (fun i => ?_) I.2.2.2.1.2 rfl
  · rw [(k3 30 (by omega)).2, (a2.2 30 (by omega)).2]
  · rw [k5, (a2.2 96 (by omega)).2]
  · rw [(k3 _ (by omega)).2, (a2.2 _ (by omega)).2]
  · rw [k4, (a2.2 142 (by omega)).2]
-- the book
def bkS (s : St) (k : Nat) (z : (Nat → Int32) × (Nat → Int32) × Int32 × Int32) : (Nat → Int32) × (Nat → Int32) × Int32 × Int32 :=
  if z.1 (tn (s 130 k)) = s 131 k then
    ((fun j => if j = tn (s 130 k) then s 132 k else z.1 j),
     (fun j => if j = tn (s 131 k) then (if tn (s 131 k) = tn (s 132 k) then z.2.1 (tn (s 132 k)) - s 133 k else z.2.1 (tn (s 131 k))) + s 133 k else if j = tn (s 132 k) then z.2.1 (tn (s 132 k)) - s 133 k else z.2.1 j),
     z.2.2.1, if z.2.2.2 = -1 ∧ z.2.1 (tn (s 132 k)) < s 133 k then nI k else z.2.2.2)
  else (z.1, z.2.1, if z.2.2.1 = -1 then nI k else z.2.2.1, z.2.2.2)
def bkF (s : St) : Nat → (Nat → Int32) × (Nat → Int32) × Int32 × Int32 := fup (bkS s) (fun b => s 114 b, fun p => s 111 p, -1, -1)
theorem w_wrong (g : GG v c w s) (i : Int32) : OKW (fn_171 2 i) (fn_266 96 i) w := by
  obtain ⟨L, M, C, Z, I⟩ := id g
  have hv := L.1
  have V := C.2.2.1
  have hB := I.2.1.2.1
  have hP := I.1.2.1
  have hK := I.2.1.2.2.2.2.1
  -- the class follows the book
  have cf : ∃ w1, fn_4 48 v 30 w = some w1 ∧ FC v c w w1 ∧ cm_I w1 48 2 = (bkF s (nK s)).2.2.1 ∧ cm_I w1 48 3 = (bkF s (nK s)).2.2.2 := by
    -- hands
    refine up_0 (fun m k a => fn_4_2 m 48 v 30 (nI k) a) 40 (fun k a => FC v c w a ∧ ∀ b, b < k → b < nB s → cm_I a 49 b = s 114 b) (fun o => ∃ w1, o = some w1 ∧ FC v c w w1 ∧ cm_I w1 48 2 = (bkF s (nK s)).2.2.1 ∧ cm_I w1 48 3 = (bkF s (nK s)).2.2.2) w (by omega) ⟨FC.rf L, fun b h _ => by omega⟩ (fun m k a hk ha => Or.inr ?_) (fun m a ha => ?_)
    · obtain ⟨F, hb⟩ := ha
      have LL := F.1
      have hk' : ¬ 40 ≤ k := by omega
      have e1 : ∃ z, fn_1 a 31 (nI k) 0 = some z ∧ (k < nB s → z = s 114 k) := by
        by_cases q : k < nB s
        · exact ⟨_, getB (k := 0) LL (F.S V) I.2.1 q (by decide), fun _ => rfl⟩
        · exact ⟨_, getBo LL (F.S V) I.2.1 (iin_no (by omega) (by omega)), fun z => absurd z q⟩
      obtain ⟨z, e1, e2⟩ := e1
      refine ⟨cm_sI a 49 k z, ⟨F.sI (by omega), fun b h1 h2 => ?_⟩, ?_⟩
      · by_cases q : b = k
        · subst q; rw [I_eq]; exact e2 h2
        · rw [I_nk q]; exact hb b (by omega) h2
      · simp (disch := omega) only [fn_4_2, hk', ↓LCb LL, ↓LStb LL, LC LL, LSt LL, e1, cm_w2, Nat.reduceLeDiff, Nat.reduceLT, decide_true, Bool.and_self, Bool.and_true, eq_self, Nat.le_refl, Nat.lt_irrefl, some_if, Option.bind_some, Option.bind_none, Option.some.injEq, ↓reduceIte, reduceCtorEq, Bool.false_eq_true, Bool.true_eq_false, not_true_eq_false, not_false_eq_true, cmb0, cmb1, Nat.reduceAdd, Nat.reduceMul, Nat.reduceSub, Nat.add_zero, Bool.not_eq_true, Bool.not_eq_false, Nat.reduceEqDiff, Nat.reduceLeDiff, Nat.reduceLT, Int32.reduceLT, Int32.reduceLE, iin_nI, iin_lit, iin_m1, tn_nI, tn_lit, nI_lm, nI_ml, nI_al, nI_la, nI_add, pk_mul, nI_le_l, nI_l_le, nI_lt_l, nI_l_lt, nI_eq_l, nI_l_eq, nI_eqP, nI_leP, nI_ltP, nI_m1, m1_nI, nI_ll, m1_l, l_m1]
    · obtain ⟨F, hb⟩ := ha
      have e0 : fn_4_2 (m + 1) 48 v 30 (nI 40) a = fn_4_29 48 v 30 a := by
        simp (disch := omega) only [fn_4_2, eq_self, Nat.le_refl, Nat.lt_irrefl, some_if, Option.bind_some, Option.bind_none, Option.some.injEq, ↓reduceIte, reduceCtorEq, Bool.false_eq_true, Bool.true_eq_false, not_true_eq_false, not_false_eq_true, cmb0, cmb1, Nat.reduceAdd, Nat.reduceMul, Nat.reduceSub, Nat.add_zero, Bool.not_eq_true, Bool.not_eq_false, Nat.reduceEqDiff, Nat.reduceLeDiff, Nat.reduceLT, Int32.reduceLT, Int32.reduceLE, iin_nI, iin_lit, iin_m1, tn_nI, tn_lit, nI_lm, nI_ml, nI_al, nI_la, nI_add, pk_mul, nI_le_l, nI_l_le, nI_lt_l, nI_l_lt, nI_eq_l, nI_l_eq, nI_eqP, nI_leP, nI_ltP, nI_m1, m1_nI, nI_ll, m1_l, l_m1]
      show ∃ w1, fn_4_2 (m + 1) 48 v 30 (nI 40) a = some w1 ∧ _
      rw [e0]
      -- purses
      refine up_0 (fun m k a => fn_4_31 m 48 v 30 (nI k) a) 12 (fun k a => FC v c w a ∧ (∀ b, b < nB s → cm_I a 49 b = s 114 b) ∧ ∀ p, p < k → p < nP s → cm_I a 50 p = s 111 p) (fun o => ∃ w1, o = some w1 ∧ FC v c w w1 ∧ cm_I w1 48 2 = (bkF s (nK s)).2.2.1 ∧ cm_I w1 48 3 = (bkF s (nK s)).2.2.2) a (by omega) ⟨F, fun b h => hb b (by omega) h, fun p h _ => by omega⟩ (fun m k a hk ha => Or.inr ?_) (fun m a ha => ?_)
      · obtain ⟨F, hb, hp⟩ := ha
        have LL := F.1
        have hk' : ¬ 12 ≤ k := by omega
        have e1 : ∃ z, fn_1 a (v + 5) (nI k) 1 = some z ∧ (k < nP s → z = s 111 k) := by
          by_cases q : k < nP s
          · exact ⟨_, (getP LL hv (F.V C.2.1 hv) I.1 q).2.1, fun _ => rfl⟩
          · exact ⟨_, getPo LL hv (F.V C.2.1 hv) I.1 (iin_no (by omega) (by omega)), fun z => absurd z q⟩
        obtain ⟨z, e1, e2⟩ := e1
        refine ⟨cm_sI a 50 k z, ⟨F.sI (by omega), fun b h => ?_, fun b h1 h2 => ?_⟩, ?_⟩
        · rw [I_ne (by omega)]; exact hb b h
        · by_cases q : b = k
          · subst q; rw [I_eq]; exact e2 h2
          · rw [I_nk q]; exact hp b (by omega) h2
        · simp (disch := omega) only [fn_4_31, hk', ↓LCb LL, ↓LVb LL hv, LC LL, LV LL hv, e1, cm_w2, Nat.reduceLeDiff, Nat.reduceLT, decide_true, Bool.and_self, Bool.and_true, eq_self, Nat.le_refl, Nat.lt_irrefl, some_if, Option.bind_some, Option.bind_none, Option.some.injEq, ↓reduceIte, reduceCtorEq, Bool.false_eq_true, Bool.true_eq_false, not_true_eq_false, not_false_eq_true, cmb0, cmb1, Nat.reduceAdd, Nat.reduceMul, Nat.reduceSub, Nat.add_zero, Bool.not_eq_true, Bool.not_eq_false, Nat.reduceEqDiff, Nat.reduceLeDiff, Nat.reduceLT, Int32.reduceLT, Int32.reduceLE, iin_nI, iin_lit, iin_m1, tn_nI, tn_lit, nI_lm, nI_ml, nI_al, nI_la, nI_add, pk_mul, nI_le_l, nI_l_le, nI_lt_l, nI_l_lt, nI_eq_l, nI_l_eq, nI_eqP, nI_leP, nI_ltP, nI_m1, m1_nI, nI_ll, m1_l, l_m1]
      · obtain ⟨F, hb, hp⟩ := ha
        have e0 : fn_4_31 (m + 1) 48 v 30 (nI 12) a = fn_4_70 cm_N 48 30 0 (cm_sI (cm_sI a 48 2 (-1)) 48 3 (-1)) := by
          simp (disch := omega) only [fn_4_31, fn_4_58, LC F.1, cm_w2, Nat.reduceLeDiff, Nat.reduceLT, decide_true, Bool.and_self, Bool.and_true, eq_self, Nat.le_refl, Nat.lt_irrefl, some_if, Option.bind_some, Option.bind_none, Option.some.injEq, ↓reduceIte, reduceCtorEq, Bool.false_eq_true, Bool.true_eq_false, not_true_eq_false, not_false_eq_true, cmb0, cmb1, Nat.reduceAdd, Nat.reduceMul, Nat.reduceSub, Nat.add_zero, Bool.not_eq_true, Bool.not_eq_false, Nat.reduceEqDiff, Nat.reduceLeDiff, Nat.reduceLT, Int32.reduceLT, Int32.reduceLE, iin_nI, iin_lit, iin_m1, tn_nI, tn_lit, nI_lm, nI_ml, nI_al, nI_la, nI_add, pk_mul, nI_le_l, nI_l_le, nI_lt_l, nI_l_lt, nI_eq_l, nI_l_eq, nI_eqP, nI_leP, nI_ltP, nI_m1, m1_nI, nI_ll, m1_l, l_m1]
        show ∃ w1, fn_4_31 (m + 1) 48 v 30 (nI 12) a = some w1 ∧ _
        rw [e0]
        -- rows
        refine up_0 (fun m k a => fn_4_70 m 48 30 (nI k) a) (nK s) (fun k a => FC v c w a ∧ (∀ b, b < nB s → cm_I a 49 b = (bkF s k).1 b) ∧ (∀ p, p < nP s → cm_I a 50 p = (bkF s k).2.1 p) ∧ cm_I a 48 2 = (bkF s k).2.2.1 ∧ cm_I a 48 3 = (bkF s k).2.2.2) (fun o => ∃ w1, o = some w1 ∧ FC v c w w1 ∧ cm_I w1 48 2 = (bkF s (nK s)).2.2.1 ∧ cm_I w1 48 3 = (bkF s (nK s)).2.2.2) _ (by omega) ⟨(F.sI (by omega)).sI (by omega), fun b h => ?_, fun p h => ?_, ?_, I_eq⟩ (fun m k a hk ha => Or.inr ?_) (fun m a ha => ?_)
        · rw [I_ne (by omega), I_ne (by omega)]; exact hb b h
        · rw [I_ne (by omega), I_ne (by omega)]; exact hp p (by omega) h
        · rw [I_nk (by omega), I_eq]; rfl
        · obtain ⟨F, hb, hp, h2, h3⟩ := ha
          have LL := F.1
          have hk' : ¬ nK s ≤ k := by omega
          obtain ⟨⟨b, hb1, eb⟩, ⟨f, hf, ef⟩, ⟨t, ht, et⟩, ⟨a0, ha0, ea⟩⟩ := I.2.1.2.2.2.2.2.2.2.2.2.2 k hk
          have SS := F.S V
          have k0 : fn_1 a 37 (nI k) 0 = some (nI b) := (getK (k := 0) LL SS I.2.1 hk (by decide)).trans (congrArg some eb)
          have k1 : fn_1 a 37 (nI k) 1 = some (nI f) := (getK (k := 1) LL SS I.2.1 hk (by decide)).trans (congrArg some ef)
          have k2 : fn_1 a 37 (nI k) 2 = some (nI t) := (getK (k := 2) LL SS I.2.1 hk (by decide)).trans (congrArg some et)
          have k3 : fn_1 a 37 (nI k) 3 = some (s 133 k) := getK (k := 3) LL SS I.2.1 hk (by decide)
          have i40 : ∀ x : Nat, x < 40 → fn_2 a (nI x) 40 = some true := fun x hx => by
            unfold fn_2
            rw [if_neg (nI_pos (by omega)), if_neg (show ¬ (40 : Int32) ≤ nI x from nI_ge (b := 40) hx (by decide))]
          have i12 : ∀ x : Nat, x < 12 → fn_2 a (nI x) 12 = some true := fun x hx => by
            unfold fn_2
            rw [if_neg (nI_pos (by omega)), if_neg (show ¬ (12 : Int32) ≤ nI x from nI_ge (b := 12) hx (by decide))]
          have tb : tn (nI b) = b := tn_nIe (by omega)
          have tf : tn (nI f) = f := tn_nIe (by omega)
          have tt : tn (nI t) = t := tn_nIe (by omega)
          have e49 := hb b hb1
          have e50 := hp t (by omega)
          have e3 : fn_3 48 37 (nI k) a = fn_3_61 48 (nI k) (nI b) (nI f) (nI t) (s 133 k) a := by
            simp (disch := omega) only [fn_3, S37 LL, k0, k1, k2, k3, i40 b (by omega), i12 f (by omega), i12 t (by omega), eq_self, Nat.le_refl, Nat.lt_irrefl, some_if, Option.bind_some, Option.bind_none, Option.some.injEq, ↓reduceIte, reduceCtorEq, Bool.false_eq_true, Bool.true_eq_false, not_true_eq_false, not_false_eq_true, cmb0, cmb1, Nat.reduceAdd, Nat.reduceMul, Nat.reduceSub, Nat.add_zero, Bool.not_eq_true, Bool.not_eq_false, Nat.reduceEqDiff, Nat.reduceLeDiff, Nat.reduceLT, Int32.reduceLT, Int32.reduceLE, iin_nI, iin_lit, iin_m1, tn_nI, tn_lit, nI_lm, nI_ml, nI_al, nI_la, nI_add, pk_mul, nI_le_l, nI_l_le, nI_lt_l, nI_l_lt, nI_eq_l, nI_l_eq, nI_eqP, nI_leP, nI_ltP, nI_m1, m1_nI, nI_ll, m1_l, l_m1]
          have st : fn_4_70 (m + 1) 48 30 (nI k) a = (fn_3_61 48 (nI k) (nI b) (nI f) (nI t) (s 133 k) a).bind fun w9 => fn_4_70 m 48 30 (nI (k + 1)) w9 := by
            simp (disch := omega) only [fn_4_70, hk', ↓LCb LL, ↓LStb LL, LC LL, LSt LL, SS.1, hK.1, e3, eq_self, Nat.le_refl, Nat.lt_irrefl, some_if, Option.bind_some, Option.bind_none, Option.some.injEq, ↓reduceIte, reduceCtorEq, Bool.false_eq_true, Bool.true_eq_false, not_true_eq_false, not_false_eq_true, cmb0, cmb1, Nat.reduceAdd, Nat.reduceMul, Nat.reduceSub, Nat.add_zero, Bool.not_eq_true, Bool.not_eq_false, Nat.reduceEqDiff, Nat.reduceLeDiff, Nat.reduceLT, Int32.reduceLT, Int32.reduceLE, iin_nI, iin_lit, iin_m1, tn_nI, tn_lit, nI_lm, nI_ml, nI_al, nI_la, nI_add, pk_mul, nI_le_l, nI_l_le, nI_lt_l, nI_l_lt, nI_eq_l, nI_l_eq, nI_eqP, nI_leP, nI_ltP, nI_m1, m1_nI, nI_ll, m1_l, l_m1]
          have s1 : bkF s (k + 1) = bkS s k (bkF s k) := rfl
          show ∃ a', _ ∧ fn_4_70 (m + 1) 48 30 (nI k) a = fn_4_70 m 48 30 (nI (k + 1)) a'
          rw [st, s1]
          unfold bkS
          rw [eb, ef, et, tb, tf, tt]
          by_cases q : (bkF s k).1 b = nI f
          · rw [if_pos q]
            have e118 : ∀ y, FC v c w y → fn_3_118 48 (nI b) (nI f) (nI t) (s 133 k) y = some (cm_sI (cm_sI (cm_sI y 50 t (cm_I y 50 t - s 133 k)) 50 f (cm_I (cm_sI y 50 t (cm_I y 50 t - s 133 k)) 50 f + s 133 k)) 49 b (nI t)) := fun y Fy => by
              simp (disch := omega) only [fn_3_118, ↓LCb Fy.1, LC Fy.1, R_sI, ga_sI, cm_w2, Nat.reduceLeDiff, Nat.reduceLT, decide_true, Bool.and_self, Bool.and_true, eq_self, Nat.le_refl, Nat.lt_irrefl, some_if, Option.bind_some, Option.bind_none, Option.some.injEq, ↓reduceIte, reduceCtorEq, Bool.false_eq_true, Bool.true_eq_false, not_true_eq_false, not_false_eq_true, cmb0, cmb1, Nat.reduceAdd, Nat.reduceMul, Nat.reduceSub, Nat.add_zero, Bool.not_eq_true, Bool.not_eq_false, Nat.reduceEqDiff, Nat.reduceLeDiff, Nat.reduceLT, Int32.reduceLT, Int32.reduceLE, iin_nI, iin_lit, iin_m1, tn_nI, tn_lit, nI_lm, nI_ml, nI_al, nI_la, nI_add, pk_mul, nI_le_l, nI_l_le, nI_lt_l, nI_l_lt, nI_eq_l, nI_l_eq, nI_eqP, nI_leP, nI_ltP, nI_m1, m1_nI, nI_ll, m1_l, l_m1]
            have fin : ∀ y : cm_W, FC v c w y → (∀ b, b < nB s → cm_I y 49 b = (bkF s k).1 b) → (∀ p, p < nP s → cm_I y 50 p = (bkF s k).2.1 p) → ∀ y', y' = cm_sI (cm_sI (cm_sI y 50 t (cm_I y 50 t - s 133 k)) 50 f (cm_I (cm_sI y 50 t (cm_I y 50 t - s 133 k)) 50 f + s 133 k)) 49 b (nI t) → FC v c w y' ∧ (∀ b', b' < nB s → cm_I y' 49 b' = if b' = b then nI t else (bkF s k).1 b') ∧ (∀ p, p < nP s → cm_I y' 50 p = if p = f then (if f = t then (bkF s k).2.1 t - s 133 k else (bkF s k).2.1 f) + s 133 k else if p = t then (bkF s k).2.1 t - s 133 k else (bkF s k).2.1 p) ∧ cm_I y' 48 2 = cm_I y 48 2 ∧ cm_I y' 48 3 = cm_I y 48 3 := by
              intro y Fy h49 h50 y' hy'
              subst hy'
              refine ⟨((Fy.sI (by omega)).sI (by omega)).sI (by omega), fun b' hb' => ?_, fun p hp' => ?_, ?_, ?_⟩
              · by_cases z : b' = b
                · subst z; rw [I_eq, if_pos rfl]
                · rw [I_nk z, if_neg z, I_ne (by omega), I_ne (by omega)]; exact h49 b' hb'
              · rw [I_ne (by omega)]
                by_cases z : p = f
                · subst z
                  rw [I_eq, if_pos rfl]
                  by_cases z2 : p = t
                  · subst z2; rw [I_eq, if_pos rfl, h50 p hp']
                  · rw [I_nk z2, if_neg z2, h50 p hp']
                · rw [I_nk z, if_neg z]
                  by_cases z2 : p = t
                  · subst z2; rw [I_eq, if_pos rfl, h50 p hp']
                  · rw [I_nk z2, if_neg z2, h50 p hp']
              · simp (disch := omega) only [I_ne]
              · simp (disch := omega) only [I_ne]
            by_cases q2 : (bkF s k).2.2.2 = -1 ∧ (bkF s k).2.1 t < s 133 k
            · obtain ⟨f1, f2, f3, f4, f5⟩ := fin (cm_sI a 48 3 (nI k)) (F.sI (by omega)) (fun b h => by rw [I_ne (by omega)]; exact hb b h) (fun p h => by rw [I_ne (by omega)]; exact hp p h) _ rfl
              refine ⟨_, ⟨f1, f2, f3, ?_, ?_⟩, ?_⟩
              · rw [f4, I_nk (by omega)]; exact h2
              · rw [f5, I_eq, if_pos q2]
              · have q3 : ¬ s 133 k ≤ (bkF s k).2.1 t := by rw [Int32.not_le]; exact q2.2
                have := e118 (cm_sI a 48 3 (nI k)) (F.sI (by omega))
                simp (disch := omega) only [fn_3_61, fn_3_93, ↓LCb LL, LC LL, e49, e50, h3, q, q2.1, q3, this, cm_w2, Nat.reduceLeDiff, Nat.reduceLT, decide_true, Bool.and_self, Bool.and_true, eq_self, Nat.le_refl, Nat.lt_irrefl, some_if, Option.bind_some, Option.bind_none, Option.some.injEq, ↓reduceIte, reduceCtorEq, Bool.false_eq_true, Bool.true_eq_false, not_true_eq_false, not_false_eq_true, cmb0, cmb1, Nat.reduceAdd, Nat.reduceMul, Nat.reduceSub, Nat.add_zero, Bool.not_eq_true, Bool.not_eq_false, Nat.reduceEqDiff, Nat.reduceLeDiff, Nat.reduceLT, Int32.reduceLT, Int32.reduceLE, iin_nI, iin_lit, iin_m1, tn_nI, tn_lit, nI_lm, nI_ml, nI_al, nI_la, nI_add, pk_mul, nI_le_l, nI_l_le, nI_lt_l, nI_l_lt, nI_eq_l, nI_l_eq, nI_eqP, nI_leP, nI_ltP, nI_m1, m1_nI, nI_ll, m1_l, l_m1]
            · obtain ⟨f1, f2, f3, f4, f5⟩ := fin a F hb hp _ rfl
              refine ⟨_, ⟨f1, f2, f3, ?_, ?_⟩, ?_⟩
              · rw [f4]; exact h2
              · rw [f5, if_neg q2]; exact h3
              · have := e118 a F
                by_cases q3 : s 133 k ≤ (bkF s k).2.1 t
                · simp (disch := omega) only [fn_3_61, fn_3_93, ↓LCb LL, LC LL, e49, e50, h3, q, q3, this, cm_w2, Nat.reduceLeDiff, Nat.reduceLT, decide_true, Bool.and_self, Bool.and_true, eq_self, Nat.le_refl, Nat.lt_irrefl, some_if, Option.bind_some, Option.bind_none, Option.some.injEq, ↓reduceIte, reduceCtorEq, Bool.false_eq_true, Bool.true_eq_false, not_true_eq_false, not_false_eq_true, cmb0, cmb1, Nat.reduceAdd, Nat.reduceMul, Nat.reduceSub, Nat.add_zero, Bool.not_eq_true, Bool.not_eq_false, Nat.reduceEqDiff, Nat.reduceLeDiff, Nat.reduceLT, Int32.reduceLT, Int32.reduceLE, iin_nI, iin_lit, iin_m1, tn_nI, tn_lit, nI_lm, nI_ml, nI_al, nI_la, nI_add, pk_mul, nI_le_l, nI_l_le, nI_lt_l, nI_l_lt, nI_eq_l, nI_l_eq, nI_eqP, nI_leP, nI_ltP, nI_m1, m1_nI, nI_ll, m1_l, l_m1]
                · have q4 : ¬ (bkF s k).2.2.2 = -1 := fun z => q2 ⟨z, by rw [← Int32.not_le]; exact q3⟩
                  simp (disch := omega) only [fn_3_61, fn_3_93, ↓LCb LL, LC LL, e49, e50, h3, q, q3, q4, this, cm_w2, Nat.reduceLeDiff, Nat.reduceLT, decide_true, Bool.and_self, Bool.and_true, eq_self, Nat.le_refl, Nat.lt_irrefl, some_if, Option.bind_some, Option.bind_none, Option.some.injEq, ↓reduceIte, reduceCtorEq, Bool.false_eq_true, Bool.true_eq_false, not_true_eq_false, not_false_eq_true, cmb0, cmb1, Nat.reduceAdd, Nat.reduceMul, Nat.reduceSub, Nat.add_zero, Bool.not_eq_true, Bool.not_eq_false, Nat.reduceEqDiff, Nat.reduceLeDiff, Nat.reduceLT, Int32.reduceLT, Int32.reduceLE, iin_nI, iin_lit, iin_m1, tn_nI, tn_lit, nI_lm, nI_ml, nI_al, nI_la, nI_add, pk_mul, nI_le_l, nI_l_le, nI_lt_l, nI_l_lt, nI_eq_l, nI_l_eq, nI_eqP, nI_leP, nI_ltP, nI_m1, m1_nI, nI_ll, m1_l, l_m1]
          · rw [if_neg q]
            by_cases q1 : (bkF s k).2.2.1 = -1
            · refine ⟨cm_sI a 48 2 (nI k), ⟨F.sI (by omega), fun b h => by rw [I_ne (by omega)]; exact hb b h, fun p h => by rw [I_ne (by omega)]; exact hp p h, by rw [I_eq, if_pos q1], by rw [I_nk (by omega)]; exact h3⟩, ?_⟩
              simp (disch := omega) only [fn_3_61, ↓LCb LL, LC LL, e49, h2, q, q1, cm_w2, Nat.reduceLeDiff, Nat.reduceLT, decide_true, Bool.and_self, Bool.and_true, eq_self, Nat.le_refl, Nat.lt_irrefl, some_if, Option.bind_some, Option.bind_none, Option.some.injEq, ↓reduceIte, reduceCtorEq, Bool.false_eq_true, Bool.true_eq_false, not_true_eq_false, not_false_eq_true, cmb0, cmb1, Nat.reduceAdd, Nat.reduceMul, Nat.reduceSub, Nat.add_zero, Bool.not_eq_true, Bool.not_eq_false, Nat.reduceEqDiff, Nat.reduceLeDiff, Nat.reduceLT, Int32.reduceLT, Int32.reduceLE, iin_nI, iin_lit, iin_m1, tn_nI, tn_lit, nI_lm, nI_ml, nI_al, nI_la, nI_add, pk_mul, nI_le_l, nI_l_le, nI_lt_l, nI_l_lt, nI_eq_l, nI_l_eq, nI_eqP, nI_leP, nI_ltP, nI_m1, m1_nI, nI_ll, m1_l, l_m1]
            · refine ⟨cm_sI a 48 2 (bkF s k).2.2.1, ⟨F.sI (by omega), fun b h => by rw [I_ne (by omega)]; exact hb b h, fun p h => by rw [I_ne (by omega)]; exact hp p h, by rw [I_eq, if_neg q1], by rw [I_nk (by omega)]; exact h3⟩, ?_⟩
              simp (disch := omega) only [fn_3_61, ↓LCb LL, LC LL, e49, h2, q, q1, cm_w2, Nat.reduceLeDiff, Nat.reduceLT, decide_true, Bool.and_self, Bool.and_true, eq_self, Nat.le_refl, Nat.lt_irrefl, some_if, Option.bind_some, Option.bind_none, Option.some.injEq, ↓reduceIte, reduceCtorEq, Bool.false_eq_true, Bool.true_eq_false, not_true_eq_false, not_false_eq_true, cmb0, cmb1, Nat.reduceAdd, Nat.reduceMul, Nat.reduceSub, Nat.add_zero, Bool.not_eq_true, Bool.not_eq_false, Nat.reduceEqDiff, Nat.reduceLeDiff, Nat.reduceLT, Int32.reduceLT, Int32.reduceLE, iin_nI, iin_lit, iin_m1, tn_nI, tn_lit, nI_lm, nI_ml, nI_al, nI_la, nI_add, pk_mul, nI_le_l, nI_l_le, nI_lt_l, nI_l_lt, nI_eq_l, nI_l_eq, nI_eqP, nI_leP, nI_ltP, nI_m1, m1_nI, nI_ll, m1_l, l_m1]
        · obtain ⟨F, hb, hp, h2, h3⟩ := ha
          refine ⟨a, ?_, F, h2, h3⟩
          simp (disch := omega) only [fn_4_70, ↓LStb F.1, LSt F.1, (F.S V).1, hK.1, eq_self, Nat.le_refl, Nat.lt_irrefl, some_if, Option.bind_some, Option.bind_none, Option.some.injEq, ↓reduceIte, reduceCtorEq, Bool.false_eq_true, Bool.true_eq_false, not_true_eq_false, not_false_eq_true, cmb0, cmb1, Nat.reduceAdd, Nat.reduceMul, Nat.reduceSub, Nat.add_zero, Bool.not_eq_true, Bool.not_eq_false, Nat.reduceEqDiff, Nat.reduceLeDiff, Nat.reduceLT, Int32.reduceLT, Int32.reduceLE, iin_nI, iin_lit, iin_m1, tn_nI, tn_lit, nI_lm, nI_ml, nI_al, nI_la, nI_add, pk_mul, nI_le_l, nI_l_le, nI_lt_l, nI_l_lt, nI_eq_l, nI_l_eq, nI_eqP, nI_leP, nI_ltP, nI_m1, m1_nI, nI_ll, m1_l, l_m1]
  -- the reference follows the book
  have mf : ∀ x, Lay v c x → RelM x s → ∃ y, fn_266_11 96 i x = some ((if ¬ i = 0 then (bkF s (nK s)).2.2.2 else (bkF s (nK s)).2.2.1), y) ∧ FM v c x y s := by
    intro x L1 M1
    refine up_0 (fun m k a => fn_266_18 m 96 i (-1) (-1) (nI k) a) (nB s) (fun k a => FM v c x a s ∧ ∀ b, b < k → cm_I a 134 b = s 114 b) (fun o => ∃ y, o = some ((if ¬ i = 0 then (bkF s (nK s)).2.2.2 else (bkF s (nK s)).2.2.1), y) ∧ FM v c x y s) x (by omega) ⟨FM.rf L1 M1, fun b h => by omega⟩ (fun m k a hk ha => Or.inr ?_) (fun m a ha => ?_)
    · obtain ⟨F, hb⟩ := ha
      have LL := F.1
      have MM := F.2.1
      have hk' : ¬ nB s ≤ k := by omega
      refine ⟨cm_sI a 134 k (s 114 k), ⟨F.sI (by omega) rfl, fun b h => ?_⟩, ?_⟩
      · by_cases q : b = k
        · subst q; rw [I_eq]
        · rw [I_nk q]; exact hb b (by omega)
      · simp (disch := omega) only [fn_266_18, ↓LMb LL, LM LL, RM MM, hB.1, hk', cm_w2, Nat.reduceLeDiff, Nat.reduceLT, decide_true, Bool.and_self, Bool.and_true, eq_self, Nat.le_refl, Nat.lt_irrefl, some_if, Option.bind_some, Option.bind_none, Option.some.injEq, ↓reduceIte, reduceCtorEq, Bool.false_eq_true, Bool.true_eq_false, not_true_eq_false, not_false_eq_true, cmb0, cmb1, Nat.reduceAdd, Nat.reduceMul, Nat.reduceSub, Nat.add_zero, Bool.not_eq_true, Bool.not_eq_false, Nat.reduceEqDiff, Nat.reduceLeDiff, Nat.reduceLT, Int32.reduceLT, Int32.reduceLE, iin_nI, iin_lit, iin_m1, tn_nI, tn_lit, nI_lm, nI_ml, nI_al, nI_la, nI_add, pk_mul, nI_le_l, nI_l_le, nI_lt_l, nI_l_lt, nI_eq_l, nI_l_eq, nI_eqP, nI_leP, nI_ltP, nI_m1, m1_nI, nI_ll, m1_l, l_m1]
    · obtain ⟨F, hb⟩ := ha
      have e0 : fn_266_18 (m + 1) 96 i (-1) (-1) (nI (nB s)) a = fn_266_50 cm_N 96 i (-1) (-1) 0 a := by
        simp (disch := omega) only [fn_266_18, fn_266_47, ↓LMb F.1, LM F.1, RM F.2.1, hB.1, eq_self, Nat.le_refl, Nat.lt_irrefl, some_if, Option.bind_some, Option.bind_none, Option.some.injEq, ↓reduceIte, reduceCtorEq, Bool.false_eq_true, Bool.true_eq_false, not_true_eq_false, not_false_eq_true, cmb0, cmb1, Nat.reduceAdd, Nat.reduceMul, Nat.reduceSub, Nat.add_zero, Bool.not_eq_true, Bool.not_eq_false, Nat.reduceEqDiff, Nat.reduceLeDiff, Nat.reduceLT, Int32.reduceLT, Int32.reduceLE, iin_nI, iin_lit, iin_m1, tn_nI, tn_lit, nI_lm, nI_ml, nI_al, nI_la, nI_add, pk_mul, nI_le_l, nI_l_le, nI_lt_l, nI_l_lt, nI_eq_l, nI_l_eq, nI_eqP, nI_leP, nI_ltP, nI_m1, m1_nI, nI_ll, m1_l, l_m1]
      show ∃ y, fn_266_18 (m + 1) 96 i (-1) (-1) (nI (nB s)) a = _ ∧ _
      rw [e0]
      refine up_0 (fun m k a => fn_266_50 m 96 i (-1) (-1) (nI k) a) (nP s) (fun k a => FM v c x a s ∧ (∀ b, b < nB s → cm_I a 134 b = s 114 b) ∧ ∀ p, p < k → cm_I a 135 p = s 111 p) (fun o => ∃ y, o = some ((if ¬ i = 0 then (bkF s (nK s)).2.2.2 else (bkF s (nK s)).2.2.1), y) ∧ FM v c x y s) a (by omega) ⟨F, hb, fun p h => by omega⟩ (fun m k a hk ha => Or.inr ?_) (fun m a ha => ?_)
      · obtain ⟨F, hb, hp⟩ := ha
        have LL := F.1
        have MM := F.2.1
        have hk' : ¬ nP s ≤ k := by omega
        refine ⟨cm_sI a 135 k (s 111 k), ⟨F.sI (by omega) rfl, fun b h => ?_, fun b h => ?_⟩, ?_⟩
        · rw [I_ne (by omega)]; exact hb b h
        · by_cases q : b = k
          · subst q; rw [I_eq]
          · rw [I_nk q]; exact hp b (by omega)
        · simp (disch := omega) only [fn_266_50, ↓LMb LL, LM LL, RM MM, hP.1, hk', cm_w2, Nat.reduceLeDiff, Nat.reduceLT, decide_true, Bool.and_self, Bool.and_true, eq_self, Nat.le_refl, Nat.lt_irrefl, some_if, Option.bind_some, Option.bind_none, Option.some.injEq, ↓reduceIte, reduceCtorEq, Bool.false_eq_true, Bool.true_eq_false, not_true_eq_false, not_false_eq_true, cmb0, cmb1, Nat.reduceAdd, Nat.reduceMul, Nat.reduceSub, Nat.add_zero, Bool.not_eq_true, Bool.not_eq_false, Nat.reduceEqDiff, Nat.reduceLeDiff, Nat.reduceLT, Int32.reduceLT, Int32.reduceLE, iin_nI, iin_lit, iin_m1, tn_nI, tn_lit, nI_lm, nI_ml, nI_al, nI_la, nI_add, pk_mul, nI_le_l, nI_l_le, nI_lt_l, nI_l_lt, nI_eq_l, nI_l_eq, nI_eqP, nI_leP, nI_ltP, nI_m1, m1_nI, nI_ll, m1_l, l_m1]
      · obtain ⟨F, hb, hp⟩ := ha
        have e0 : fn_266_50 (m + 1) 96 i (-1) (-1) (nI (nP s)) a = fn_266_82 cm_N 96 i (-1) (-1) 0 a := by
          simp (disch := omega) only [fn_266_50, fn_266_79, ↓LMb F.1, LM F.1, RM F.2.1, hP.1, eq_self, Nat.le_refl, Nat.lt_irrefl, some_if, Option.bind_some, Option.bind_none, Option.some.injEq, ↓reduceIte, reduceCtorEq, Bool.false_eq_true, Bool.true_eq_false, not_true_eq_false, not_false_eq_true, cmb0, cmb1, Nat.reduceAdd, Nat.reduceMul, Nat.reduceSub, Nat.add_zero, Bool.not_eq_true, Bool.not_eq_false, Nat.reduceEqDiff, Nat.reduceLeDiff, Nat.reduceLT, Int32.reduceLT, Int32.reduceLE, iin_nI, iin_lit, iin_m1, tn_nI, tn_lit, nI_lm, nI_ml, nI_al, nI_la, nI_add, pk_mul, nI_le_l, nI_l_le, nI_lt_l, nI_l_lt, nI_eq_l, nI_l_eq, nI_eqP, nI_leP, nI_ltP, nI_m1, m1_nI, nI_ll, m1_l, l_m1]
        show ∃ y, fn_266_50 (m + 1) 96 i (-1) (-1) (nI (nP s)) a = _ ∧ _
        rw [e0]
        refine up_0 (fun m k (a : Int32 × Int32 × cm_W) => fn_266_82 m 96 i a.1 a.2.1 (nI k) a.2.2) (nK s) (fun k a => FM v c x a.2.2 s ∧ (∀ b, b < nB s → cm_I a.2.2 134 b = (bkF s k).1 b) ∧ (∀ p, p < nP s → cm_I a.2.2 135 p = (bkF s k).2.1 p) ∧ a.1 = (bkF s k).2.2.1 ∧ a.2.1 = (bkF s k).2.2.2) (fun o => ∃ y, o = some ((if ¬ i = 0 then (bkF s (nK s)).2.2.2 else (bkF s (nK s)).2.2.1), y) ∧ FM v c x y s) (-1, -1, a) (by omega) ⟨F, hb, hp, rfl, rfl⟩ (fun m k a hk ha => Or.inr ?_) (fun m a ha => ?_)
        · obtain ⟨a1, a2, a⟩ := a
          obtain ⟨F, hb, hp, h2, h3⟩ := ha
          dsimp only at F hb hp h2 h3 ⊢
          subst h2 h3
          have LL := F.1
          have MM := F.2.1
          have hk' : ¬ nK s ≤ k := by omega
          obtain ⟨⟨b, hb1, eb⟩, ⟨f, hf, ef⟩, ⟨t, ht, et⟩, ⟨a0, ha0, ea⟩⟩ := I.2.1.2.2.2.2.2.2.2.2.2.2 k hk
          have tb : tn (nI b) = b := tn_nIe (by omega)
          have tf : tn (nI f) = f := tn_nIe (by omega)
          have tt : tn (nI t) = t := tn_nIe (by omega)
          have e49 := hb b hb1
          have e50 := hp t (by omega)
          have s1 : bkF s (k + 1) = bkS s k (bkF s k) := rfl
          rw [s1]
          unfold bkS
          rw [eb, ef, et, tb, tf, tt]
          by_cases q : (bkF s k).1 b = nI f
          · rw [if_pos q]
            have e154 : ∀ d, fn_266_154 (fn_266_82 m) 96 i (bkF s k).2.2.1 d (nI k) a = fn_266_82 m 96 i (bkF s k).2.2.1 d (nI (k + 1)) (cm_sI (cm_sI (cm_sI a 135 t (cm_I a 135 t - s 133 k)) 135 f (cm_I (cm_sI a 135 t (cm_I a 135 t - s 133 k)) 135 f + s 133 k)) 134 b (nI t)) := fun d => by
              simp (disch := omega) only [fn_266_154, fn_266_217, ↓LMb LL, LM LL, RM MM, eb, ef, et, R_sI, ga_sI, sh_sI, I_ne, cm_w2, Nat.reduceLeDiff, Nat.reduceLT, decide_true, Bool.and_self, Bool.and_true, eq_self, Nat.le_refl, Nat.lt_irrefl, some_if, Option.bind_some, Option.bind_none, Option.some.injEq, ↓reduceIte, reduceCtorEq, Bool.false_eq_true, Bool.true_eq_false, not_true_eq_false, not_false_eq_true, cmb0, cmb1, Nat.reduceAdd, Nat.reduceMul, Nat.reduceSub, Nat.add_zero, Bool.not_eq_true, Bool.not_eq_false, Nat.reduceEqDiff, Nat.reduceLeDiff, Nat.reduceLT, Int32.reduceLT, Int32.reduceLE, iin_nI, iin_lit, iin_m1, tn_nI, tn_lit, nI_lm, nI_ml, nI_al, nI_la, nI_add, pk_mul, nI_le_l, nI_l_le, nI_lt_l, nI_l_lt, nI_eq_l, nI_l_eq, nI_eqP, nI_leP, nI_ltP, nI_m1, m1_nI, nI_ll, m1_l, l_m1]
            refine ⟨((bkF s k).2.2.1, (if (bkF s k).2.2.2 = -1 ∧ (bkF s k).2.1 t < s 133 k then nI k else (bkF s k).2.2.2), cm_sI (cm_sI (cm_sI a 135 t (cm_I a 135 t - s 133 k)) 135 f (cm_I (cm_sI a 135 t (cm_I a 135 t - s 133 k)) 135 f + s 133 k)) 134 b (nI t)), ⟨((F.sI (by omega) rfl).sI (by omega) rfl).sI (by omega) rfl, fun b' hb' => ?_, fun p hp' => ?_, rfl, rfl⟩, ?_⟩
            · by_cases z : b' = b
              · subst z; rw [I_eq]; exact (if_pos rfl).symm
              · rw [I_nk z, I_ne (by omega), I_ne (by omega)]; exact (hb b' hb').trans (if_neg z).symm
            · rw [I_ne (by omega)]
              by_cases z : p = f
              · subst z
                rw [I_eq]
                show _ = if p = p then _ else _
                rw [if_pos rfl]
                by_cases z2 : p = t
                · subst z2; rw [I_eq, if_pos rfl, hp p hp']
                · rw [I_nk z2, if_neg z2, hp p hp']
              · rw [I_nk z]
                show _ = if p = f then _ else _
                rw [if_neg z]
                by_cases z2 : p = t
                · subst z2; rw [I_eq, if_pos rfl, hp p hp']
                · rw [I_nk z2, if_neg z2, hp p hp']
            · by_cases q2 : (bkF s k).2.2.2 = -1
              · by_cases q3 : s 133 k ≤ (bkF s k).2.1 t
                · have q4 : ¬ (bkF s k).2.1 t < s 133 k := by rw [Int32.not_lt]; exact q3
                  have ee := e154 (-1)
                  simp (disch := omega) only [fn_266_82, fn_266_124, ↓LMb LL, LM LL, RM MM, hK.1, hk', eb, ef, et, e49, e50, q, q2, q3, q4, ee, and_false, eq_self, Nat.le_refl, Nat.lt_irrefl, some_if, Option.bind_some, Option.bind_none, Option.some.injEq, ↓reduceIte, reduceCtorEq, Bool.false_eq_true, Bool.true_eq_false, not_true_eq_false, not_false_eq_true, cmb0, cmb1, Nat.reduceAdd, Nat.reduceMul, Nat.reduceSub, Nat.add_zero, Bool.not_eq_true, Bool.not_eq_false, Nat.reduceEqDiff, Nat.reduceLeDiff, Nat.reduceLT, Int32.reduceLT, Int32.reduceLE, iin_nI, iin_lit, iin_m1, tn_nI, tn_lit, nI_lm, nI_ml, nI_al, nI_la, nI_add, pk_mul, nI_le_l, nI_l_le, nI_lt_l, nI_l_lt, nI_eq_l, nI_l_eq, nI_eqP, nI_leP, nI_ltP, nI_m1, m1_nI, nI_ll, m1_l, l_m1]
                · have q4 : (bkF s k).2.1 t < s 133 k := by rw [← Int32.not_le]; exact q3
                  have ee := e154 (nI k)
                  simp (disch := omega) only [fn_266_82, fn_266_124, ↓LMb LL, LM LL, RM MM, hK.1, hk', eb, ef, et, e49, e50, q, q2, q3, q4, ee, and_self, eq_self, Nat.le_refl, Nat.lt_irrefl, some_if, Option.bind_some, Option.bind_none, Option.some.injEq, ↓reduceIte, reduceCtorEq, Bool.false_eq_true, Bool.true_eq_false, not_true_eq_false, not_false_eq_true, cmb0, cmb1, Nat.reduceAdd, Nat.reduceMul, Nat.reduceSub, Nat.add_zero, Bool.not_eq_true, Bool.not_eq_false, Nat.reduceEqDiff, Nat.reduceLeDiff, Nat.reduceLT, Int32.reduceLT, Int32.reduceLE, iin_nI, iin_lit, iin_m1, tn_nI, tn_lit, nI_lm, nI_ml, nI_al, nI_la, nI_add, pk_mul, nI_le_l, nI_l_le, nI_lt_l, nI_l_lt, nI_eq_l, nI_l_eq, nI_eqP, nI_leP, nI_ltP, nI_m1, m1_nI, nI_ll, m1_l, l_m1]
              · have q4 : ¬ ((bkF s k).2.2.2 = -1 ∧ (bkF s k).2.1 t < s 133 k) := fun z => q2 z.1
                have ee := e154 ((bkF s k).2.2.2)
                simp (disch := omega) only [fn_266_82, fn_266_124, ↓LMb LL, LM LL, RM MM, hK.1, hk', eb, ef, et, e49, e50, q, q2, q4, ee, false_and, eq_self, Nat.le_refl, Nat.lt_irrefl, some_if, Option.bind_some, Option.bind_none, Option.some.injEq, ↓reduceIte, reduceCtorEq, Bool.false_eq_true, Bool.true_eq_false, not_true_eq_false, not_false_eq_true, cmb0, cmb1, Nat.reduceAdd, Nat.reduceMul, Nat.reduceSub, Nat.add_zero, Bool.not_eq_true, Bool.not_eq_false, Nat.reduceEqDiff, Nat.reduceLeDiff, Nat.reduceLT, Int32.reduceLT, Int32.reduceLE, iin_nI, iin_lit, iin_m1, tn_nI, tn_lit, nI_lm, nI_ml, nI_al, nI_la, nI_add, pk_mul, nI_le_l, nI_l_le, nI_lt_l, nI_l_lt, nI_eq_l, nI_l_eq, nI_eqP, nI_leP, nI_ltP, nI_m1, m1_nI, nI_ll, m1_l, l_m1]
          · rw [if_neg q]
            refine ⟨((if (bkF s k).2.2.1 = -1 then nI k else (bkF s k).2.2.1), (bkF s k).2.2.2, a), ⟨F, hb, hp, rfl, rfl⟩, ?_⟩
            by_cases q1 : (bkF s k).2.2.1 = -1 <;> simp (disch := omega) only [fn_266_82, fn_266_217, ↓LMb LL, LM LL, RM MM, hK.1, hk', eb, ef, et, e49, q, q1, eq_self, Nat.le_refl, Nat.lt_irrefl, some_if, Option.bind_some, Option.bind_none, Option.some.injEq, ↓reduceIte, reduceCtorEq, Bool.false_eq_true, Bool.true_eq_false, not_true_eq_false, not_false_eq_true, cmb0, cmb1, Nat.reduceAdd, Nat.reduceMul, Nat.reduceSub, Nat.add_zero, Bool.not_eq_true, Bool.not_eq_false, Nat.reduceEqDiff, Nat.reduceLeDiff, Nat.reduceLT, Int32.reduceLT, Int32.reduceLE, iin_nI, iin_lit, iin_m1, tn_nI, tn_lit, nI_lm, nI_ml, nI_al, nI_la, nI_add, pk_mul, nI_le_l, nI_l_le, nI_lt_l, nI_l_lt, nI_eq_l, nI_l_eq, nI_eqP, nI_leP, nI_ltP, nI_m1, m1_nI, nI_ll, m1_l, l_m1]
        · obtain ⟨a1, a2, a⟩ := a
          obtain ⟨F, hb, hp, h2, h3⟩ := ha
          dsimp only at F hb hp h2 h3 ⊢
          subst h2 h3
          refine ⟨a, ?_, F⟩
          by_cases q : i = 0 <;> simp (disch := omega) only [fn_266_82, fn_266_223, ↓LMb F.1, LM F.1, RM F.2.1, hK.1, q, eq_self, Nat.le_refl, Nat.lt_irrefl, some_if, Option.bind_some, Option.bind_none, Option.some.injEq, ↓reduceIte, reduceCtorEq, Bool.false_eq_true, Bool.true_eq_false, not_true_eq_false, not_false_eq_true, cmb0, cmb1, Nat.reduceAdd, Nat.reduceMul, Nat.reduceSub, Nat.add_zero, Bool.not_eq_true, Bool.not_eq_false, Nat.reduceEqDiff, Nat.reduceLeDiff, Nat.reduceLT, Int32.reduceLT, Int32.reduceLE, iin_nI, iin_lit, iin_m1, tn_nI, tn_lit, nI_lm, nI_ml, nI_al, nI_la, nI_add, pk_mul, nI_le_l, nI_l_le, nI_lt_l, nI_l_lt, nI_eq_l, nI_l_eq, nI_eqP, nI_leP, nI_ltP, nI_m1, m1_nI, nI_ll, m1_l, l_m1]
  obtain ⟨w1, c1, F1, f2, f3⟩ := cf
  have e01 : ∀ x, fn_194 x i (0 : Int32) (1 : Int32) = some (cm_iin i 2) := fun x => isIn_lit x i 1 (by decide)
  have cc : fn_171 2 i w = if ¬ i = 0 then fn_171_29 2 i w1 else some ((bkF s (nK s)).2.2.1, w1) := by
    simp (disch := omega) only [fn_171, ↓LCb L, ↓LCb F1.1, LC L, LC F1.1, c1, f2, eq_self, Nat.le_refl, Nat.lt_irrefl, some_if, Option.bind_some, Option.bind_none, Option.some.injEq, ↓reduceIte, reduceCtorEq, Bool.false_eq_true, Bool.true_eq_false, not_true_eq_false, not_false_eq_true, cmb0, cmb1, Nat.reduceAdd, Nat.reduceMul, Nat.reduceSub, Nat.add_zero, Bool.not_eq_true, Bool.not_eq_false, Nat.reduceEqDiff, Nat.reduceLeDiff, Nat.reduceLT, Int32.reduceLT, Int32.reduceLE, iin_nI, iin_lit, iin_m1, tn_nI, tn_lit, nI_lm, nI_ml, nI_al, nI_la, nI_add, pk_mul, nI_le_l, nI_l_le, nI_lt_l, nI_l_lt, nI_eq_l, nI_l_eq, nI_eqP, nI_leP, nI_ltP, nI_m1, m1_nI, nI_ll, m1_l, l_m1]
  by_cases i0 : i = 0
  · subst i0
    refine ok_ro (r := (bkF s (nK s)).2.2.1) g ⟨w1, ?_, F1⟩ (fun x L1 M1 _ => ?_)
    · rw [cc, if_neg (fun z => z rfl)]
    · obtain ⟨y, y1, y2⟩ := mf x L1 M1
      refine ⟨y, ?_, y2⟩
      rw [if_neg (fun z => z rfl)] at y1
      simp (disch := omega) only [fn_266, e01, y1, eq_self, Nat.le_refl, Nat.lt_irrefl, some_if, Option.bind_some, Option.bind_none, Option.some.injEq, ↓reduceIte, reduceCtorEq, Bool.false_eq_true, Bool.true_eq_false, not_true_eq_false, not_false_eq_true, cmb0, cmb1, Nat.reduceAdd, Nat.reduceMul, Nat.reduceSub, Nat.add_zero, Bool.not_eq_true, Bool.not_eq_false, Nat.reduceEqDiff, Nat.reduceLeDiff, Nat.reduceLT, Int32.reduceLT, Int32.reduceLE, iin_nI, iin_lit, iin_m1, tn_nI, tn_lit, nI_lm, nI_ml, nI_al, nI_la, nI_add, pk_mul, nI_le_l, nI_l_le, nI_lt_l, nI_l_lt, nI_eq_l, nI_l_eq, nI_eqP, nI_leP, nI_ltP, nI_m1, m1_nI, nI_ll, m1_l, l_m1]
  · by_cases i1 : i = 1
    · subst i1
      refine ok_ro (r := (bkF s (nK s)).2.2.2) g ⟨w1, ?_, F1⟩ (fun x L1 M1 _ => ?_)
      · rw [cc, if_pos i0]
        simp (disch := omega) only [fn_171_29, ↓LCb F1.1, LC F1.1, f3, eq_self, Nat.le_refl, Nat.lt_irrefl, some_if, Option.bind_some, Option.bind_none, Option.some.injEq, ↓reduceIte, reduceCtorEq, Bool.false_eq_true, Bool.true_eq_false, not_true_eq_false, not_false_eq_true, cmb0, cmb1, Nat.reduceAdd, Nat.reduceMul, Nat.reduceSub, Nat.add_zero, Bool.not_eq_true, Bool.not_eq_false, Nat.reduceEqDiff, Nat.reduceLeDiff, Nat.reduceLT, Int32.reduceLT, Int32.reduceLE, iin_nI, iin_lit, iin_m1, tn_nI, tn_lit, nI_lm, nI_ml, nI_al, nI_la, nI_add, pk_mul, nI_le_l, nI_l_le, nI_lt_l, nI_l_lt, nI_eq_l, nI_l_eq, nI_eqP, nI_leP, nI_ltP, nI_m1, m1_nI, nI_ll, m1_l, l_m1]
      · obtain ⟨y, y1, y2⟩ := mf x L1 M1
        refine ⟨y, ?_, y2⟩
        rw [if_pos i0] at y1
        simp (disch := omega) only [fn_266, e01, y1, eq_self, Nat.le_refl, Nat.lt_irrefl, some_if, Option.bind_some, Option.bind_none, Option.some.injEq, ↓reduceIte, reduceCtorEq, Bool.false_eq_true, Bool.true_eq_false, not_true_eq_false, not_false_eq_true, cmb0, cmb1, Nat.reduceAdd, Nat.reduceMul, Nat.reduceSub, Nat.add_zero, Bool.not_eq_true, Bool.not_eq_false, Nat.reduceEqDiff, Nat.reduceLeDiff, Nat.reduceLT, Int32.reduceLT, Int32.reduceLE, iin_nI, iin_lit, iin_m1, tn_nI, tn_lit, nI_lm, nI_ml, nI_al, nI_la, nI_add, pk_mul, nI_le_l, nI_l_le, nI_lt_l, nI_l_lt, nI_eq_l, nI_l_eq, nI_eqP, nI_leP, nI_ltP, nI_m1, m1_nI, nI_ll, m1_l, l_m1]
    · have h2 : cm_iin i 2 = false := by
        rcases iin_cs i (n := 2) (by omega) with h | ⟨a, ha, e⟩
        · exact h
        · rcases (show a = 0 ∨ a = 1 by omega) with rfl | rfl
          · exact absurd e i0
          · exact absurd e i1
      refine ok_ro (r := -1) g ⟨w1, ?_, F1⟩ (fun x L1 M1 _ => ⟨x, ?_, FM.rf L1 M1⟩)
      · rw [cc, if_pos i0]
        simp (disch := omega) only [fn_171_29, i1, eq_self, Nat.le_refl, Nat.lt_irrefl, some_if, Option.bind_some, Option.bind_none, Option.some.injEq, ↓reduceIte, reduceCtorEq, Bool.false_eq_true, Bool.true_eq_false, not_true_eq_false, not_false_eq_true, cmb0, cmb1, Nat.reduceAdd, Nat.reduceMul, Nat.reduceSub, Nat.add_zero, Bool.not_eq_true, Bool.not_eq_false, Nat.reduceEqDiff, Nat.reduceLeDiff, Nat.reduceLT, Int32.reduceLT, Int32.reduceLE, iin_nI, iin_lit, iin_m1, tn_nI, tn_lit, nI_lm, nI_ml, nI_al, nI_la, nI_add, pk_mul, nI_le_l, nI_l_le, nI_lt_l, nI_l_lt, nI_eq_l, nI_l_eq, nI_eqP, nI_leP, nI_ltP, nI_m1, m1_nI, nI_ll, m1_l, l_m1]
      · simp (disch := omega) only [fn_266, e01, h2, eq_self, Nat.le_refl, Nat.lt_irrefl, some_if, Option.bind_some, Option.bind_none, Option.some.injEq, ↓reduceIte, reduceCtorEq, Bool.false_eq_true, Bool.true_eq_false, not_true_eq_false, not_false_eq_true, cmb0, cmb1, Nat.reduceAdd, Nat.reduceMul, Nat.reduceSub, Nat.add_zero, Bool.not_eq_true, Bool.not_eq_false, Nat.reduceEqDiff, Nat.reduceLeDiff, Nat.reduceLT, Int32.reduceLT, Int32.reduceLE, iin_nI, iin_lit, iin_m1, tn_nI, tn_lit, nI_lm, nI_ml, nI_al, nI_la, nI_add, pk_mul, nI_le_l, nI_l_le, nI_lt_l, nI_l_lt, nI_eq_l, nI_l_eq, nI_eqP, nI_leP, nI_ltP, nI_m1, m1_nI, nI_ll, m1_l, l_m1]
end SCR
