/-! the writers' helpers: refusing, setting a table's cell, adding a row; month, seed, open, into, holds -/
/-- a call of both that answers alike and leaves the relation -/
def OKW {α : Type} (X Mf : cm_W → Option (α × cm_W)) (w : cm_W) : Prop := ∃ r w1 w2 v c s, X w = some (r, w1) ∧ Mf w1 = some (r, w2) ∧ GG v c w2 s
section WR
variable {v c u n : Nat} {w w' : cm_W} {s s' : St}
theorem set_in {tb ce W N : Nat} (h0 : cm_sh w tb = some (.inl 7)) (h1 : cm_R w tb 1 = some ce) (hg : ∀ i, cm_ga w .int ce i = cm_iin i N) (hW : cm_I w tb 0 = nI W) (hn : cm_I w tb 2 = nI n) (hN : W * n ≤ N) (hM : N ≤ 2100) (hW2 : W < 100) (hw : cm_w2 30 41 ce = true) {k j : Nat} (hk : k < n) (hn2 : n ≤ 2100) (hj : j < W) {x : Int32} : fn_99 tb (nI k) (nI j) x w = some (cm_sI w ce (W * k + j) x) := by
  have e1 : W * (k + 1) ≤ W * n := Nat.mul_le_mul_left W hk
  have e2 : W * (k + 1) = W * k + W := by rw [Nat.mul_add, Nat.mul_one]
  unfold fn_99
  rw [if_pos h0, has_ok h0 hn hn2, iin_nI hk (by omega)]
  show (if cm_b true = 0 then some w else _) = _
  rw [if_neg (by decide), if_neg (nI_pos (by omega)), hW, if_neg (nI_ge hj (by omega)), h1]
  show (if cm_ga w .int ce (nI k * nI W + nI j) = true then (if cm_w2 30 41 ce = true then some (cm_sI w ce (nI k * nI W + nI j).toNatClampNeg x) else none) else none) = _
  rw [pk_mul, nI_add, hg, Nat.mul_comm k W, if_pos (iin_nI (by omega) (by omega)), if_pos hw, tn_nI (by omega)]
theorem setB (L : Lay v c w) (h0 : cm_I w 31 0 = 6) (hn : cm_I w 31 2 = nI n) (hn2 : n ≤ 40) {k j : Nat} {x : Int32} (hk : k < n) (hj : (OfNat.ofNat j : Nat) < 6) : fn_99 31 (nI k) (no_index (OfNat.ofNat j)) x w = some (cm_sI w 32 (6 * k + (OfNat.ofNat j : Nat)) x) := set_in (W := 6) (N := 240) (n := n) (by simp only [LSt L]) (by simp only [LSt L]) (by intro i; simp only [LSt L]) h0 hn (by omega) (by omega) (by omega) (by decide) hk (by omega) hj
theorem setR (L : Lay v c w) (h0 : cm_I w 33 0 = 7) (hn : cm_I w 33 2 = nI n) (hn2 : n ≤ 300) {k j : Nat} {x : Int32} (hk : k < n) (hj : (OfNat.ofNat j : Nat) < 7) : fn_99 33 (nI k) (no_index (OfNat.ofNat j)) x w = some (cm_sI w 34 (7 * k + (OfNat.ofNat j : Nat)) x) := set_in (W := 7) (N := 2100) (n := n) (by simp only [LSt L]) (by simp only [LSt L]) (by intro i; simp only [LSt L]) h0 hn (by omega) (by omega) (by omega) (by decide) hk (by omega) hj
theorem setL (L : Lay v c w) (h0 : cm_I w 35 0 = 6) (hn : cm_I w 35 2 = nI n) (hn2 : n ≤ 20) {k j : Nat} {x : Int32} (hk : k < n) (hj : (OfNat.ofNat j : Nat) < 6) : fn_99 35 (nI k) (no_index (OfNat.ofNat j)) x w = some (cm_sI w 36 (6 * k + (OfNat.ofNat j : Nat)) x) := set_in (W := 6) (N := 120) (n := n) (by simp only [LSt L]) (by simp only [LSt L]) (by intro i; simp only [LSt L]) h0 hn (by omega) (by omega) (by omega) (by decide) hk (by omega) hj
theorem setK (L : Lay v c w) (h0 : cm_I w 37 0 = 4) (hn : cm_I w 37 2 = nI n) (hn2 : n ≤ 40) {k j : Nat} {x : Int32} (hk : k < n) (hj : (OfNat.ofNat j : Nat) < 4) : fn_99 37 (nI k) (no_index (OfNat.ofNat j)) x w = some (cm_sI w 38 (4 * k + (OfNat.ofNat j : Nat)) x) := set_in (W := 4) (N := 160) (n := n) (by simp only [LSt L]) (by simp only [LSt L]) (by intro i; simp only [LSt L]) h0 hn (by omega) (by omega) (by omega) (by decide) hk (by omega) hj
theorem setBb (L : Lay v c w) (h0 : cm_I w 31 0 = 6) (hn : cm_I w 31 2 = nI n) (hn2 : n ≤ 40) {k j : Nat} {x : Int32} (hk : k < n) (hj : (OfNat.ofNat j : Nat) < 6) {β : Type} (f : cm_W → Option β) : (fn_99 31 (nI k) (no_index (OfNat.ofNat j)) x w).bind f = f (cm_sI w 32 (6 * k + (OfNat.ofNat j : Nat)) x) := bd (setB L h0 hn hn2 hk hj) f
theorem setRb (L : Lay v c w) (h0 : cm_I w 33 0 = 7) (hn : cm_I w 33 2 = nI n) (hn2 : n ≤ 300) {k j : Nat} {x : Int32} (hk : k < n) (hj : (OfNat.ofNat j : Nat) < 7) {β : Type} (f : cm_W → Option β) : (fn_99 33 (nI k) (no_index (OfNat.ofNat j)) x w).bind f = f (cm_sI w 34 (7 * k + (OfNat.ofNat j : Nat)) x) := bd (setR L h0 hn hn2 hk hj) f
theorem setLb (L : Lay v c w) (h0 : cm_I w 35 0 = 6) (hn : cm_I w 35 2 = nI n) (hn2 : n ≤ 20) {k j : Nat} {x : Int32} (hk : k < n) (hj : (OfNat.ofNat j : Nat) < 6) {β : Type} (f : cm_W → Option β) : (fn_99 35 (nI k) (no_index (OfNat.ofNat j)) x w).bind f = f (cm_sI w 36 (6 * k + (OfNat.ofNat j : Nat)) x) := bd (setL L h0 hn hn2 hk hj) f
theorem setKb (L : Lay v c w) (h0 : cm_I w 37 0 = 4) (hn : cm_I w 37 2 = nI n) (hn2 : n ≤ 40) {k j : Nat} {x : Int32} (hk : k < n) (hj : (OfNat.ofNat j : Nat) < 4) {β : Type} (f : cm_W → Option β) : (fn_99 37 (nI k) (no_index (OfNat.ofNat j)) x w).bind f = f (cm_sI w 38 (4 * k + (OfNat.ofNat j : Nat)) x) := bd (setK L h0 hn hn2 hk hj) f
theorem full_in {tb ce W m : Nat} (h0 : cm_sh w tb = some (.inl 7)) (h1 : cm_R w tb 1 = some ce) (ha : cm_al w ce = some (W * m)) (hW : cm_I w tb 0 = nI W) (hn : cm_I w tb 2 = nI n) (hn2 : n ≤ m) (hm : W * (m + 1) < 10000) (hW0 : 0 < W) : fn_64 w tb = some (decide (n = m)) := by
  unfold fn_64
  rw [if_pos h0, h1]
  show ((cm_al w ce).bind _) = _
  rw [ha]
  show (if (cm_I w tb 2 + 1) * cm_I w tb 0 ≤ nI (W * m) then some false else some true) = _
  have e1 : W * (n + 1) ≤ W * (m + 1) := Nat.mul_le_mul_left W (by omega)
  have e3 : W * (m + 1) = W * m + W := by rw [Nat.mul_add, Nat.mul_one]
  rw [hW, hn, nI_1, pk_mul, Nat.mul_comm (n + 1) W]
  by_cases h : n = m
  · subst h
    rw [if_neg (nI_ge (by omega) (by omega))]; simp
  · have e2 : W * (n + 1) ≤ W * m := Nat.mul_le_mul_left W (by omega)
    rw [if_pos (nI_le e2 (by omega))]; simp [h]
theorem fulB (L : Lay v c w) (V : StC w 30 s) (I : InvS s) : fn_64 w 31 = some (decide (nB s = 40)) := full_in (ce := 32) (W := 6) (m := 40) (by simp only [LSt L]) (by simp only [LSt L]) (by simp only [LSt L]) V.2.1.1 (V.1.1.trans I.2.1.1) I.2.1.2 (by omega) (by omega)
theorem fulR (L : Lay v c w) (V : StC w 30 s) (I : InvS s) : fn_64 w 33 = some (decide (nR s = 300)) := full_in (ce := 34) (W := 7) (m := 300) (by simp only [LSt L]) (by simp only [LSt L]) (by simp only [LSt L]) V.2.1.2.1 (V.1.2.1.trans I.2.2.1.1) I.2.2.1.2 (by omega) (by omega)
theorem fulL (L : Lay v c w) (V : StC w 30 s) (I : InvS s) : fn_64 w 35 = some (decide (nL s = 20)) := full_in (ce := 36) (W := 6) (m := 20) (by simp only [LSt L]) (by simp only [LSt L]) (by simp only [LSt L]) V.2.1.2.2.1 (V.1.2.2.1.trans I.2.2.2.1.1) I.2.2.2.1.2 (by omega) (by omega)
theorem fulK (L : Lay v c w) (V : StC w 30 s) (I : InvS s) : fn_64 w 37 = some (decide (nK s = 40)) := full_in (ce := 38) (W := 4) (m := 40) (by simp only [LSt L]) (by simp only [LSt L]) (by simp only [LSt L]) V.2.1.2.2.2 (V.1.2.2.2.1.trans I.2.2.2.2.1.1) I.2.2.2.2.1.2 (by omega) (by omega)
theorem app_in {tb : Nat} (h0 : cm_sh w tb = some (.inl 7)) (hf : fn_64 w tb = some false) (hn : cm_I w tb 2 = nI n) (hw : cm_w2 30 41 tb = true) : fn_98 tb w = some (nI n, cm_sI w tb 2 (nI (n + 1))) := by
  unfold fn_98 fn_98_9
  rw [if_pos h0, hf, Option.bind_some, if_pos (show cm_b false = 0 from rfl), if_pos h0, if_pos hw, I_eq, hn, nI_1, nI_pred]
-- refusing
theorem c140 (L : Lay v c w) {k : Nat} (hk : (OfNat.ofNat k : Nat) < 3) : fn_140 2 (no_index (OfNat.ofNat k)) w = some (-1, cm_sI w 42 (OfNat.ofNat k : Nat) (cm_I w 42 (OfNat.ofNat k : Nat) + 1)) := by
  have hk' : k < 3 := hk
  show fn_140 2 (nI k) w = some (-1, cm_sI w 42 k (cm_I w 42 k + 1))
  unfold fn_140
  rw [if_neg (nI_pos (by omega)), if_neg (show ¬ (3 : Int32) ≤ nI k from nI_ge hk' (by decide))]
  simp (disch := omega) only [LC L, tn_nI, iin_nI, Option.bind_some, ↓reduceIte]
  rfl
theorem c148 (L : Lay v c w) {k : Nat} (hk : (OfNat.ofNat k : Nat) < 3) : fn_148 2 (no_index (OfNat.ofNat k)) w = some (false, cm_sI w 42 (OfNat.ofNat k : Nat) (cm_I w 42 (OfNat.ofNat k : Nat) + 1)) := by
  unfold fn_148
  rw [c140 L hk, if_pos (by simp only [LC L])]
  rfl
theorem m198 (L : Lay v c w) {k : Nat} (hk : (OfNat.ofNat k : Nat) < 3) : fn_198 96 (no_index (OfNat.ofNat k)) w = some (false, cm_sI w 97 (OfNat.ofNat k : Nat) (cm_I w 97 (OfNat.ofNat k : Nat) + 1)) := by
  have hk' : k < 3 := hk
  show fn_198 96 (nI k) w = some (false, cm_sI w 97 k (cm_I w 97 k + 1))
  unfold fn_198
  simp (disch := omega) only [LM L, tn_nI, iin_nI, Option.bind_some, ↓reduceIte]
  rfl
theorem m199 (L : Lay v c w) {k : Nat} {x : Int32} (hk : (OfNat.ofNat k : Nat) < 3) : fn_199 96 (no_index (OfNat.ofNat k)) x w = some (x, cm_sI w 97 (OfNat.ofNat k : Nat) (cm_I w 97 (OfNat.ofNat k : Nat) + 1)) := by
  have hk' : k < 3 := hk
  show fn_199 96 (nI k) x w = some (x, cm_sI w 97 k (cm_I w 97 k + 1))
  unfold fn_199
  simp (disch := omega) only [LM L, tn_nI, iin_nI, Option.bind_some, ↓reduceIte]
  rfl
theorem InvV.cg2 (h : InvV s) (h96 : ∀ k, k ≤ 7 → s' 96 k = s 96 k) (f : ∀ a, 100 ≤ a → a ≤ 111 → a ≠ 105 → ∀ k, s' a k = s a k) : InvV s' := by
  have e1 : nT s' = nT s := by unfold nT; rw [h96 1 (by omega)]
  have e2 : nP s' = nP s := by unfold nP; rw [h96 2 (by omega)]
  have e3 : nQ s' = nQ s := by unfold nQ; rw [h96 3 (by omega)]
  unfold InvV at h ⊢
  rw [e1, e2, e3, h96 1 (by omega), h96 2 (by omega), h96 3 (by omega), h96 5 (by omega), h96 6 (by omega), h96 7 (by omega)]
  simp (disch := omega) only [f]
  exact h
/-- both have refused -/
theorem G_ref (g : GG v c w s) {k : Nat} (hk : k < 3) : ∃ s', GG v c (cm_sI (cm_sI w 42 k (cm_I w 42 k + 1)) 97 k (cm_I (cm_sI w 42 k (cm_I w 42 k + 1)) 97 k + 1)) s' := by
  obtain ⟨L, M, C, Z, I⟩ := g
  have e1 : cm_I w 42 k = s 97 k := C.1.2.2.2.1 k hk
  have e2 : cm_I w 97 k = s 97 k := (RM M).2.1 k hk
  refine ⟨cm_up s 97 k (s 97 k + 1), L, ?_, ?_, Z, ?_⟩
  · rw [I_ne (by omega), e2]
    exact (M.sI (by rfl)).up
  · obtain ⟨h1, h2, h3, h4, h5, h6⟩ := C
    have hs : ∀ a j, sa a j = true → cm_up s 97 k (s 97 k + 1) a j = s a j := fun a j h => u_ne (fun e => by subst e; cases h)
    have hw : ∀ a, a ≠ 42 → a ≠ 97 → ∀ j, cm_I (cm_sI (cm_sI w 42 k (cm_I w 42 k + 1)) 97 k (cm_I (cm_sI w 42 k (cm_I w 42 k + 1)) 97 k + 1)) a j = cm_I w a j := fun a h1 h2 j => by rw [I_ne h2, I_ne h1]
    have him : ∀ i, ims (cm_up s 97 k (s 97 k + 1)) i = cm_up (ims s i) 97 k (s 97 k + 1) := by
      intro i
      funext a j
      unfold ims
      by_cases h0 : a = 96
      · subst h0
        rw [if_pos rfl, u_ne (show (96 : Nat) ≠ 97 by decide), u_ne (show (96 : Nat) ≠ 97 by decide)]
        show _ = if 96 = 96 then _ else _
        rw [if_pos rfl]
        cases imf j with
        | some o => exact u_ne (by decide)
        | none => rfl
      · rw [if_neg h0]
        show _ = if a = 97 ∧ j = k then s 97 k + 1 else (if a = 96 then _ else _)
        rw [if_neg h0]
        cases e : imo a with
        | some o =>
          have : ¬ (a = 97 ∧ j = k) := fun q => by rw [q.1] at e; cases e
          rw [if_neg this]
          exact u_ne (by decide)
        | none => rfl
    have hv := L.1
    refine ⟨?_, ?_, ?_, ?_, ?_, ?_⟩
    · rw [hw 2 (by omega) (by omega), hw 2 (by omega) (by omega), hw 2 (by omega) (by omega), u_ne (by decide), u_ne (by decide), u_ne (by decide)]
      refine ⟨h1.1, h1.2.1, h1.2.2.1, fun j hj => ?_, fun j hj => ?_⟩
      · rw [I_ne (by decide)]
        by_cases q : j = k
        · subst q; rw [I_eq, u_eq, e1]
        · rw [I_nk q, u_nk q]; exact h1.2.2.2.1 j hj
      · rw [hw 3 (by omega) (by omega), u_ne (by decide)]
        exact h1.2.2.2.2 j (by unfold nA at hj ⊢; rw [u_ne (by decide)] at hj; exact hj)
    · obtain ⟨k1, k2, k3, k4, k5, k6⟩ := h2
      have f1 : nT (cm_up s 97 k (s 97 k + 1)) = nT s := by unfold nT; rw [u_ne (by decide)]
      have f2 : nP (cm_up s 97 k (s 97 k + 1)) = nP s := by unfold nP; rw [u_ne (by decide)]
      have f3 : nQ (cm_up s 97 k (s 97 k + 1)) = nQ s := by unfold nQ; rw [u_ne (by decide)]
      have f4 : ∀ p, shs (cm_up s 97 k (s 97 k + 1)) p = shs s p := by
        intro p; unfold shs; rw [f1]; simp only [u_ne (show (107 : Nat) ≠ 97 by decide)]
      refine ⟨?_, ?_, ?_, ?_, ?_, ?_⟩
      · simp (disch := omega) only [hw, u_ne]; exact k1
      · simp (disch := omega) only [hw]; exact k2
      · intro t ht j hj
        rw [f1] at ht
        simp (disch := omega) only [hw, u_ne]; exact k3 t ht j hj
      · intro p hp
        rw [f2] at hp
        simp (disch := omega) only [hw, u_ne, f4]; exact k4 p hp
      · intro p hp t ht
        rw [f2] at hp
        rw [f1] at ht
        simp (disch := omega) only [hw, u_ne]; exact k5 p hp t ht
      · intro q hq j hj
        rw [f3] at hq
        simp (disch := omega) only [hw, u_ne]; exact k6 q hq j hj
    · exact h3.cg (fun a h1 h2 => hw a (by omega) (by omega)) hs (u_ne (by decide))
    · intro i hi
      simp (disch := omega) only [hw]; exact h4 i hi
    · intro i hi hi3
      rw [him]
      exact (h5 i (by unfold nG at hi ⊢; rw [u_ne (by decide)] at hi; exact hi) hi3).cg (fun a h1 h2 => hw a (by omega) (by omega)) (fun a j h => u_ne (fun e => by subst e; cases h)) (u_ne (by decide))
    · simp (disch := omega) only [hw]; exact h6
  · obtain ⟨i1, i2, i3, i4, i5⟩ := I
    have him : nG (cm_up s 97 k (s 97 k + 1)) = nG s := by unfold nG; rw [u_ne (by decide)]
    have e3 : ∀ s0 : St, ∀ x, nP (cm_up s0 97 k x) = nP s0 := fun _ _ => by unfold nP; rw [u_ne (by decide)]
    have e4 : ∀ s0 : St, ∀ x, nT (cm_up s0 97 k x) = nT s0 := fun _ _ => by unfold nT; rw [u_ne (by decide)]
    have ne : ∀ a j, sa a j = true → a ≠ 97 := fun a j h e => by subst e; cases h
    refine ⟨?_, i2.cg (fun a j _ _ _ h => u_ne (ne a j h)) (e3 _ _) (e4 _ _), ?_, ?_, fun i hi => ?_⟩
    · exact i1.cg2 (fun _ _ => u_ne (by decide)) (fun a h1 h2 _ j => u_ne (by omega))
    · rw [u_ne (by decide)]; exact i3
    · rw [u_ne (by decide)]; exact i4
    · refine (i5 i (by rw [him] at hi; exact hi)).cg (fun a j _ _ _ h => ?_) ?_ ?_
      · unfold ims
        by_cases h0 : a = 96
        · subst h0
          rw [if_pos rfl, if_pos rfl]
          cases imf j with
          | some o => exact u_ne (by decide)
          | none => exact u_ne (by decide)
        · rw [if_neg h0, if_neg h0]
          cases imo a with
          | some o => exact u_ne (by decide)
          | none => exact u_ne (ne a j h)
      · exact congrArg Int32.toNatClampNeg (show cm_up s 97 k (s 97 k + 1) 96 2 = s 96 2 from u_ne (by decide))
      · exact congrArg Int32.toNatClampNeg (show cm_up s 97 k (s 97 k + 1) 96 1 = s 96 1 from u_ne (by decide))
end WR
