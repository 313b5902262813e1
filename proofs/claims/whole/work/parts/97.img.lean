/-! images: what they hold; copies of the class; puts and fetches of the reference -/
/-- a cell that an image holds, within its row -/
def sb (a k : Nat) : Bool := sa a k && mt a k
def ilen (a : Nat) : Nat := match a with
  | 105 => 12
  | 121 => 480
  | 122 => 2100
  | 124 => 20
  | 125 => 20
  | 126 => 20
  | 127 => 20
  | 128 => 20
  | 129 => 20
  | _ => 40
def iof (a k : Nat) : Nat := if a = 96 then (imf k).getD 0 else (imo a).getD 0 + k
def iml : List (Nat × Nat × Nat) := [(133, 3117, 40), (132, 3077, 40), (131, 3037, 40), (130, 2997, 40), (129, 2977, 20), (128, 2957, 20), (127, 2937, 20), (126, 2917, 20), (125, 2897, 20), (124, 2877, 20), (122, 777, 2100), (121, 297, 480), (120, 257, 40), (119, 217, 40), (118, 177, 40), (117, 137, 40), (116, 97, 40), (115, 57, 40), (114, 17, 40), (105, 5, 12)]
/-- a state's rows, as they are in another -/
def RwE (w : cm_W) (b : Nat) (w' : cm_W) (b' : Nat) : Prop := (cm_I w' (b' + 1) 2 = cm_I w (b + 1) 2 ∧ cm_I w' (b' + 3) 2 = cm_I w (b + 3) 2 ∧ cm_I w' (b' + 5) 2 = cm_I w (b + 5) 2 ∧ cm_I w' (b' + 7) 2 = cm_I w (b + 7) 2 ∧ cm_I w' b' 6 = cm_I w b 6) ∧ (∀ k, k < 240 → cm_I w' (b' + 2) k = cm_I w (b + 2) k) ∧ (∀ k, k < 2100 → cm_I w' (b' + 4) k = cm_I w (b + 4) k) ∧ (∀ k, k < 120 → cm_I w' (b' + 6) k = cm_I w (b + 6) k) ∧ (∀ k, k < 160 → cm_I w' (b' + 8) k = cm_I w (b + 8) k) ∧ (∀ k, k < 480 → cm_I w' (b' + 9) k = cm_I w (b + 9) k) ∧ (∀ k, k < 12 → cm_I w' (b' + 10) k = cm_I w (b + 10) k)
section IMG
variable {v c u n m p q d r b b' : Nat} {w w' w'' x y : cm_W} {s s' : St}
theorem imo_l {a o : Nat} (h : imo a = some o) : (a, o, ilen a) ∈ iml := by
  unfold imo at h
  split at h <;> first | (cases h; decide) | cases h
theorem mt_l {a o k : Nat} (h : imo a = some o) (hm : mt a k = true) : k < ilen a := by
  unfold imo at h
  split at h <;> first | exact of_decide_eq_true hm | cases h
theorem iml_e : ∀ q, q ∈ iml → q.2.1 + q.2.2 ≤ 3157 := by decide
theorem sb_cs {a k : Nat} (h : sb a k = true) : (a = 96 ∧ ∃ o, imf k = some o ∧ iof a k = o ∧ o < 5) ∨ (a ≠ 96 ∧ ∃ o, imo a = some o ∧ iof a k = o + k ∧ k < ilen a ∧ o + k < 3157) := by
  unfold sb at h
  rw [Bool.and_eq_true] at h
  obtain ⟨h1, h2⟩ := h
  unfold sa at h1
  unfold iof
  by_cases z : a = 96
  · rw [if_pos z] at h1
    refine Or.inl ⟨z, ?_⟩
    rw [if_pos z]
    cases e : imf k with
    | none => rw [e] at h1; cases h1
    | some o =>
      refine ⟨o, rfl, rfl, ?_⟩
      unfold imf at e
      split at e <;> first | (cases e; decide) | cases e
  · rw [if_neg z] at h1
    refine Or.inr ⟨z, ?_⟩
    rw [if_neg z]
    cases e : imo a with
    | none => rw [e] at h1; cases h1
    | some o =>
      have l := mt_l e h2
      have i := iml_e _ (imo_l e)
      exact ⟨o, rfl, rfl, l, by dsimp only at i; omega⟩
theorem ims_of {a k : Nat} (h : sb a k = true) (s : St) (i : Nat) : ims s i a k = s 140 (3200 * i + iof a k) ∧ iof a k < 3157 := by
  rcases sb_cs h with ⟨rfl, o, e1, e2, e3⟩ | ⟨z, o, e1, e2, e3, e4⟩
  · refine ⟨?_, by omega⟩
    unfold ims
    rw [if_pos rfl, e1, e2]
  · refine ⟨?_, by omega⟩
    unfold ims
    rw [if_neg z, e1, e2, ← Nat.add_assoc]
theorem ims_n {a k : Nat} (h : sa a k = false) (s : St) (i : Nat) : ims s i a k = s a k := by
  unfold sa at h
  unfold ims
  by_cases z : a = 96
  · rw [if_pos z] at h
    rw [if_pos z]
    cases e : imf k with
    | none => rw [z]
    | some o => rw [e] at h; cases h
  · rw [if_neg z] at h
    rw [if_neg z]
    cases e : imo a with
    | none => rfl
    | some o => rw [e] at h; cases h
theorem sb_n {a k : Nat} (h : sa a k = false) : sb a k = false := by unfold sb; rw [h]; rfl
/-- a state's rows and what it says -/
theorem StC.tr (h : StC w b s) (I : InvS s) (hP : nP s ≤ 12) (E : RwE w b w' b') (W : cm_I w' (b' + 1) 0 = 6 ∧ cm_I w' (b' + 3) 0 = 7 ∧ cm_I w' (b' + 5) 0 = 6 ∧ cm_I w' (b' + 7) 0 = 4) (hs : ∀ a k, sb a k = true → s' a k = s a k) (hp : nP s' = nP s) : StC w' b' s' := by
  have e1 : nB s' = nB s := by unfold nB; rw [hs 96 38 rfl]
  have e3 : nR s' = nR s := by unfold nR; rw [hs 96 39 rfl]
  have e4 : nL s' = nL s := by unfold nL; rw [hs 96 51 rfl]
  have e5 : nK s' = nK s := by unfold nK; rw [hs 96 58 rfl]
  have hB := I.2.1.2
  have hR := I.2.2.1.2
  have hL := I.2.2.2.1.2
  have hK := I.2.2.2.2.1.2
  obtain ⟨h1, h2, h3, h4, h5, h6, h7, h8⟩ := h
  obtain ⟨E1, E2, E4, E6, E8, E9, E10⟩ := E
  refine ⟨?_, W, ?_, ?_, ?_, ?_, ?_, ?_⟩
  · rw [E1.1, E1.2.1, E1.2.2.1, E1.2.2.2.1, E1.2.2.2.2, hs 96 38 rfl, hs 96 39 rfl, hs 96 51 rfl, hs 96 58 rfl, hs 96 8 rfl]
    exact h1
  · intro x hx k hk
    rw [e1] at hx
    rw [E2 _ (by omega), h3 x hx k hk, hs]
    have : x < 40 := by omega
    rcases (show k = 0 ∨ k = 1 ∨ k = 2 ∨ k = 3 ∨ k = 4 ∨ k = 5 by omega) with rfl | rfl | rfl | rfl | rfl | rfl <;> exact decide_eq_true this
  · intro x hx k hk
    rw [e3] at hx
    have hr : rcl k < 7 := by
      rcases (show k = 0 ∨ k = 1 ∨ k = 2 ∨ k = 3 ∨ k = 4 ∨ k = 5 ∨ k = 6 by omega) with rfl | rfl | rfl | rfl | rfl | rfl | rfl <;> decide
    rw [E4 _ (by omega), h4 x hx k hk, hs]
    exact decide_eq_true (by omega)
  · intro x hx k hk
    rw [e4] at hx
    rw [E6 _ (by omega), h5 x hx k hk, hs]
    have : x < 20 := by omega
    rcases (show k = 0 ∨ k = 1 ∨ k = 2 ∨ k = 3 ∨ k = 4 ∨ k = 5 by omega) with rfl | rfl | rfl | rfl | rfl | rfl <;> exact decide_eq_true this
  · intro x hx k hk
    rw [e5] at hx
    rw [E8 _ (by omega), h6 x hx k hk, hs]
    have : x < 40 := by omega
    rcases (show k = 0 ∨ k = 1 ∨ k = 2 ∨ k = 3 by omega) with rfl | rfl | rfl | rfl <;> exact decide_eq_true this
  · intro x hx k hk
    rw [e1] at hx
    rw [E9 _ (by omega), h7 x hx k hk, hs]
    exact decide_eq_true (by omega)
  · intro x hx
    rw [hp] at hx
    rw [E10 _ (by omega), h8 x hx, hs]
    exact decide_eq_true (show x < 12 by omega)
theorem RwE.rf (h : ∀ a, b ≤ a → a < b + 11 → ∀ k, cm_I w' a k = cm_I w a k) : RwE w b w' b := by
  unfold RwE
  simp (disch := omega) only [h, implies_true, and_self]
/-- a village where nothing of it changed -/
theorem VilC.cg2 (h : VilC w u s) (hu : u = 10 ∨ u = 20) (hw : ∀ a, u ≤ a → a < u + 10 → ∀ j, cm_I w' a j = cm_I w a j) (h96 : ∀ k, k ≤ 7 → s' 96 k = s 96 k) (f : ∀ a, 100 ≤ a → a ≤ 111 → a ≠ 105 → ∀ k, s' a k = s a k) : VilC w' u s' := by
  have hu2 : u ≤ 20 := by omega
  have e1 : nT s' = nT s := by unfold nT; rw [h96 1 (by omega)]
  have e2 : nP s' = nP s := by unfold nP; rw [h96 2 (by omega)]
  have e3 : nQ s' = nQ s := by unfold nQ; rw [h96 3 (by omega)]
  have e4 : ∀ k, s' 107 k = s 107 k := fun k => f 107 (by omega) (by omega) (by omega) k
  have e5 : ∀ p, shs s' p = shs s p := by intro p; unfold shs; rw [e1]; simp only [e4]
  obtain ⟨h1, h2, h3, h4, h5, h6⟩ := h
  refine ⟨?_, ?_, ?_, ?_, ?_, ?_⟩
  · rw [hw _ (by omega) (by omega), hw _ (by omega) (by omega), hw _ (by omega) (by omega), hw _ (by omega) (by omega), hw _ (by omega) (by omega), hw _ (by omega) (by omega), hw _ (by omega) (by omega), h96 1 (by omega), h96 2 (by omega), h96 3 (by omega), h96 4 (by omega), h96 5 (by omega), h96 6 (by omega), h96 7 (by omega)]
    exact h1
  · rw [hw _ (by omega) (by omega), hw _ (by omega) (by omega), hw _ (by omega) (by omega)]
    exact h2
  · intro t ht k hk
    rw [e1] at ht
    rw [hw _ (by omega) (by omega), h3 t ht k hk, f _ (by omega) (by omega) (by omega)]
  · intro p hp
    rw [e2] at hp
    rw [hw _ (by omega) (by omega), hw _ (by omega) (by omega), hw _ (by omega) (by omega), f 104 (by omega) (by omega) (by omega), f 111 (by omega) (by omega) (by omega), e5]
    exact h4 p hp
  · intro p hp t ht
    rw [e2] at hp
    rw [e1] at ht
    rw [hw _ (by omega) (by omega), h5 p hp t ht, e4]
  · intro k hk t ht
    rw [e3] at hk
    rw [hw _ (by omega) (by omega), h6 k hk t ht, f _ (by omega) (by omega) (by omega)]
theorem fup_s {α : Type} {f g : Nat → α → α} {a : α} {n m : Nat} (hn : n = m) (h : ∀ k x, k < m → f k x = g k x) : fup f a n = fup g a m := by subst hn; exact fup_cg h
/-- what holds of a state, within its rows -/
theorem InvS.cgb (h : InvS s) (hs : ∀ a k, sb a k = true → s' a k = s a k) (hP : nP s' = nP s) (hT : nT s' = nT s) : InvS s' := by
  have e1 : nB s' = nB s := by unfold nB; rw [hs 96 38 rfl]
  have e3 : nR s' = nR s := by unfold nR; rw [hs 96 39 rfl]
  have e4 : nL s' = nL s := by unfold nL; rw [hs 96 51 rfl]
  have e5 : nK s' = nK s := by unfold nK; rw [hs 96 58 rfl]
  have e6 : nM s' = nM s := by unfold nM; rw [hs 96 8 rfl]
  obtain ⟨h1, h2, h3, h4, h5, h6, ⟨dd, h7⟩, h8, h9, h10, h11⟩ := h
  have f117 : ∀ b, b < nB s → s' 117 b = s 117 b := fun b hb => hs 117 b (decide_eq_true (show b < 40 by omega))
  have e7 : nIn s' = nIn s := by
    unfold nIn
    exact fup_s e1 fun k x hk => by rw [f117 k hk]
  unfold InvS
  rw [e1, e3, e4, e5, e6, e7, hP, hT, hs 96 8 rfl, hs 96 38 rfl, hs 96 39 rfl, hs 96 51 rfl, hs 96 58 rfl]
  refine ⟨h1, h2, h3, h4, h5, fun b hb => ?_, ⟨dd, fun b hb => ?_⟩, fun b hb p hp => ?_, fun r hr => ?_, fun l hl => ?_, fun k hk => ?_⟩
  · have b4 : b < 40 := by omega
    rw [hs 114 b (decide_eq_true b4), hs 115 b (decide_eq_true b4), hs 116 b (decide_eq_true b4), f117 b hb, hs 120 b (decide_eq_true b4)]
    have := h6 b hb
    refine ⟨this.1, this.2.1, this.2.2.1, this.2.2.2.1, this.2.2.2.2.trans ?_⟩
    exact fup_cg fun k x hk => by rw [hs 122 (7 * k) (decide_eq_true (show 7 * k < 2100 by omega))]
  · refine ⟨(h7 b hb).1, fun c hc e => (h7 b hb).2 c hc ?_⟩
    rw [← f117 b hb]; exact e
  · rw [hs 121 _ (decide_eq_true (show 12 * b + p < 480 by omega))]
    exact h8 b hb p hp
  · have q : ∀ j, j < 7 → s' 122 (7 * r + j) = s 122 (7 * r + j) := fun j hj => hs 122 _ (decide_eq_true (show 7 * r + j < 2100 by omega))
    have q0 := q 0 (by omega)
    rw [Nat.add_zero] at q0
    rw [q0, q 1 (by omega), q 2 (by omega), q 4 (by omega), q 5 (by omega), q 6 (by omega)]
    exact h9 r hr
  · have l4 : l < 20 := by omega
    rw [hs 124 l (decide_eq_true l4), hs 125 l (decide_eq_true l4), hs 126 l (decide_eq_true l4), hs 127 l (decide_eq_true l4), hs 128 l (decide_eq_true l4), hs 129 l (decide_eq_true l4)]
    exact h10 l hl
  · have k4 : k < 40 := by omega
    rw [hs 130 k (decide_eq_true k4), hs 131 k (decide_eq_true k4), hs 132 k (decide_eq_true k4), hs 133 k (decide_eq_true k4)]
    exact h11 k hk
-- the class copies
theorem I_cI {a0 sp a dp n b j : Nat} : cm_I (cm_cI w a0 sp a dp n) b j = if b = a ∧ dp ≤ j ∧ j < dp + n then cm_I w a0 (sp + (j - dp)) else cm_I w b j := rfl
theorem gc_of {a0 a n : Nat} (h0 : cm_sh w a0 = some (.inr (.int, n))) (h1 : cm_sh w a = some (.inr (.int, n))) (hw : cm_w2 30 96 a = true) (h2 : 2 ≤ a0) (hn : n < 2147483648) : cm_gc w 30 96 a0 0 a 0 (Int32.ofNat n) = true := by
  unfold cm_gc
  rw [show w.1 a0 = _ from h0, show w.1 a = _ from h1]
  refine decide_eq_true ⟨by decide, by decide, nI_pos hn, ?_, ?_, hw, h2⟩
  · rw [show (Int32.ofNat n).toNatClampNeg = n from nI_clamp hn, show (0 : Int32).toNatClampNeg = 0 from rfl]; omega
  · rw [show (Int32.ofNat n).toNatClampNeg = n from nI_clamp hn, show (0 : Int32).toNatClampNeg = 0 from rfl]; omega
def St4 (u : Nat) : Prop := u = 30 ∨ u = 63 ∨ u = 74 ∨ u = 85
theorem LSu (L : Lay v c w) (hu : St4 u) : (cm_sh w u = some (.inl 6) ∧ cm_R w u 0 = some (u + 1) ∧ cm_R w u 1 = some (u + 3) ∧ cm_R w u 2 = some (u + 5) ∧ cm_R w u 3 = some (u + 7) ∧ cm_R w u 4 = some (u + 9) ∧ cm_R w u 5 = some (u + 10)) ∧ (cm_sh w (u + 1) = some (.inl 7) ∧ cm_sh w (u + 3) = some (.inl 7) ∧ cm_sh w (u + 5) = some (.inl 7) ∧ cm_sh w (u + 7) = some (.inl 7)) ∧ (cm_R w (u + 1) 1 = some (u + 2) ∧ cm_R w (u + 3) 1 = some (u + 4) ∧ cm_R w (u + 5) 1 = some (u + 6) ∧ cm_R w (u + 7) 1 = some (u + 8)) ∧ (cm_sh w (u + 2) = some (.inr (.int, 240)) ∧ cm_sh w (u + 4) = some (.inr (.int, 2100)) ∧ cm_sh w (u + 6) = some (.inr (.int, 120)) ∧ cm_sh w (u + 8) = some (.inr (.int, 160)) ∧ cm_sh w (u + 9) = some (.inr (.int, 480)) ∧ cm_sh w (u + 10) = some (.inr (.int, 12))) := by
  rcases hu with rfl | rfl | rfl | rfl <;> exact ⟨⟨(L.sh (by decide) (by decide)).trans rfl, L.R rfl, L.R rfl, L.R rfl, L.R rfl, L.R rfl, L.R rfl⟩, ⟨(L.sh (by decide) (by decide)).trans rfl, (L.sh (by decide) (by decide)).trans rfl, (L.sh (by decide) (by decide)).trans rfl, (L.sh (by decide) (by decide)).trans rfl⟩, ⟨L.R rfl, L.R rfl, L.R rfl, L.R rfl⟩, (L.sh (by decide) (by decide)).trans rfl, (L.sh (by decide) (by decide)).trans rfl, (L.sh (by decide) (by decide)).trans rfl, (L.sh (by decide) (by decide)).trans rfl, (L.sh (by decide) (by decide)).trans rfl, (L.sh (by decide) (by decide)).trans rfl⟩
theorem c96 {td ts cd cs N : Nat} (h1 : cm_sh w td = some (.inl 7)) (h2 : cm_sh w ts = some (.inl 7)) (h3 : cm_R w td 1 = some cd) (h4 : cm_R w ts 1 = some cs) (h5 : cm_sh w cd = some (.inr (.int, N))) (h6 : cm_sh w cs = some (.inr (.int, N))) (hw : cm_w2 30 96 td = true) (hwc : cm_w2 30 96 cd = true) (hc : 2 ≤ cs) (hN : N < 2147483648) : fn_96 td ts w = some (cm_cI (cm_sI w td 2 (cm_I w ts 2)) cs 0 cd 0 N) := by
  have g := gc_of h6 h5 hwc hc hN
  have e1 : cm_R (cm_sI w td 2 (cm_I w ts 2)) ts 1 = some cs := h4
  have e2 : cm_R (cm_sI w td 2 (cm_I w ts 2)) td 1 = some cd := h3
  rw [fn_96, if_pos h2, if_pos h1, if_pos hw, bd e1, bd e2, bd e2, bd (al_of h5), bd e1, bd (al_of h6), ite_self, if_pos g]
  rw [show (Int32.ofNat N).toNatClampNeg = N from nI_clamp hN]
  rfl
theorem w2u (hd : St4 d) : cm_w2 30 96 d = true ∧ cm_w2 30 96 (d + 1) = true ∧ cm_w2 30 96 (d + 2) = true ∧ cm_w2 30 96 (d + 3) = true ∧ cm_w2 30 96 (d + 4) = true ∧ cm_w2 30 96 (d + 5) = true ∧ cm_w2 30 96 (d + 6) = true ∧ cm_w2 30 96 (d + 7) = true ∧ cm_w2 30 96 (d + 8) = true ∧ cm_w2 30 96 (d + 9) = true ∧ cm_w2 30 96 (d + 10) = true := by
  rcases hd with rfl | rfl | rfl | rfl <;> exact ⟨rfl, rfl, rfl, rfl, rfl, rfl, rfl, rfl, rfl, rfl, rfl⟩
/-- a table copied: what is where -/
theorem c96k {td ts cd cs N : Nat} (L : Lay v c w) (h1 : cm_sh w td = some (.inl 7)) (h2 : cm_sh w ts = some (.inl 7)) (h3 : cm_R w td 1 = some cd) (h4 : cm_R w ts 1 = some cs) (h5 : cm_sh w cd = some (.inr (.int, N))) (h6 : cm_sh w cs = some (.inr (.int, N))) (hw : cm_w2 30 96 td = true) (hwc : cm_w2 30 96 cd = true) (hc : 2 ≤ cs) (hN : N < 2147483648) (hcd : cd ≠ td) (hct : cs ≠ td) : ∃ w', fn_96 td ts w = some w' ∧ Lay v c w' ∧ cm_L w' = cm_L w ∧ cm_I w' td 2 = cm_I w ts 2 ∧ (cm_I w' td 0 = cm_I w td 0) ∧ (∀ k, k < N → cm_I w' cd k = cm_I w cs k) ∧ ∀ a, a ≠ td → a ≠ cd → cm_I w' a = cm_I w a := by
  refine ⟨_, c96 h1 h2 h3 h4 h5 h6 hw hwc hc hN, L, rfl, ?_, ?_, fun k hk => ?_, fun a ha1 ha2 => ?_⟩
  · rw [I_cI, if_neg (fun z => hcd z.1.symm), I_eq]
  · rw [I_cI, if_neg (fun z => hcd z.1.symm), I_nk (by omega)]
  · rw [I_cI, if_pos ⟨rfl, by omega, by omega⟩, I_ne hct, Nat.zero_add, Nat.sub_zero]
  · funext k
    rw [I_cI, if_neg (fun z => ha2 z.1), I_ne ha1]
theorem c97 (L : Lay v c w) (hd : St4 d) (hr : St4 r) (hdr : d ≠ r) : ∃ w', fn_97 d r w = some w' ∧ Lay v c w' ∧ RwE w r w' d ∧ (cm_I w' (d + 1) 0 = cm_I w (d + 1) 0 ∧ cm_I w' (d + 3) 0 = cm_I w (d + 3) 0 ∧ cm_I w' (d + 5) 0 = cm_I w (d + 5) 0 ∧ cm_I w' (d + 7) 0 = cm_I w (d + 7) 0) ∧ cm_L w' d 7 = cm_L w r 7 ∧ ∀ a, a < d ∨ d + 11 ≤ a → cm_I w' a = cm_I w a ∧ cm_L w' a = cm_L w a := by
  obtain ⟨v0, v1, v2, v3, v4, v5, v6, v7, v8, v9, v10⟩ := w2u hd
  have far : d + 11 ≤ r ∨ r + 11 ≤ d := by
    rcases hd with rfl | rfl | rfl | rfl <;> rcases hr with rfl | rfl | rfl | rfl <;> first | omega | exact absurd rfl hdr
  have d2 : 30 ≤ d := by rcases hd with rfl | rfl | rfl | rfl <;> omega
  have r2 : 30 ≤ r := by rcases hr with rfl | rfl | rfl | rfl <;> omega
  have D := LSu L hd
  have R := LSu L hr
  obtain ⟨w1, a1, L1, z1, n1, k1, x1, f1⟩ := c96k L D.2.1.1 R.2.1.1 D.2.2.1.1 R.2.2.1.1 D.2.2.2.1 R.2.2.2.1 v1 v2 (by omega) (by omega) (by omega) (by omega)
  have D1 := LSu L1 hd
  have R1 := LSu L1 hr
  obtain ⟨w2, a2, L2, z2, n2, k2, x2, f2⟩ := c96k L1 D1.2.1.2.1 R1.2.1.2.1 D1.2.2.1.2.1 R1.2.2.1.2.1 D1.2.2.2.2.1 R1.2.2.2.2.1 v3 v4 (by omega) (by omega) (by omega) (by omega)
  have D2 := LSu L2 hd
  have R2 := LSu L2 hr
  obtain ⟨w3, a3, L3, z3, n3, k3, x3, f3⟩ := c96k L2 D2.2.1.2.2.1 R2.2.1.2.2.1 D2.2.2.1.2.2.1 R2.2.2.1.2.2.1 D2.2.2.2.2.2.1 R2.2.2.2.2.2.1 v5 v6 (by omega) (by omega) (by omega) (by omega)
  have D3 := LSu L3 hd
  have R3 := LSu L3 hr
  obtain ⟨w4, a4, L4, z4, n4, k4, x4, f4⟩ := c96k L3 D3.2.1.2.2.2 R3.2.1.2.2.2 D3.2.2.1.2.2.2 R3.2.2.1.2.2.2 D3.2.2.2.2.2.2.1 R3.2.2.2.2.2.2.1 v7 v8 (by omega) (by omega) (by omega) (by omega)
  have D4 := LSu L4 hd
  have R4 := LSu L4 hr
  have g1 := gc_of R4.2.2.2.2.2.2.2.1 D4.2.2.2.2.2.2.2.1 v9 (by omega) (by omega)
  generalize hw5 : cm_cI w4 (r + 9) (0 : Int32).toNatClampNeg (d + 9) (0 : Int32).toNatClampNeg (Int32.ofNat 480).toNatClampNeg = w5
  have L5 : Lay v c w5 := by rw [← hw5]; exact L4
  have D5 := LSu L5 hd
  have R5 := LSu L5 hr
  have i5 : ∀ a k, cm_I w5 a k = if a = d + 9 ∧ 0 ≤ k ∧ k < 0 + 480 then cm_I w4 (r + 9) (0 + (k - 0)) else cm_I w4 a k := fun a k => by rw [← hw5]; rfl
  have z5 : cm_L w5 = cm_L w4 := by rw [← hw5]; rfl
  have g2 : cm_gc w4 30 96 (r + 10) 0 (d + 10) 0 (Int32.ofNat 12) = true := gc_of R4.2.2.2.2.2.2.2.2 D4.2.2.2.2.2.2.2.2 v10 (by omega) (by omega)
  generalize hw6 : cm_cI w5 (r + 10) (0 : Int32).toNatClampNeg (d + 10) (0 : Int32).toNatClampNeg (Int32.ofNat 12).toNatClampNeg = w6
  have L6 : Lay v c w6 := by rw [← hw6]; exact L5
  have i6 : ∀ a k, cm_I w6 a k = if a = d + 10 ∧ 0 ≤ k ∧ k < 0 + 12 then cm_I w5 (r + 10) (0 + (k - 0)) else cm_I w5 a k := fun a k => by rw [← hw6]; rfl
  have z6 : cm_L w6 = cm_L w5 := by rw [← hw6]; rfl
  have e : fn_97 d r w = some (cm_sL (cm_sI w6 d 6 (cm_I w6 r 6)) d 7 (cm_L (cm_sI w6 d 6 (cm_I w6 r 6)) r 7)) := by
    rw [fn_97, if_pos D.1.1, bd D.1.2.1, if_pos R.1.1, bd R.1.2.1, if_pos D.2.1.1, bd a1]
    rw [if_pos D1.1.1, bd D1.1.2.2.1, if_pos R1.1.1, bd R1.1.2.2.1, if_pos D1.2.1.2.1, bd a2]
    rw [if_pos D2.1.1, bd D2.1.2.2.2.1, if_pos R2.1.1, bd R2.1.2.2.2.1, if_pos D2.2.1.2.2.1, bd a3]
    rw [if_pos D3.1.1, bd D3.1.2.2.2.2.1, if_pos R3.1.1, bd R3.1.2.2.2.2.1, if_pos D3.2.1.2.2.2, bd a4]
    rw [if_pos R4.1.1, bd R4.1.2.2.2.2.2.1, if_pos D4.1.1, bd D4.1.2.2.2.2.2.1, bd D4.1.2.2.2.2.2.1, bd (al_of D4.2.2.2.2.2.2.2.1), if_pos g1, hw5]
    rw [bd R5.1.2.2.2.2.2.2, bd D5.1.2.2.2.2.2.2, bd D5.1.2.2.2.2.2.2, bd (al_of D4.2.2.2.2.2.2.2.2), if_pos g2, hw6, if_pos v0]
  refine ⟨_, e, L6.sL (by omega), ?_, ?_, ?_, fun a ha => ⟨?_, ?_⟩⟩
  · have fr : ∀ a, a ≠ d → ∀ k, cm_I (cm_sL (cm_sI w6 d 6 (cm_I w6 r 6)) d 7 (cm_L (cm_sI w6 d 6 (cm_I w6 r 6)) r 7)) a k = cm_I w6 a k := fun a ha k => I_ne ha
    unfold RwE
    refine ⟨⟨?_, ?_, ?_, ?_, ?_⟩, fun k hk => ?_, fun k hk => ?_, fun k hk => ?_, fun k hk => ?_, fun k hk => ?_, fun k hk => ?_⟩
    · rw [fr _ (by omega), i6, if_neg (by omega), i5, if_neg (by omega), f4 _ (by omega) (by omega), f3 _ (by omega) (by omega), f2 _ (by omega) (by omega)]; exact n1
    · rw [fr _ (by omega), i6, if_neg (by omega), i5, if_neg (by omega), f4 _ (by omega) (by omega), f3 _ (by omega) (by omega), n2, f1 _ (by omega) (by omega)]
    · rw [fr _ (by omega), i6, if_neg (by omega), i5, if_neg (by omega), f4 _ (by omega) (by omega), n3, f2 _ (by omega) (by omega), f1 _ (by omega) (by omega)]
    · rw [fr _ (by omega), i6, if_neg (by omega), i5, if_neg (by omega), n4, f3 _ (by omega) (by omega), f2 _ (by omega) (by omega), f1 _ (by omega) (by omega)]
    · show cm_I (cm_sI w6 d 6 (cm_I w6 r 6)) d 6 = _
      rw [I_eq, i6, if_neg (by omega), i5, if_neg (by omega), f4 _ (by omega) (by omega), f3 _ (by omega) (by omega), f2 _ (by omega) (by omega), f1 _ (by omega) (by omega)]
    · rw [fr _ (by omega), i6, if_neg (by omega), i5, if_neg (by omega), f4 _ (by omega) (by omega), f3 _ (by omega) (by omega), f2 _ (by omega) (by omega)]; exact x1 k hk
    · rw [fr _ (by omega), i6, if_neg (by omega), i5, if_neg (by omega), f4 _ (by omega) (by omega), f3 _ (by omega) (by omega), x2 k hk, f1 _ (by omega) (by omega)]
    · rw [fr _ (by omega), i6, if_neg (by omega), i5, if_neg (by omega), f4 _ (by omega) (by omega), x3 k hk, f2 _ (by omega) (by omega), f1 _ (by omega) (by omega)]
    · rw [fr _ (by omega), i6, if_neg (by omega), i5, if_neg (by omega), x4 k hk, f3 _ (by omega) (by omega), f2 _ (by omega) (by omega), f1 _ (by omega) (by omega)]
    · rw [fr _ (by omega), i6, if_neg (by omega), i5, if_pos (by omega), Nat.zero_add, Nat.sub_zero, f4 _ (by omega) (by omega), f3 _ (by omega) (by omega), f2 _ (by omega) (by omega), f1 _ (by omega) (by omega)]
    · rw [fr _ (by omega), i6, if_pos (by omega), Nat.zero_add, Nat.sub_zero, i5, if_neg (by omega), f4 _ (by omega) (by omega), f3 _ (by omega) (by omega), f2 _ (by omega) (by omega), f1 _ (by omega) (by omega)]
  · have fr : ∀ a, a ≠ d → ∀ k, cm_I (cm_sL (cm_sI w6 d 6 (cm_I w6 r 6)) d 7 (cm_L (cm_sI w6 d 6 (cm_I w6 r 6)) r 7)) a k = cm_I w6 a k := fun a ha k => I_ne ha
    refine ⟨?_, ?_, ?_, ?_⟩
    · rw [fr _ (by omega), i6, if_neg (by omega), i5, if_neg (by omega), f4 _ (by omega) (by omega), f3 _ (by omega) (by omega), f2 _ (by omega) (by omega)]; exact k1
    · rw [fr _ (by omega), i6, if_neg (by omega), i5, if_neg (by omega), f4 _ (by omega) (by omega), f3 _ (by omega) (by omega), k2, f1 _ (by omega) (by omega)]
    · rw [fr _ (by omega), i6, if_neg (by omega), i5, if_neg (by omega), f4 _ (by omega) (by omega), k3, f2 _ (by omega) (by omega), f1 _ (by omega) (by omega)]
    · rw [fr _ (by omega), i6, if_neg (by omega), i5, if_neg (by omega), k4, f3 _ (by omega) (by omega), f2 _ (by omega) (by omega), f1 _ (by omega) (by omega)]
  · rw [L_eq, L_sI, z6, z5, z4, z3, z2, z1]
  · funext k
    show cm_I (cm_sI w6 d 6 (cm_I w6 r 6)) a k = _
    rw [I_ne (by omega), i6, if_neg (by omega), i5, if_neg (by omega), f4 _ (by omega) (by omega), f3 _ (by omega) (by omega), f2 _ (by omega) (by omega), f1 _ (by omega) (by omega)]
  · funext k
    rw [L_ne (by omega), L_sI, z6, z5, z4, z3, z2, z1]
end IMG
