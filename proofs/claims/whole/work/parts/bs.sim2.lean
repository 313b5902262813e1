/-! a village's text: both alike, all of it -/
section SIM2
variable {v c v' c' u n m q k p t P Q i j : Nat} {b : Nat → Int32} {w w' w0 x x' x0 y z y1 y2 y3 y4 y5 z1 : cm_W} {f : Int32} {s : St}
theorem rsum_nI {e : Nat} : ∀ t, t ≤ 8 → (∀ j, j < t → rg (cm_I w (u + 7) (8 * e + j)) 100) → rsum u t w e = nI (sgm (fun j => tn (cm_I w (u + 7) (8 * e + j))) t) := by
  intro t
  induction t with
  | zero => intro _ _; rfl
  | succ t ih =>
    intro ht h
    have := ih (by omega) (fun j hj => h j (by omega))
    obtain ⟨k, hk, ek⟩ := h t (by omega)
    show rsum u t w e + cm_I w (u + 7) (8 * e + t) = nI (sgm _ t + tn (cm_I w (u + 7) (8 * e + t)))
    rw [this, ek, tn_nIe (by omega)]
    exact nI_add _ _
theorem rsum_pos {e : Nat} (ht : t ≤ 8) (h : ∀ j, j < t → rg (cm_I w (u + 7) (8 * e + j)) 100) (h2 : ∃ j, j < t ∧ cm_I w (u + 7) (8 * e + j) ≠ 0) : rsum u t w e ≠ 0 := by
  rw [rsum_nI t ht h]
  obtain ⟨j, hj, hn⟩ := h2
  have b := sgm_bd (f := fun j => tn (cm_I w (u + 7) (8 * e + j))) 99 t (fun k hk => by
    obtain ⟨a, ha, ea⟩ := h k hk
    show tn (cm_I w (u + 7) (8 * e + k)) ≤ 99
    rw [ea, tn_nIe (by omega)]; omega)
  have p : 0 < sgm (fun j => tn (cm_I w (u + 7) (8 * e + j))) t := sgm_pos t j hj (by
    obtain ⟨a, ha, ea⟩ := h j hj
    show 0 < tn (cm_I w (u + 7) (8 * e + j))
    rw [ea, tn_nIe (by omega)]
    rw [ea] at hn
    by_cases z : a = 0
    · exact absurd (by rw [z]; rfl) hn
    · omega)
  intro h0
  have := (nI_eq (a := sgm (fun j => tn (cm_I w (u + 7) (8 * e + j))) t) (b := 0) (by omega) (by decide)).mp h0
  omega
theorem rsum_c {e : Nat} {a : Nat} : ∀ t, (∀ j, j < t → cm_I w (u + 7) (8 * e + j) = nI a) → rsum u t w e = nI (a * t) := by
  intro t
  induction t with
  | zero => intro _; rfl
  | succ t ih =>
    intro h
    have := ih (fun j hj => h j (by omega))
    show rsum u t w e + cm_I w (u + 7) (8 * e + t) = nI (a * (t + 1))
    rw [this, h t (by omega), Nat.mul_succ]
    exact nI_add _ _
theorem rsum_cg {e : Nat} (h : ∀ j, j < t → cm_I y (u + 7) (8 * e + j) = cm_I w (u + 7) (8 * e + j)) : rsum u t y e = rsum u t w e := fup_cg fun j a hj => by rw [h j hj]
theorem FIN.of (hv : v = 10 ∨ v = 20) (S : SR v c v' c' b n s w0 x0 w x p t P Q m) {w5 : cm_W} (L5 : Lay v c w5) (h1 : ∀ a j, a ≠ 30 - v + 6 → a ≠ 30 - v + 7 → cm_I w5 a j = cm_I w a j) (h2 : cm_L w5 = cm_L w) (h3 : ∀ j, (∀ e, 0 ≤ e → j ≠ 3 * e + 2) → cm_I w5 (30 - v + 6) j = cm_I w (30 - v + 6) j) (h4 : ∀ e, 0 ≤ e → e < P → ROW (30 - v) t w w5 e) : FIN v c v' c' b n s w0 x0 w5 x := by
  have hu : 30 - v = 10 ∨ 30 - v = 20 := by omega
  obtain ⟨⟨L, FW, C⟩, ⟨q, R, hq⟩, T, Pp, H, Qq, D⟩ := S
  have ht := T.1
  have hP := Pp.1
  refine ⟨L5, FW.tr fun a ha => ⟨fun j => h1 a j (by omega) (by omega), fun j => by rw [h2]⟩, ⟨q, R⟩, t, P, Q, m, ?_, ?_, ?_, ?_, ?_⟩
  · exact T.c2 (fun j => h1 _ _ (by omega) (by omega)) (fun j => h1 _ _ (by omega) (by omega)) (fun j => by rw [h2]) rfl (fun _ _ _ _ => rfl) (fun _ => rfl)
  · obtain ⟨t1, t2, t3, t4, t5⟩ := Pp
    refine ⟨t1, by rw [h1 _ _ (by omega) (by omega)]; exact t2, by rw [h1 _ _ (by omega) (by omega)]; exact t3, t4, fun k hk => ?_⟩
    rw [h3 _ (fun e _ => by omega), h3 _ (fun e _ => by omega), h2]
    exact t5 k hk
  · exact Qq.c2 (fun j => h1 _ _ (by omega) (by omega)) (fun j => h1 _ _ (by omega) (by omega)) rfl (fun _ _ _ _ => rfl)
  · exact D.c2 (fun j => h1 _ _ (by omega) (by omega)) (fun _ _ _ => rfl)
  · intro k hk
    obtain ⟨r1, r2, r3⟩ := h4 k (by omega) hk
    obtain ⟨H1, H2, H3⟩ := H
    rcases H3 k hk with ⟨b1, b2, b3⟩ | ⟨b1, b2⟩
    · have rp : rsum (30 - v) t w k ≠ 0 := rsum_pos ht (fun j hj => (H1 k (by omega) j (by omega)).1) b3
      have row := r1 rp
      rw [if_neg rp] at r3
      obtain ⟨j0, j1, j2⟩ := b3
      refine ⟨Or.inl ⟨b1, fun j hj => ?_, j0, j1, ?_⟩, ?_⟩
      · rw [row j (by omega)]
        exact ⟨b2 j (by omega), (H1 k (by omega) j (by omega)).1⟩
      · rw [row j0 (by omega)]; exact j2
      · rw [r3]
        exact (rsum_cg (fun j hj => row j (by omega))).symm
    · have rz : rsum (30 - v) t w k = 0 := by
        rw [rsum_c (a := 0) t (fun j hj => b2 j (by omega)), Nat.zero_mul]; rfl
      have row := r2 rz
      rw [if_pos rz] at r3
      refine ⟨Or.inr ⟨b1, row⟩, ?_⟩
      rw [r3, rsum_c (a := 1) t row, Nat.one_mul]
theorem e111 (L : Lay v c w) (hv : v = 10 ∨ v = 20) (h2t : cm_I w (30 - v + 2) 2 = nI t) (ht : t ≤ 8) (h2 : cm_I w (30 - v + 5) 2 = nI P) (hP : P ≤ 12) (h0 : cm_I w (30 - v + 5) 0 = 3) (C : CR b n w p f) : ∃ w5, fn_86_111 4 w = some (f, w5) ∧ Lay v c w5 ∧ (∀ a j, a ≠ 30 - v + 6 → a ≠ 30 - v + 7 → cm_I w5 a j = cm_I w a j) ∧ cm_L w5 = cm_L w ∧ (∀ j, (∀ e, 0 ≤ e → j ≠ 3 * e + 2) → cm_I w5 (30 - v + 6) j = cm_I w (30 - v + 6) j) ∧ ∀ e, 0 ≤ e → e < P → ROW (30 - v) t w w5 e := by
  have hu : 30 - v = 10 ∨ 30 - v = 20 := by omega
  obtain ⟨w5, a1, a2, a3, a4, a5, a6, a7⟩ := sum85 hu ht hP P 0 (by omega) w cm_N (by unfold cm_N; omega) L h2t h2 h0
  refine ⟨w5, ?_, a2, a3, a4, a5, a7⟩
  obtain ⟨k, k1, g6, g7, -⟩ := C.g
  rw [fn_86_111, if_pos (LD L).1, bd L.2.2.2.2.2.2.2.1, if_pos (LV L hu).1, bd (show fn_85 (30 - v) w = some w5 from a1), if_pos (LD a2).1, a3 _ _ (by omega) (by omega), g7]
theorem sim86 (hv : v = 10 ∨ v = 20) (L : Lay v c w) (hn : n ≤ 900) (hb : ∀ j, j < n → cm_I w 3 j = b j) (hnb : ∀ j, j < n → vp_nar .byte (b j) = b j) (h0 : cm_I w (30 - v + 2) 0 = 4 ∧ cm_I w (30 - v + 5) 0 = 3 ∧ cm_I w (30 - v + 8) 0 = 3) (R : RX v' c' b n s x0 x 0) : ∃ f w1 r x1, fn_86 4 3 (nI n) w = some (f, w1) ∧ fn_218 96 x = some (r, x1) ∧ ((r = true ∧ f = -1 ∧ FIN v c v' c' b n s w x0 w1 x1) ∨ (r = false ∧ ∃ q, f = nI (sk b n q) ∧ Lay v c w1 ∧ FW0 v w w1 ∧ WD (30 - v) w1 ∧ RX v' c' b n s x0 x1 q)) := by
  have hu : 30 - v = 10 ∨ 30 - v = 20 := by omega
  obtain ⟨y, z, p, e1, e2, S, R1⟩ := start86 hv L hn hb h0 R
  obtain ⟨wA, r, x1, c1, c2, c3⟩ := loop86 hv hn hnb 50 0 rfl y z p 0 0 0 cm_N cm_N (by unfold cm_N; omega) (by unfold cm_N; omega) S R1
  have c1 : fn_86_36 cm_N 4 0 y = fn_86_111 4 wA := c1
  rcases c3 with ⟨rfl, p', t', P', Q', m', S1⟩ | ⟨rfl, S1⟩
  · obtain ⟨⟨LA, FWA, CA⟩, -, T, Pp, -⟩ := id S1
    obtain ⟨w5, g1, g2, g3, g4, g5, g6⟩ := e111 LA hv T.2.1 T.1 Pp.2.1 Pp.1 Pp.2.2.1 CA
    exact ⟨-1, w5, true, x1, by rw [e1, c1, g1], by rw [e2, c2], Or.inl ⟨rfl, rfl, FIN.of hv S1 g2 g3 g4 g5 g6⟩⟩
  · obtain ⟨LA, FWA, ⟨⟨t1, ht, h2t⟩, ⟨P1, hP, h2⟩, WQ, g0, g5, g8⟩, p', q', CA, RA⟩ := S1
    obtain ⟨w5, k1, k2, k3, k4, k5, k6⟩ := e111 LA hv h2t ht h2 hP g5 CA
    refine ⟨_, w5, false, x1, by rw [e1, c1, k1], by rw [e2, c2], Or.inr ⟨rfl, q', rfl, k2, ?_, ?_, RA⟩⟩
    · exact FWA.tr fun a ha => ⟨fun j => k3 a j (by omega) (by omega), fun j => by rw [k4]⟩
    · unfold WD
      simp (disch := omega) only [k3]
      exact ⟨⟨t1, ht, h2t⟩, ⟨P1, hP, h2⟩, WQ, g0, g5, g8⟩
end SIM2
