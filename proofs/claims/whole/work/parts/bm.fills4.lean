/-! a statement of what somebody fills: both alike -/
section FILLS4
variable {v c v' c' u n m q k p t P Q i : Nat} {b : Nat → Int32} {w w' w0 x x' x0 y z y1 y2 y3 y4 y5 z1 : cm_W} {f : Int32} {s : St}
theorem z78m (L : Lay v c w) (hu : u = 10 ∨ u = 20) (h2 : cm_I w (u + 5) 2 = nI P) (hP : P ≤ 12) : ∀ d k, k + d = 8 → ∀ N, d < N → fn_78_2 N u (-1) (nI k) w = some w := by
  intro d
  induction d with
  | zero =>
    intro k hk N hN
    obtain ⟨N, rfl⟩ : ∃ a, N = a + 1 := ⟨N - 1, by omega⟩
    rw [fn_78_2, if_pos (by rw [nI_le_l (n := 8) (by decide) (by omega)]; show 8 ≤ k; omega)]
  | succ d ih =>
    intro k hk N hN
    obtain ⟨N, rfl⟩ : ∃ a, N = a + 1 := ⟨N - 1, by omega⟩
    rw [fn_78_2, if_neg (by rw [nI_le_l (n := 8) (by decide) (by omega)]; show ¬ 8 ≤ k; omega), if_pos (LV L hu).1, shr77 L hu h2 hP (-1) (by omega) 0, if_neg (show ¬ cm_iin (-1) P = true from by rw [show cm_iin (-1) P = false from rfl]; decide)]
    show fn_78_2 N u (-1) (nI k + 1) w = _
    rw [show nI k + 1 = nI (k + 1) from nI_1 k]
    exact ih (k + 1) (by omega) N (by omega)
theorem z78 (hu : u = 10 ∨ u = 20) (hP : P ≤ 12) (hi : i < P) : ∀ d k, k + d = 8 → ∀ (w : cm_W) N, d < N → Lay v c w → cm_I w (u + 5) 2 = nI P → ∃ y, fn_78_2 N u (nI i) (nI k) w = some y ∧ Lay v c y ∧ (∀ a j, (a ≠ u + 7 ∨ j < 8 * i + k ∨ 8 * i + 8 ≤ j) → cm_I y a j = cm_I w a j) ∧ cm_L y = cm_L w ∧ ∀ j, k ≤ j → j < 8 → cm_I y (u + 7) (8 * i + j) = 0 := by
  intro d
  induction d with
  | zero =>
    intro k hk w N hN L h2
    obtain ⟨N, rfl⟩ : ∃ a, N = a + 1 := ⟨N - 1, by omega⟩
    refine ⟨w, ?_, L, fun _ _ _ => rfl, rfl, fun j h1 h2 => by omega⟩
    rw [fn_78_2, if_pos (by rw [nI_le_l (n := 8) (by decide) (by omega)]; show 8 ≤ k; omega)]
  | succ d ih =>
    intro k hk w N hN L h2
    obtain ⟨N, rfl⟩ : ∃ a, N = a + 1 := ⟨N - 1, by omega⟩
    obtain ⟨y, a1, a2, a3, a4, a5⟩ := ih (k + 1) (by omega) (cm_sI w (u + 7) (8 * i + k) 0) N (by omega) L (by rw [I_ne (by omega)]; exact h2)
    refine ⟨y, ?_, a2, fun a j h => ?_, a4, fun j h1 h3 => ?_⟩
    · rw [fn_78_2, if_neg (by rw [nI_le_l (n := 8) (by decide) (by omega)]; show ¬ 8 ≤ k; omega), if_pos (LV L hu).1, shr77 L hu h2 hP (nI i) (by omega) 0, iin_nI hi (by omega), if_pos rfl, tn_nIe (by omega)]
      show fn_78_2 N u (nI i) (nI k + 1) _ = _
      rw [show nI k + 1 = nI (k + 1) from nI_1 k]
      exact a1
    · rw [a3 a j (by omega), I_if, if_neg (by omega)]
    · by_cases e : j = k
      · subst e
        rw [a3 _ _ (by omega), I_eq]
      · exact a5 j (by omega) h3
theorem z215 (hi : i < 12) : ∀ d k, k + d = 8 → ∀ (x : cm_W) N, d < N → RX v c b n s x0 x q → ∃ y, fn_215_48 N 96 (nI i) (nI (8 * (12 + i))) (nI k) x = fn_215_72 96 (nI i) (nI (8 * (12 + i))) y ∧ RX v c b n s x0 y q ∧ (∀ a j, (a ≠ 107 ∨ j < 8 * (12 + i) + k ∨ 8 * (12 + i) + 8 ≤ j) → cm_I y a j = cm_I x a j) ∧ cm_L y = cm_L x ∧ ∀ j, k ≤ j → j < 8 → cm_I y 107 (8 * (12 + i) + j) = 0 := by
  intro d
  induction d with
  | zero =>
    intro k hk x N hN R
    obtain ⟨N, rfl⟩ : ∃ a, N = a + 1 := ⟨N - 1, by omega⟩
    refine ⟨x, ?_, R, fun _ _ _ => rfl, rfl, fun j h1 h2 => by omega⟩
    rw [fn_215_48, if_pos (by rw [nI_le_l (n := 8) (by decide) (by omega)]; show 8 ≤ k; omega)]
  | succ d ih =>
    intro k hk x N hN R
    obtain ⟨N, rfl⟩ : ∃ a, N = a + 1 := ⟨N - 1, by omega⟩
    have L := R.L
    have g107 : cm_ga x .int 107 (nI (8 * (12 + i) + k)) = true := by
      rw [ga_of (n := 192) ((L.sh (a := 107) (by decide) (by decide)).trans rfl)]
      exact iin_nI (by omega) (by decide)
    obtain ⟨y, a1, a2, a3, a4, a5⟩ := ih (k + 1) (by omega) (cm_sI x 107 (8 * (12 + i) + k) 0) N (by omega) (R.sI (by omega) (decide_eq_false (by omega)))
    refine ⟨y, ?_, a2, fun a j h => ?_, a4, fun j h1 h3 => ?_⟩
    · rw [fn_215_48, if_neg (by rw [nI_le_l (n := 8) (by decide) (by omega)]; show ¬ 8 ≤ k; omega), if_pos (LM L).1, bd (show cm_R x 96 29 = some 107 from L.R rfl), show nI (8 * (12 + i)) + nI k = nI (8 * (12 + i) + k) from nI_add _ _, if_pos g107, if_pos (show cm_w2 96 143 107 = true from rfl), tn_nI (by omega), show nI k + 1 = nI (k + 1) from nI_1 k]
      exact a1
    · rw [a3 a j (by omega), I_if, if_neg (by omega)]
    · by_cases e : j = k
      · subst e
        rw [a3 _ _ (by omega), I_eq]
      · exact a5 j (by omega) h3
theorem e80 (hv : v = 10 ∨ v = 20) (L : Lay v c w) (h2 : cm_I w (30 - v + 5) 2 = nI P) {r : Int32} (e : fn_68 w 4 (30 - v + 4) (nI P) = some r) : fn_80 4 w = if r = -1 then (fn_66 4 0 w).bind (s80 r) else (fn_66 4 1 w).bind (s80 r) := by
  have hu : 30 - v = 10 ∨ 30 - v = 20 := by omega
  have TBt : TB 5 6 3 36 12 := Or.inr (Or.inl ⟨rfl, rfl, rfl, rfl, rfl⟩)
  have r8 := L.2.2.2.2.2.2.2.1
  rw [fn_80, if_pos (LD L).1, bd r8, if_pos (LV L hu).1, bd (LV L hu).2.2.2.1, bd r8, if_pos (LV L hu).1, bd (LV L hu).2.2.2.2.1, if_pos (tv L hu TBt).1, h2, bd e]
  rfl
theorem s80_e (hv : v = 10 ∨ v = 20) (L : Lay v c w) (r : Int32) : s80 r w = (fn_78_2 cm_N (30 - v) r 0 w).bind fun w93 => fn_80_48 cm_N 4 r 1 0 w93 := by
  have hu : 30 - v = 10 ∨ 30 - v = 20 := by omega
  rw [s80, if_pos (LD L).1, bd L.2.2.2.2.2.2.2.1, if_pos (LV L hu).1]
  rfl
/-- a person's name, by the reference -/
theorem who215 (R : RX v c b n s x0 x q) (h14 : cm_I x 96 14 = nI P) (hP : P ≤ 12) (hw : ∀ k, k < P → wdx (cm_L x 99 (12 + k)) = -1) : ((if nmok b n (sk b n q) = true then fnd (fun k => cm_L x 99 (12 + k)) (vl b n (sk b n q)) P 0 else -1) = -1 → ∃ z, fn_215 96 x = some (false, z) ∧ FX v c x z ∧ RX v c b n s x0 z (sk b n q)) ∧ (∀ k, k < P → (if nmok b n (sk b n q) = true then fnd (fun k => cm_L x 99 (12 + k)) (vl b n (sk b n q)) P 0 else -1) = nI k → ∃ z, fn_215 96 x = fn_215_48 cm_N 96 (nI k) (nI (8 * (12 + k))) (nI 0) z ∧ FX v c x z ∧ RX v c b n s x0 z (sk b n q + ln b n (sk b n q))) := by
  obtain ⟨y, a1, F, h11, h36, -⟩ := word_ok R.L R.2.1 R.2.2.2 R.2.2.1
  have pn := sk_le (b := b) R.2.2.2
  generalize sk b n q = p at *
  have R1 := R.X F h11 pn
  have LY := F.1
  have f9 := find210 LY (by rw [F.2.2.1 14 (by omega) (by omega) (by omega)]; exact h14) hP (wv b n p)
  rw [F.2.2.2] at f9
  have e15 : fn_215 96 x = if ¬ (lg_cmp (wv b n p) (0 : Int64)) = 0 then fn_215_15 96 (wv b n p) y else some (false, y) := by
    rw [fn_215, if_pos (LM R.L).1, bd a1]
  by_cases w0 : wv b n p = 0
  · have nm : ¬ nmok b n p = true := fun h => by
      obtain ⟨h1, h2, h3⟩ := of_decide_eq_true h
      exact wv_0.mp w0 ⟨h1, h3⟩
    rw [if_neg nm]
    refine ⟨fun _ => ⟨y, ?_, F, R1⟩, fun k hk h => ?_⟩
    · rw [e15, if_neg (fun h => h ((lgc_eq _ _).mpr w0))]
    · exact absurd h.symm (nI_n1 (by omega))
  · obtain ⟨k1, l8⟩ : kd b n p = 1 ∧ ln b n p ≤ 8 := by
      by_cases z : kd b n p = 1 ∧ ln b n p ≤ 8
      · exact z
      · exact absurd (wv_0.mpr z) w0
    have ww := wdx_wv b n p
    have vv := wv_vl k1 l8
    rw [← vv]
    have fe : (if nmok b n p = true then fnd (fun k => cm_L x 99 (12 + k)) (wv b n p) P 0 else -1) = fnd (fun k => cm_L x 99 (12 + k)) (wv b n p) P 0 := by
      by_cases wk : wd b n p = -1
      · rw [if_pos (show nmok b n p = true from decide_eq_true ⟨k1, wk, l8⟩)]
      · rw [if_neg (fun h => wk (of_decide_eq_true h).2.1)]
        refine (fnd_no P 0 fun j _ hj e => wk ?_).symm
        rw [← ww, ← e]
        exact hw j (by omega)
    rw [fe]
    rw [wl_1 k1] at h36
    rw [if_pos (show ¬ lg_cmp (wv b n p) 0 = 0 from fun h => w0 ((lgc_eq _ _).mp h)), fn_215_15, if_pos (LM LY).1, bd f9] at e15
    refine ⟨fun h => ⟨y, ?_, F, R1⟩, fun k hk h => ⟨cm_sI y 96 11 (nI (p + ln b n p)), ?_, F.sI (by omega), R.X (F.sI (by omega)) I_eq (ln_pos (b := b) (n := n) (p := p) (Or.inl k1)).2⟩⟩
    · rw [e15, h, if_neg (fun h => h rfl)]
    · rw [e15, h, if_pos (nI_n1 (by omega)), fn_215_28, if_pos (LM LY).1, if_pos (show cm_w2 96 143 96 = true from rfl), h36, show (12 : Int32) + nI k = nI (12 + k) from nI_al 12 k, show (8 : Int32) * nI (12 + k) = nI (8 * (12 + k)) from nI_lm 8 (12 + k)]
      rfl
theorem SF7 {w1 : cm_W} (hv : v = 10 ∨ v = 20) (S : SR v c v' c' b n s w0 x0 w x p t P Q m) (A : FA v c w y1) (G : G7 v c y1 w1) {p1 pf q1 : Nat} (C : CR b n y1 p1 (nI pf)) (R : RX v' c' b n s x0 z1 q1) (e : sk b n q1 = pf) : SF v c v' c' b n s w0 x0 w1 z1 := by
  have hu : 30 - v = 10 ∨ 30 - v = 20 := by omega
  obtain ⟨s1, s2, s3, s4⟩ := SF.mk hv S A.1 (S.1.2.1.A hv A) A.U C R e
  refine ⟨G.1, s2.tr fun a ha => ⟨fun j => G.2.1 a (by omega) j, fun j => by rw [G.2.2]⟩, ?_, p1, q1, ?_, R⟩
  · unfold WD
    rw [G.2.1 _ (by omega), G.2.1 _ (by omega), G.2.1 _ (by omega), G.2.1 _ (by omega), G.2.1 _ (by omega), G.2.1 _ (by omega)]
    exact s3
  · rw [e]; exact G.CR hv C
theorem fills_sim (hv : v = 10 ∨ v = 20) (hn : n ≤ 900) (hnb : ∀ j, j < n → vp_nar .byte (b j) = b j) (S : SR v c v' c' b n s w0 x0 w x p t P Q m) : ∃ w1 r x1, fn_80 4 w = some w1 ∧ fn_215 96 x = some (r, x1) ∧ ((r = true ∧ ∃ p', SR v c v' c' b n s w0 x0 w1 x1 p' t P Q m) ∨ (r = false ∧ SF v c v' c' b n s w0 x0 w1 x1)) := by
  have hu : 30 - v = 10 ∨ 30 - v = 20 := by omega
  obtain ⟨⟨L, FW, C⟩, ⟨q, R, hq⟩, T, Pp, H, Qq, D⟩ := id S
  have hP := Pp.1
  have pn := C.le
  have hs1 : cm_sh w (30 - v + 4) = some (.inr (.long, 12)) := by
    rcases hu with e | e <;> rw [e] <;> exact (L.sh (by decide) (by decide)).trans rfl
  have e := find68 L C hn (a1 := 30 - v + 4) (S := 12) hs1 Pp.1 (by omega)
  rw [fnd_cg (h := fun k => cm_L x 99 (12 + k)) P 0 (fun j _ hj => (Pp.2.2.2.2 j (by omega)).2.2.1)] at e
  obtain ⟨o1, o2⟩ := who215 R Pp.2.2.2.1 Pp.1 (fun k hk => (Pp.2.2.2.2 k hk).2.2.2.1)
  rw [hq] at o1 o2
  have e8 := e80 hv L Pp.2.1 e
  rcases fnd_rg (g := fun k => cm_L x 99 (12 + k)) (X := vl b n p) P 0 with h | ⟨i, h1, h2, h3, -⟩
  · have bad : (if nmok b n p = true then fnd (fun k => cm_L x 99 (12 + k)) (vl b n p) P 0 else -1) = -1 := by
      rw [h]; exact ite_self _
    rw [bad] at e8
    obtain ⟨z1, a1, a2, a3⟩ := o1 bad
    obtain ⟨y1, b1, b2, b3⟩ := acc0 L C
    have h2' : cm_I y1 (30 - v + 5) 2 = nI P := by rw [b2.2.1 _ (by omega)]; exact Pp.2.1
    obtain ⟨w1, c1, Gw⟩ := it_f hv hn hnb b2.1 b3 (nI_n1 (by omega)) h2' hP (t := t) (by rw [b2.2.1 _ (by omega)]; exact T.2.1) T.1 (N := 99998) (-1) (k := 0) (by omega)
    refine ⟨w1, false, z1, ?_, a1, Or.inr ⟨rfl, SF7 hv S b2 Gw b3 a3 (sk_p C)⟩⟩
    rw [e8, if_pos rfl, bd b1, s80_e hv b2.1, show (0 : Int32) = nI 0 from rfl, z78m b2.1 hu h2' hP 8 0 rfl cm_N (by unfold cm_N; omega), Option.bind_some]
    exact c1
  · by_cases nm : nmok b n p = true
    rotate_left
    · rw [if_neg nm] at e8 o1
      obtain ⟨z1, a1, a2, a3⟩ := o1 rfl
      obtain ⟨y1, b1, b2, b3⟩ := acc0 L C
      have h2' : cm_I y1 (30 - v + 5) 2 = nI P := by rw [b2.2.1 _ (by omega)]; exact Pp.2.1
      obtain ⟨w1, c1, Gw⟩ := it_f hv hn hnb b2.1 b3 (nI_n1 (by omega)) h2' hP (t := t) (by rw [b2.2.1 _ (by omega)]; exact T.2.1) T.1 (N := 99998) (-1) (k := 0) (by omega)
      refine ⟨w1, false, z1, ?_, a1, Or.inr ⟨rfl, SF7 hv S b2 Gw b3 a3 (sk_p C)⟩⟩
      rw [e8, if_pos rfl, bd b1, s80_e hv b2.1, show (0 : Int32) = nI 0 from rfl, z78m b2.1 hu h2' hP 8 0 rfl cm_N (by unfold cm_N; omega), Option.bind_some]
      exact c1
    have kp : kd b n p = 1 := (of_decide_eq_true nm).1
    obtain ⟨y1, b1, F1, C1⟩ := acc1 L C (kd_lt (b := b) (n := n) (p := p) (by omega))
    rw [if_pos nm, h3, if_neg (nI_n1 (by omega)), bd b1, s80_e hv F1.1] at e8
    obtain ⟨z1, a1, G1, R1⟩ := o2 i (by omega) (by rw [if_pos nm]; exact h3)
    have hi : i < P := by omega
    have h2' : cm_I y1 (30 - v + 5) 2 = nI P := by rw [F1.2.1 _ (by omega)]; exact Pp.2.1
    obtain ⟨y2, c1, L2, c3, c4, c5⟩ := z78 hu hP hi 8 0 rfl y1 cm_N (by unfold cm_N; omega) F1.1 h2'
    obtain ⟨z2, d1, R2, d3, d4, d5⟩ := z215 (b := b) (n := n) (s := s) (x0 := x0) (show i < 12 by omega) 8 0 rfl z1 cm_N (by unfold cm_N; omega) R1
    have L3 := R2.L
    have R3 : RX v' c' b n s x0 (cm_sI z2 106 (12 + i) 1) (p + ln b n p) := R2.sI (by omega) rfl
    have g106 : cm_ga z2 .int 106 (nI (12 + i)) = true := by
      rw [ga_of (n := 24) ((L3.sh (a := 106) (by decide) (by decide)).trans rfl)]
      exact iin_nI (by omega) (by decide)
    have e72 : fn_215 96 x = fn_215_82 cm_N 96 (nI (8 * (12 + i))) (cm_sI z2 106 (12 + i) 1) := by
      rw [a1, d1, fn_215_72, if_pos (LM L3).1, bd (show cm_R z2 96 28 = some 106 from L3.R rfl), show (12 : Int32) + nI i = nI (12 + i) from nI_al 12 i, if_pos g106, if_pos (show cm_w2 96 143 106 = true from rfl), tn_nI (by omega)]
    -- what stays
    have Ty := T.cg hu F1.U G1.U
    have Py := Pp.cg hu F1.U G1.U
    have Hy := H.cg hu F1.U G1.U
    have Qy := Qq.cg hu F1.U G1.U
    have Dy := D.cg hu F1.U G1.U
    have xI : ∀ a j, a ≠ 106 → a ≠ 107 → cm_I (cm_sI z2 106 (12 + i) 1) a j = cm_I z1 a j := fun a j h h' => by rw [I_ne h, d3 a j (by omega)]
    have xL : ∀ a j, cm_L (cm_sI z2 106 (12 + i) 1) a j = cm_L z1 a j := fun a j => by rw [L_sI, d4]
    have yI : ∀ a j, a ≠ 30 - v + 7 → cm_I y2 a j = cm_I y1 a j := fun a j h => c3 a j (by omega)
    have yL : ∀ a j, cm_L y2 a j = cm_L y1 a j := fun a j => by rw [c4]
    obtain ⟨h1, h2, h3'⟩ := Hy
    have y7 : ∀ e, e ≠ i → ∀ j, j < 8 → cm_I y2 (30 - v + 7) (8 * e + j) = cm_I y1 (30 - v + 7) (8 * e + j) := fun e he j hj => c3 _ _ (by omega)
    have F0 : FI v c v' c' b n s w0 x0 y2 (cm_sI z2 106 (12 + i) 1) (nxt b n p) t P Q m i 0 := by
      refine ⟨⟨L2, (FW.A hv F1).tr fun a ha => ⟨fun j => yI a j (by omega), fun j => yL a j⟩, C1.eq (fun j _ _ => yI 4 j (by omega)) (fun a h1 h2 j => yI a j (by omega)) (fun j => yL 8 j)⟩, ⟨_, R3, rfl⟩, ⟨?_, ?_, ?_, ?_⟩, fun e he j hj => ?_, fun e he he2 j hj => ?_, fun e he hne => ?_, I_eq, fun j hj => ?_, ?_⟩
      · exact Ty.c2 (fun j => yI _ _ (by omega)) (fun j => yI _ _ (by omega)) (fun j => yL _ _) (xI _ _ (by omega) (by omega)) (fun a j h1 h2 => xI _ _ (by omega) (by omega)) (fun j => xL _ _)
      · exact Py.c2 (fun j => yI _ _ (by omega)) (fun j => yI _ _ (by omega)) (fun j => yL _ _) (xI _ _ (by omega) (by omega)) (fun a j h1 h2 => xI _ _ (by omega) (by omega)) (fun j => xL _ _)
      · exact Qy.c2 (fun j => yI _ _ (by omega)) (fun j => yI _ _ (by omega)) (xI _ _ (by omega) (by omega)) (fun a j h1 h2 => xI _ _ (by omega) (by omega))
      · exact Dy.c2 (fun j => yI _ _ (by omega)) (fun j h1 h2 => xI _ _ (by omega) (by omega))
      · by_cases z : e = i
        · subst z
          rw [c5 j (by omega) hj]
          exact ⟨⟨0, by omega, rfl⟩, fun _ => rfl⟩
        · rw [y7 e z j hj]; exact h1 e he j hj
      · rw [y7 e (by omega) j hj]; exact h2 e he he2 j hj
      · have e1 : cm_I (cm_sI z2 106 (12 + i) 1) 106 (12 + e) = cm_I z1 106 (12 + e) := by rw [I_nk (by omega), d3 _ _ (by omega)]
        have e2 : ∀ j, j < 8 → cm_I (cm_sI z2 106 (12 + i) 1) 107 (8 * (12 + e) + j) = cm_I z1 107 (8 * (12 + e) + j) := fun j hj => by rw [I_ne (by omega), d3 _ _ (by omega)]
        rw [e1]
        rcases h3' e he with ⟨b1, b2, j, b3, b4⟩ | ⟨b1, b2⟩
        · have := Ty.1
          exact Or.inl ⟨b1, fun j hj => by rw [e2 j hj, y7 e hne j hj]; exact b2 j hj, j, b3, by rw [y7 e hne j (by omega)]; exact b4⟩
        · exact Or.inr ⟨b1, fun j hj => by rw [y7 e hne j hj]; exact b2 j hj⟩
      · rw [I_ne (by omega), d5 j (by omega) hj, c5 j (by omega) hj]
      · exact cnz_0 fun j hj => c5 j (by omega) hj
    obtain ⟨w1, r, x1, g1, g2, g3⟩ := fl_loop hv hn hnb hi 9 0 rfl y2 (cm_sI z2 106 (12 + i) 1) (nxt b n p) cm_N cm_N (by unfold cm_N; omega) (by unfold cm_N; omega) F0
    refine ⟨w1, r, x1, ?_, by rw [e72]; exact g2, g3⟩
    rw [e8, bd (show fn_78_2 cm_N (30 - v) (nI i) 0 y1 = some y2 from c1)]
    exact g1
end FILLS4
