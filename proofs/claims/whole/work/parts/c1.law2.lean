/-! the law, all of it (printed by wip/gen/law2.py) -/
section LAW2
variable {v c L j : Nat} {w w1 w2 : cm_W} {s s' : St} {xs : Nat → Int32}
theorem lw_step (h : LWS xs L w) (hj : j + 6 ≤ L) (hL : L ≤ 3072) (N : Nat) : ∃ w2, LWS xs L w2 ∧ fn_300_18 (N + 1) 0 2 96 (nI j) w = fn_300_18 N 0 2 96 (nI (j + 6)) w2 := by
  obtain ⟨v, c, s, g, Nb, s0, x0⟩ := id h
  have e0 : cm_al w 0 = some L := al_of s0
  have g0 : cm_ga w .int 0 (nI j) = true := by
    rw [ga_of s0]; exact iin_nI (by omega) (by omega)
  have lt : ¬ Int32.ofNat L - (6 : Int32) < nI j := by
    have e : Int32.ofNat L - (6 : Int32) = nI (L - 6) := pk_sub (b := 6) (by omega)
    rw [e]
    intro z
    have := (nI_ltI (by omega) (by omega)).mp z
    omega
  rw [fn_300_18, bd e0, if_neg lt, if_pos g0]
  generalize hop : (cm_I w 0 (nI j).toNatClampNeg) &&& (63 : Int32) = op
  by_cases h0 : op = 0
  · rw [if_pos h0]
    exact lw_cf0 (K := fn_300_18 N) h hj hL
  rw [if_neg h0]
  by_cases h1 : op = 1
  · rw [if_pos h1]
    exact lw_c291 (K := fn_300_18 N) h hj hL
  rw [if_neg h1]
  by_cases h2 : op = 2
  · rw [if_pos h2]
    exact lw_c314 (K := fn_300_18 N) h hj hL
  rw [if_neg h2]
  by_cases h3 : op = 3
  · rw [if_pos h3]
    exact lw_c327 (K := fn_300_18 N) h hj hL
  rw [if_neg h3]
  by_cases h4 : op = 4
  · rw [if_pos h4]
    exact lw_c360 (K := fn_300_18 N) h hj hL
  rw [if_neg h4]
  by_cases h5 : op = 5
  · rw [if_pos h5]
    exact lw_c393 (K := fn_300_18 N) h hj hL
  rw [if_neg h5]
  by_cases h6 : op = 6
  · rw [if_pos h6]
    exact lw_c426 (K := fn_300_18 N) h hj hL
  rw [if_neg h6]
  by_cases h7 : op = 7
  · rw [if_pos h7]
    exact lw_c459 (K := fn_300_18 N) h hj hL
  rw [if_neg h7]
  by_cases h8 : op = 8
  · rw [if_pos h8]
    exact lw_c472 (K := fn_300_18 N) h hj hL
  rw [if_neg h8]
  by_cases h9 : op = 9
  · rw [if_pos h9]
    exact lw_c515 (K := fn_300_18 N) h hj hL
  rw [if_neg h9]
  by_cases h10 : op = 10
  · rw [if_pos h10]
    exact lw_c548 (K := fn_300_18 N) h hj hL
  rw [if_neg h10]
  by_cases h11 : op = 11
  · rw [if_pos h11]
    exact lw_c591 (K := fn_300_18 N) h hj hL
  rw [if_neg h11]
  by_cases h12 : op = 12
  · rw [if_pos h12]
    exact lw_c614 (K := fn_300_18 N) h hj hL
  rw [if_neg h12]
  by_cases h13 : op = 13
  · rw [if_pos h13]
    exact lw_c647 (K := fn_300_18 N) h hj hL
  rw [if_neg h13]
  by_cases h14 : op = 14
  · rw [if_pos h14]
    exact lw_c690 (K := fn_300_18 N) h hj hL
  rw [if_neg h14]
  by_cases h15 : op = 15
  · rw [if_pos h15]
    exact lw_c723 (K := fn_300_18 N) h hj hL
  rw [if_neg h15]
  by_cases h16 : op = 16
  · rw [if_pos h16]
    exact lw_c746 (K := fn_300_18 N) h hj hL
  rw [if_neg h16]
  by_cases h17 : op = 17
  · rw [if_pos h17]
    exact lw_c789 (K := fn_300_18 N) h hj hL
  rw [if_neg h17]
  by_cases h18 : op = 18
  · rw [if_pos h18]
    exact lw_c812 (K := fn_300_18 N) h hj hL
  rw [if_neg h18]
  by_cases h19 : op = 19
  · rw [if_pos h19]
    exact lw_c825 (K := fn_300_18 N) h hj hL
  rw [if_neg h19]
  by_cases h20 : op = 20
  · rw [if_pos h20]
    exact lw_c878 (K := fn_300_18 N) h hj hL
  rw [if_neg h20]
  by_cases h21 : op = 21
  · rw [if_pos h21]
    exact lw_c901 (K := fn_300_18 N) h hj hL
  rw [if_neg h21]
  by_cases h22 : op = 22
  · rw [if_pos h22]
    exact lw_c934 (K := fn_300_18 N) h hj hL
  rw [if_neg h22]
  by_cases h23 : op = 23
  · rw [if_pos h23]
    exact lw_c967 (K := fn_300_18 N) h hj hL
  rw [if_neg h23]
  by_cases h24 : op = 24
  · rw [if_pos h24]
    exact lw_c990 (K := fn_300_18 N) h hj hL
  rw [if_neg h24]
  by_cases h25 : op = 25
  · rw [if_pos h25]
    exact lw_c1013 (K := fn_300_18 N) h hj hL
  rw [if_neg h25]
  by_cases h26 : op = 26
  · rw [if_pos h26]
    exact lw_c1046 (K := fn_300_18 N) h hj hL
  rw [if_neg h26]
  by_cases h27 : op = 27
  · rw [if_pos h27]
    exact lw_c1099 (K := fn_300_18 N) h hj hL
  rw [if_neg h27]
  by_cases h28 : op = 28
  · rw [if_pos h28]
    exact lw_c1122 (K := fn_300_18 N) h hj hL
  rw [if_neg h28]
  by_cases h29 : op = 29
  · rw [if_pos h29]
    exact lw_c1185 (K := fn_300_18 N) h hj hL
  rw [if_neg h29]
  by_cases h30 : op = 30
  · rw [if_pos h30]
    exact lw_c1218 (K := fn_300_18 N) h hj hL
  rw [if_neg h30]
  by_cases h31 : op = 31
  · rw [if_pos h31]
    exact lw_c1241 (K := fn_300_18 N) h hj hL
  rw [if_neg h31]
  by_cases h32 : op = 32
  · rw [if_pos h32]
    exact lw_c1274 (K := fn_300_18 N) h hj hL
  rw [if_neg h32]
  by_cases h33 : op = 33
  · rw [if_pos h33]
    exact lw_c1317 (K := fn_300_18 N) h hj hL
  rw [if_neg h33]
  by_cases h34 : op = 34
  · rw [if_pos h34]
    exact lw_c1350 (K := fn_300_18 N) h hj hL
  rw [if_neg h34]
  by_cases h35 : op = 35
  · rw [if_pos h35]
    exact lw_c1403 (K := fn_300_18 N) h hj hL
  rw [if_neg h35]
  by_cases h36 : op = 36
  · rw [if_pos h36]
    exact lw_c1466 (K := fn_300_18 N) h hj hL
  rw [if_neg h36]
  by_cases h37 : op = 37
  · rw [if_pos h37]
    exact lw_c1509 (K := fn_300_18 N) h hj hL
  rw [if_neg h37]
  by_cases h38 : op = 38
  · rw [if_pos h38]
    exact lw_c1552 (K := fn_300_18 N) h hj hL
  rw [if_neg h38]
  by_cases h39 : op = 39
  · rw [if_pos h39]
    exact lw_c1595 (K := fn_300_18 N) h hj hL
  rw [if_neg h39]
  by_cases h40 : op = 40
  · rw [if_pos h40]
    exact lw_c1648 (K := fn_300_18 N) h hj hL
  rw [if_neg h40]
  by_cases h41 : op = 41
  · rw [if_pos h41]
    exact lw_c1691 (K := fn_300_18 N) h hj hL
  rw [if_neg h41]
  by_cases h42 : op = 42
  · rw [if_pos h42]
    exact lw_c1714 (K := fn_300_18 N) h hj hL
  rw [if_neg h42]
  by_cases h43 : op = 43
  · rw [if_pos h43]
    exact lw_c1727 (K := fn_300_18 N) h hj hL
  rw [if_neg h43]
  by_cases h44 : op = 44
  · rw [if_pos h44]
    exact lw_c1750 (K := fn_300_18 N) h hj hL
  rw [if_neg h44]
  exact ⟨w, h, by rw [fn_300_1773, show nI j + (6 : Int32) = nI (j + 6) from nI_add j 6]⟩
theorem lw_loop (hL : L ≤ 3072) : ∀ d j (w : cm_W) N, L < j + 6 + d → j ≤ L → d < N → LWS xs L w → ∃ w2, fn_300_18 N 0 2 96 (nI j) w = some (true, w2) ∧ LWS xs L w2 := by
  have fin : ∀ j (w : cm_W) N, L < j + 6 → j ≤ L → LWS xs L w → fn_300_18 (N + 1) 0 2 96 (nI j) w = some (true, w) := by
    intro j w N h1 h2 h
    obtain ⟨v, c, s, g, Nb, s0, x0⟩ := id h
    have e0 : cm_al w 0 = some L := al_of s0
    have lt : Int32.ofNat L - (6 : Int32) < nI j := by
      by_cases z : 6 ≤ L
      · have e : Int32.ofNat L - (6 : Int32) = nI (L - 6) := pk_sub (b := 6) z
        rw [e]
        exact (nI_ltI (by omega) (by omega)).mpr (by omega)
      · have : ∀ l : Fin 6, ∀ i : Fin 6, Int32.ofNat l.1 - (6 : Int32) < nI i.1 := by decide +kernel
        exact this ⟨L, by omega⟩ ⟨j, by omega⟩
    rw [fn_300_18, bd e0, if_pos lt]
  intro d
  induction d with
  | zero =>
    intro j w N h1 h2 h3 h
    obtain ⟨N, rfl⟩ : ∃ a, N = a + 1 := ⟨N - 1, by omega⟩
    exact ⟨w, fin j w N (by omega) h2 h, h⟩
  | succ d ih =>
    intro j w N h1 h2 h3 h
    obtain ⟨N, rfl⟩ : ∃ a, N = a + 1 := ⟨N - 1, by omega⟩
    by_cases z : L < j + 6
    · exact ⟨w, fin j w N z h2 h, h⟩
    · obtain ⟨w1, h4, e1⟩ := lw_step h (show j + 6 ≤ L by omega) hL N
      obtain ⟨w2, e2, h5⟩ := ih (j + 6) w1 N (by omega) (by omega) (by omega) h4
      exact ⟨w2, by rw [e1, e2], h5⟩
end LAW2
/-- the law's loop answers true, from the world behind both constructors -/
theorem lw_true (xs : Nat → Int32) (L : Nat) (hL : L ≤ 3072) (w : cm_W) (h : lw_st xs L w) (hN : NB w) : ∃ n w2, fn_300_18 n 0 2 96 0 w = some (true, w2) ∧ cm_sz w2 ≤ 600002 ∧ cm_ns w2 ≤ 7302249 := by
  obtain ⟨w2, e, v, c, s, g, -⟩ := lw_loop (xs := xs) hL L 0 w (L + 1) (by omega) (by omega) (by omega) ⟨20, 61, _, gg0 h, hN, h.2.1, h.2.2.2.1⟩
  refine ⟨L + 1, w2, e, ?_, ?_⟩
  · rw [g.1.2.2.2.1.1]; omega
  · rw [g.1.2.2.2.1.2]; omega
/-- the law in the clean machine -/
theorem lw_run0 (xs : Nat → Int32) (L : Nat) (hL : L ≤ 3072) : ∃ n w, cm_run cm_g n 300 0 [(0, .ref 0)] [] (lw_w0 xs L) = some (some (.int 1), w) ∧ cm_sz w ≤ 600002 ∧ cm_ns w ≤ 7302249 := lw_reduce2 xs L (lw_true xs L hL)
