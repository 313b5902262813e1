/-! the world behind the constructors: both objects tell the same -/
section BEGIN
variable {w : cm_W} {xs : Nat → Int32} {L : Nat}
theorem ly_Ra (a k : Nat) : ly_R (a + 143) k = none := by rfl
theorem ly_Rf : (List.range 143).all (fun a => (List.range 78).all (fun k => match ly_R a k with
  | some x => ly_r.elem (a, k, x)
  | none => true)) = true := by decide +kernel
theorem ly_Rk (a k : Nat) (h : a < 143) : ly_R a (k + 78) = none := by
  by_cases h0_143 : a < 71
  · by_cases h0_71 : a < 35
    · by_cases h0_35 : a < 17
      · by_cases h0_17 : a < 8
        · by_cases h0_8 : a < 4
          · by_cases h0_4 : a < 2
            · by_cases h0_2 : a < 1
              · obtain rfl : a = 0 := by omega
                rfl
              · obtain rfl : a = 1 := by omega
                rfl
            · by_cases h2_4 : a < 3
              · obtain rfl : a = 2 := by omega
                rfl
              · obtain rfl : a = 3 := by omega
                rfl
          · by_cases h4_8 : a < 6
            · by_cases h4_6 : a < 5
              · obtain rfl : a = 4 := by omega
                rfl
              · obtain rfl : a = 5 := by omega
                rfl
            · by_cases h6_8 : a < 7
              · obtain rfl : a = 6 := by omega
                rfl
              · obtain rfl : a = 7 := by omega
                rfl
        · by_cases h8_17 : a < 12
          · by_cases h8_12 : a < 10
            · by_cases h8_10 : a < 9
              · obtain rfl : a = 8 := by omega
                rfl
              · obtain rfl : a = 9 := by omega
                rfl
            · by_cases h10_12 : a < 11
              · obtain rfl : a = 10 := by omega
                rfl
              · obtain rfl : a = 11 := by omega
                rfl
          · by_cases h12_17 : a < 14
            · by_cases h12_14 : a < 13
              · obtain rfl : a = 12 := by omega
                rfl
              · obtain rfl : a = 13 := by omega
                rfl
            · by_cases h14_17 : a < 15
              · obtain rfl : a = 14 := by omega
                rfl
              · by_cases h15_17 : a < 16
                · obtain rfl : a = 15 := by omega
                  rfl
                · obtain rfl : a = 16 := by omega
                  rfl
      · by_cases h17_35 : a < 26
        · by_cases h17_26 : a < 21
          · by_cases h17_21 : a < 19
            · by_cases h17_19 : a < 18
              · obtain rfl : a = 17 := by omega
                rfl
              · obtain rfl : a = 18 := by omega
                rfl
            · by_cases h19_21 : a < 20
              · obtain rfl : a = 19 := by omega
                rfl
              · obtain rfl : a = 20 := by omega
                rfl
          · by_cases h21_26 : a < 23
            · by_cases h21_23 : a < 22
              · obtain rfl : a = 21 := by omega
                rfl
              · obtain rfl : a = 22 := by omega
                rfl
            · by_cases h23_26 : a < 24
              · obtain rfl : a = 23 := by omega
                rfl
              · by_cases h24_26 : a < 25
                · obtain rfl : a = 24 := by omega
                  rfl
                · obtain rfl : a = 25 := by omega
                  rfl
        · by_cases h26_35 : a < 30
          · by_cases h26_30 : a < 28
            · by_cases h26_28 : a < 27
              · obtain rfl : a = 26 := by omega
                rfl
              · obtain rfl : a = 27 := by omega
                rfl
            · by_cases h28_30 : a < 29
              · obtain rfl : a = 28 := by omega
                rfl
              · obtain rfl : a = 29 := by omega
                rfl
          · by_cases h30_35 : a < 32
            · by_cases h30_32 : a < 31
              · obtain rfl : a = 30 := by omega
                rfl
              · obtain rfl : a = 31 := by omega
                rfl
            · by_cases h32_35 : a < 33
              · obtain rfl : a = 32 := by omega
                rfl
              · by_cases h33_35 : a < 34
                · obtain rfl : a = 33 := by omega
                  rfl
                · obtain rfl : a = 34 := by omega
                  rfl
    · by_cases h35_71 : a < 53
      · by_cases h35_53 : a < 44
        · by_cases h35_44 : a < 39
          · by_cases h35_39 : a < 37
            · by_cases h35_37 : a < 36
              · obtain rfl : a = 35 := by omega
                rfl
              · obtain rfl : a = 36 := by omega
                rfl
            · by_cases h37_39 : a < 38
              · obtain rfl : a = 37 := by omega
                rfl
              · obtain rfl : a = 38 := by omega
                rfl
          · by_cases h39_44 : a < 41
            · by_cases h39_41 : a < 40
              · obtain rfl : a = 39 := by omega
                rfl
              · obtain rfl : a = 40 := by omega
                rfl
            · by_cases h41_44 : a < 42
              · obtain rfl : a = 41 := by omega
                rfl
              · by_cases h42_44 : a < 43
                · obtain rfl : a = 42 := by omega
                  rfl
                · obtain rfl : a = 43 := by omega
                  rfl
        · by_cases h44_53 : a < 48
          · by_cases h44_48 : a < 46
            · by_cases h44_46 : a < 45
              · obtain rfl : a = 44 := by omega
                rfl
              · obtain rfl : a = 45 := by omega
                rfl
            · by_cases h46_48 : a < 47
              · obtain rfl : a = 46 := by omega
                rfl
              · obtain rfl : a = 47 := by omega
                rfl
          · by_cases h48_53 : a < 50
            · by_cases h48_50 : a < 49
              · obtain rfl : a = 48 := by omega
                rfl
              · obtain rfl : a = 49 := by omega
                rfl
            · by_cases h50_53 : a < 51
              · obtain rfl : a = 50 := by omega
                rfl
              · by_cases h51_53 : a < 52
                · obtain rfl : a = 51 := by omega
                  rfl
                · obtain rfl : a = 52 := by omega
                  rfl
      · by_cases h53_71 : a < 62
        · by_cases h53_62 : a < 57
          · by_cases h53_57 : a < 55
            · by_cases h53_55 : a < 54
              · obtain rfl : a = 53 := by omega
                rfl
              · obtain rfl : a = 54 := by omega
                rfl
            · by_cases h55_57 : a < 56
              · obtain rfl : a = 55 := by omega
                rfl
              · obtain rfl : a = 56 := by omega
                rfl
          · by_cases h57_62 : a < 59
            · by_cases h57_59 : a < 58
              · obtain rfl : a = 57 := by omega
                rfl
              · obtain rfl : a = 58 := by omega
                rfl
            · by_cases h59_62 : a < 60
              · obtain rfl : a = 59 := by omega
                rfl
              · by_cases h60_62 : a < 61
                · obtain rfl : a = 60 := by omega
                  rfl
                · obtain rfl : a = 61 := by omega
                  rfl
        · by_cases h62_71 : a < 66
          · by_cases h62_66 : a < 64
            · by_cases h62_64 : a < 63
              · obtain rfl : a = 62 := by omega
                rfl
              · obtain rfl : a = 63 := by omega
                rfl
            · by_cases h64_66 : a < 65
              · obtain rfl : a = 64 := by omega
                rfl
              · obtain rfl : a = 65 := by omega
                rfl
          · by_cases h66_71 : a < 68
            · by_cases h66_68 : a < 67
              · obtain rfl : a = 66 := by omega
                rfl
              · obtain rfl : a = 67 := by omega
                rfl
            · by_cases h68_71 : a < 69
              · obtain rfl : a = 68 := by omega
                rfl
              · by_cases h69_71 : a < 70
                · obtain rfl : a = 69 := by omega
                  rfl
                · obtain rfl : a = 70 := by omega
                  rfl
  · by_cases h71_143 : a < 107
    · by_cases h71_107 : a < 89
      · by_cases h71_89 : a < 80
        · by_cases h71_80 : a < 75
          · by_cases h71_75 : a < 73
            · by_cases h71_73 : a < 72
              · obtain rfl : a = 71 := by omega
                rfl
              · obtain rfl : a = 72 := by omega
                rfl
            · by_cases h73_75 : a < 74
              · obtain rfl : a = 73 := by omega
                rfl
              · obtain rfl : a = 74 := by omega
                rfl
          · by_cases h75_80 : a < 77
            · by_cases h75_77 : a < 76
              · obtain rfl : a = 75 := by omega
                rfl
              · obtain rfl : a = 76 := by omega
                rfl
            · by_cases h77_80 : a < 78
              · obtain rfl : a = 77 := by omega
                rfl
              · by_cases h78_80 : a < 79
                · obtain rfl : a = 78 := by omega
                  rfl
                · obtain rfl : a = 79 := by omega
                  rfl
        · by_cases h80_89 : a < 84
          · by_cases h80_84 : a < 82
            · by_cases h80_82 : a < 81
              · obtain rfl : a = 80 := by omega
                rfl
              · obtain rfl : a = 81 := by omega
                rfl
            · by_cases h82_84 : a < 83
              · obtain rfl : a = 82 := by omega
                rfl
              · obtain rfl : a = 83 := by omega
                rfl
          · by_cases h84_89 : a < 86
            · by_cases h84_86 : a < 85
              · obtain rfl : a = 84 := by omega
                rfl
              · obtain rfl : a = 85 := by omega
                rfl
            · by_cases h86_89 : a < 87
              · obtain rfl : a = 86 := by omega
                rfl
              · by_cases h87_89 : a < 88
                · obtain rfl : a = 87 := by omega
                  rfl
                · obtain rfl : a = 88 := by omega
                  rfl
      · by_cases h89_107 : a < 98
        · by_cases h89_98 : a < 93
          · by_cases h89_93 : a < 91
            · by_cases h89_91 : a < 90
              · obtain rfl : a = 89 := by omega
                rfl
              · obtain rfl : a = 90 := by omega
                rfl
            · by_cases h91_93 : a < 92
              · obtain rfl : a = 91 := by omega
                rfl
              · obtain rfl : a = 92 := by omega
                rfl
          · by_cases h93_98 : a < 95
            · by_cases h93_95 : a < 94
              · obtain rfl : a = 93 := by omega
                rfl
              · obtain rfl : a = 94 := by omega
                rfl
            · by_cases h95_98 : a < 96
              · obtain rfl : a = 95 := by omega
                rfl
              · by_cases h96_98 : a < 97
                · obtain rfl : a = 96 := by omega
                  rfl
                · obtain rfl : a = 97 := by omega
                  rfl
        · by_cases h98_107 : a < 102
          · by_cases h98_102 : a < 100
            · by_cases h98_100 : a < 99
              · obtain rfl : a = 98 := by omega
                rfl
              · obtain rfl : a = 99 := by omega
                rfl
            · by_cases h100_102 : a < 101
              · obtain rfl : a = 100 := by omega
                rfl
              · obtain rfl : a = 101 := by omega
                rfl
          · by_cases h102_107 : a < 104
            · by_cases h102_104 : a < 103
              · obtain rfl : a = 102 := by omega
                rfl
              · obtain rfl : a = 103 := by omega
                rfl
            · by_cases h104_107 : a < 105
              · obtain rfl : a = 104 := by omega
                rfl
              · by_cases h105_107 : a < 106
                · obtain rfl : a = 105 := by omega
                  rfl
                · obtain rfl : a = 106 := by omega
                  rfl
    · by_cases h107_143 : a < 125
      · by_cases h107_125 : a < 116
        · by_cases h107_116 : a < 111
          · by_cases h107_111 : a < 109
            · by_cases h107_109 : a < 108
              · obtain rfl : a = 107 := by omega
                rfl
              · obtain rfl : a = 108 := by omega
                rfl
            · by_cases h109_111 : a < 110
              · obtain rfl : a = 109 := by omega
                rfl
              · obtain rfl : a = 110 := by omega
                rfl
          · by_cases h111_116 : a < 113
            · by_cases h111_113 : a < 112
              · obtain rfl : a = 111 := by omega
                rfl
              · obtain rfl : a = 112 := by omega
                rfl
            · by_cases h113_116 : a < 114
              · obtain rfl : a = 113 := by omega
                rfl
              · by_cases h114_116 : a < 115
                · obtain rfl : a = 114 := by omega
                  rfl
                · obtain rfl : a = 115 := by omega
                  rfl
        · by_cases h116_125 : a < 120
          · by_cases h116_120 : a < 118
            · by_cases h116_118 : a < 117
              · obtain rfl : a = 116 := by omega
                rfl
              · obtain rfl : a = 117 := by omega
                rfl
            · by_cases h118_120 : a < 119
              · obtain rfl : a = 118 := by omega
                rfl
              · obtain rfl : a = 119 := by omega
                rfl
          · by_cases h120_125 : a < 122
            · by_cases h120_122 : a < 121
              · obtain rfl : a = 120 := by omega
                rfl
              · obtain rfl : a = 121 := by omega
                rfl
            · by_cases h122_125 : a < 123
              · obtain rfl : a = 122 := by omega
                rfl
              · by_cases h123_125 : a < 124
                · obtain rfl : a = 123 := by omega
                  rfl
                · obtain rfl : a = 124 := by omega
                  rfl
      · by_cases h125_143 : a < 134
        · by_cases h125_134 : a < 129
          · by_cases h125_129 : a < 127
            · by_cases h125_127 : a < 126
              · obtain rfl : a = 125 := by omega
                rfl
              · obtain rfl : a = 126 := by omega
                rfl
            · by_cases h127_129 : a < 128
              · obtain rfl : a = 127 := by omega
                rfl
              · obtain rfl : a = 128 := by omega
                rfl
          · by_cases h129_134 : a < 131
            · by_cases h129_131 : a < 130
              · obtain rfl : a = 129 := by omega
                rfl
              · obtain rfl : a = 130 := by omega
                rfl
            · by_cases h131_134 : a < 132
              · obtain rfl : a = 131 := by omega
                rfl
              · by_cases h132_134 : a < 133
                · obtain rfl : a = 132 := by omega
                  rfl
                · obtain rfl : a = 133 := by omega
                  rfl
        · by_cases h134_143 : a < 138
          · by_cases h134_138 : a < 136
            · by_cases h134_136 : a < 135
              · obtain rfl : a = 134 := by omega
                rfl
              · obtain rfl : a = 135 := by omega
                rfl
            · by_cases h136_138 : a < 137
              · obtain rfl : a = 136 := by omega
                rfl
              · obtain rfl : a = 137 := by omega
                rfl
          · by_cases h138_143 : a < 140
            · by_cases h138_140 : a < 139
              · obtain rfl : a = 138 := by omega
                rfl
              · obtain rfl : a = 139 := by omega
                rfl
            · by_cases h140_143 : a < 141
              · obtain rfl : a = 140 := by omega
                rfl
              · by_cases h141_143 : a < 142
                · obtain rfl : a = 141 := by omega
                  rfl
                · obtain rfl : a = 142 := by omega
                  rfl
theorem ly_Rr {a k x : Nat} (h : ly_R a k = some x) : (a, k, x) ∈ ly_r := by
  by_cases ha : a < 143
  · by_cases hk : k < 78
    · have := List.all_eq_true.mp (List.all_eq_true.mp ly_Rf a (List.mem_range.mpr ha)) k (List.mem_range.mpr hk)
      rw [h] at this
      exact List.mem_of_elem_eq_true this
    · obtain ⟨j, rfl⟩ : ∃ j, k = j + 78 := ⟨k - 78, by omega⟩
      rw [ly_Rk a j ha] at h
      cases h
  · obtain ⟨j, rfl⟩ : ∃ j, a = j + 143 := ⟨a - 143, by omega⟩
    rw [ly_Ra j k] at h
    cases h
theorem st_F (h : lw_st xs L w) {a k : Nat} {ci : Nat} (h2 : 2 ≤ a) (h3 : a < 143) (hs : ly_s a = some (.inl ci)) (hk : k < 78) : cm_I w a k = ly_iv a k := (h.1.2.2.2.1 a ci k h2 h3 hs hk).1
theorem st_L (h : lw_st xs L w) {a k : Nat} {ci : Nat} (h2 : 2 ≤ a) (h3 : a < 143) (hs : ly_s a = some (.inl ci)) (hk : k < 78) : cm_L w a k = ly_lv a k := (h.1.2.2.2.1 a ci k h2 h3 hs hk).2
theorem lay0 (h : lw_st xs L w) : Lay 20 61 w := by
  have hR : ∀ {a k x : Nat}, (a, k, x) ∈ ly_r → cm_R w a k = some x := fun hm => h.1.2.2.1 _ hm
  exact ⟨Or.inr rfl, Or.inl rfl, h.1.1, h.1.2.1, ⟨h.2.2.1, h.2.2.2.2⟩, fun a k x hx => hR (ly_Rr hx), hR (by decide), hR (by decide), hR (by decide), hR (by decide)⟩
theorem gg0 (h : lw_st xs L w) : GG 20 61 w (cm_I w) := by
  have m : ∀ k, k < 78 → cm_I w 96 k = ly_iv 96 k := fun k hk => st_F h (by omega) (by omega) (ci := 11) rfl hk
  have n2 : ∀ k, k < 78 → cm_I w 2 k = ly_iv 2 k := fun k hk => st_F h (by omega) (by omega) (ci := 10) rfl hk
  have n20 : ∀ k, k < 78 → cm_I w 20 k = ly_iv 20 k := fun k hk => st_F h (by omega) (by omega) (ci := 9) rfl hk
  have n30 : ∀ k, k < 78 → cm_I w 30 k = ly_iv 30 k := fun k hk => st_F h (by omega) (by omega) (ci := 6) rfl hk
  have tb : ∀ a, (a = 12 ∨ a = 15 ∨ a = 18 ∨ a = 22 ∨ a = 25 ∨ a = 28 ∨ a = 31 ∨ a = 33 ∨ a = 35 ∨ a = 37 ∨ a = 64 ∨ a = 66 ∨ a = 68 ∨ a = 70 ∨ a = 75 ∨ a = 77 ∨ a = 79 ∨ a = 81 ∨ a = 86 ∨ a = 88 ∨ a = 90 ∨ a = 92) → ∀ k, k < 78 → cm_I w a k = ly_iv a k := fun a ha k hk => by
    refine st_F h (by omega) (by omega) (ci := 7) ?_ hk
    rcases ha with rfl | rfl | rfl | rfl | rfl | rfl | rfl | rfl | rfl | rfl | rfl | rfl | rfl | rfl | rfl | rfl | rfl | rfl | rfl | rfl | rfl | rfl <;> rfl
  have z1 : cm_I w 96 1 = 0 := (m 1 (by omega)).trans rfl
  have z2 : cm_I w 96 2 = 0 := (m 2 (by omega)).trans rfl
  have z3 : cm_I w 96 3 = 0 := (m 3 (by omega)).trans rfl
  have z4 : cm_I w 96 4 = 0 := (m 4 (by omega)).trans rfl
  have z5 : cm_I w 96 5 = 8 := (m 5 (by omega)).trans rfl
  have z6 : cm_I w 96 6 = 8 := (m 6 (by omega)).trans rfl
  have z7 : cm_I w 96 7 = 6 := (m 7 (by omega)).trans rfl
  have z8 : cm_I w 96 8 = 0 := (m 8 (by omega)).trans rfl
  have z9 : cm_I w 96 9 = 0 := (m 9 (by omega)).trans rfl
  have z12 : cm_I w 96 12 = -1 := (m 12 (by omega)).trans rfl
  have z38 : cm_I w 96 38 = 0 := (m 38 (by omega)).trans rfl
  have z39 : cm_I w 96 39 = 0 := (m 39 (by omega)).trans rfl
  have z51 : cm_I w 96 51 = 0 := (m 51 (by omega)).trans rfl
  have z58 : cm_I w 96 58 = 0 := (m 58 (by omega)).trans rfl
  have z73 : cm_I w 96 73 = 0 := (m 73 (by omega)).trans rfl
  have nT' : nT (cm_I w) = 0 := by unfold nT; rw [z1]; rfl
  have nP' : nP (cm_I w) = 0 := by unfold nP; rw [z2]; rfl
  have nQ' : nQ (cm_I w) = 0 := by unfold nQ; rw [z3]; rfl
  have nM' : nM (cm_I w) = 0 := by unfold nM; rw [z8]; rfl
  have nB' : nB (cm_I w) = 0 := by unfold nB; rw [z38]; rfl
  have nR' : nR (cm_I w) = 0 := by unfold nR; rw [z39]; rfl
  have nL' : nL (cm_I w) = 0 := by unfold nL; rw [z51]; rfl
  have nK' : nK (cm_I w) = 0 := by unfold nK; rw [z58]; rfl
  have nA' : nA (cm_I w) = 0 := by unfold nA; rw [z9]; rfl
  have nG' : nG (cm_I w) = 0 := by unfold nG; rw [z73]; rfl
  have hd : ∀ i, i < 3 → (cm_I w (64 + 11 * i) 0 = 6 ∧ cm_I w (66 + 11 * i) 0 = 7 ∧ cm_I w (68 + 11 * i) 0 = 6 ∧ cm_I w (70 + 11 * i) 0 = 4) := fun i hi => by
    have : i = 0 ∨ i = 1 ∨ i = 2 := by omega
    rcases this with rfl | rfl | rfl
    · exact ⟨(tb 64 (by omega) 0 (by omega)).trans rfl, (tb 66 (by omega) 0 (by omega)).trans rfl, (tb 68 (by omega) 0 (by omega)).trans rfl, (tb 70 (by omega) 0 (by omega)).trans rfl⟩
    · exact ⟨(tb 75 (by omega) 0 (by omega)).trans rfl, (tb 77 (by omega) 0 (by omega)).trans rfl, (tb 79 (by omega) 0 (by omega)).trans rfl, (tb 81 (by omega) 0 (by omega)).trans rfl⟩
    · exact ⟨(tb 86 (by omega) 0 (by omega)).trans rfl, (tb 88 (by omega) 0 (by omega)).trans rfl, (tb 90 (by omega) 0 (by omega)).trans rfl, (tb 92 (by omega) 0 (by omega)).trans rfl⟩
  have hz : cm_L w 30 7 = cm_L w 96 71 := (st_L h (by omega) (by omega) (ci := 6) rfl (by omega)).trans ((show ly_lv 30 7 = ly_lv 96 71 from rfl).trans (st_L h (by omega) (by omega) (ci := 11) rfl (by omega)).symm)
  refine ⟨lay0 h, fun _ _ _ => rfl, ⟨⟨?_, ?_, ?_, fun k hk => ?_, fun k hk => ?_⟩, ⟨⟨?_, ?_, ?_, ?_, ?_, ?_, ?_⟩, ⟨?_, ?_, ?_⟩, fun k hk => ?_, fun k hk => ?_, fun k hk => ?_, fun k hk => ?_⟩, ⟨⟨?_, ?_, ?_, ?_, ?_⟩, ⟨?_, ?_, ?_, ?_⟩, fun k hk => ?_, fun k hk => ?_, fun k hk => ?_, fun k hk => ?_, fun k hk => ?_, fun k hk => ?_⟩, hd, fun i hi => ?_, ⟨?_, ?_, ?_⟩⟩, ⟨hz, fun i hi => ?_⟩, ⟨⟨?_, ?_⟩, ⟨?_, ?_⟩, ⟨?_, ?_⟩, ⟨?_, ?_, ?_⟩, fun k hk => ?_, fun k hk => ?_, fun k hk => ?_⟩, ⟨⟨?_, ?_⟩, ⟨?_, ?_⟩, ⟨?_, ?_⟩, ⟨?_, ?_⟩, ⟨?_, ?_⟩, fun k hk => ?_, ⟨fun _ => 0, fun k hk => ?_⟩, fun k hk => ?_, fun k hk => ?_, fun k hk => ?_, fun k hk => ?_⟩, ⟨?_, ?_⟩, ⟨?_, ?_⟩, fun i hi => ?_⟩
  · rw [z9]; exact (n2 1 (by omega)).trans rfl
  · rw [z12]; exact (n2 4 (by omega)).trans rfl
  · rw [z73]; exact (n2 7 (by omega)).trans rfl
  · obtain ⟨a1, a2⟩ := h.1.2.2.2.2 k hk
    exact a1.trans a2.symm
  · rw [nA'] at hk; omega
  · rw [z1]; exact (tb 22 (by omega) 2 (by omega)).trans rfl
  · rw [z2]; exact (tb 25 (by omega) 2 (by omega)).trans rfl
  · rw [z3]; exact (tb 28 (by omega) 2 (by omega)).trans rfl
  · rw [z4]; exact (n20 9 (by omega)).trans rfl
  · rw [z5]; exact (n20 6 (by omega)).trans rfl
  · rw [z6]; exact (n20 7 (by omega)).trans rfl
  · rw [z7]; exact (n20 8 (by omega)).trans rfl
  · exact (tb 22 (by omega) 0 (by omega)).trans rfl
  · exact (tb 25 (by omega) 0 (by omega)).trans rfl
  · exact (tb 28 (by omega) 0 (by omega)).trans rfl
  · rw [nT'] at hk; omega
  · rw [nP'] at hk; omega
  · rw [nP'] at hk; omega
  · rw [nQ'] at hk; omega
  · rw [z38]; exact (tb 31 (by omega) 2 (by omega)).trans rfl
  · rw [z39]; exact (tb 33 (by omega) 2 (by omega)).trans rfl
  · rw [z51]; exact (tb 35 (by omega) 2 (by omega)).trans rfl
  · rw [z58]; exact (tb 37 (by omega) 2 (by omega)).trans rfl
  · rw [z8]; exact (n30 6 (by omega)).trans rfl
  · exact (tb 31 (by omega) 0 (by omega)).trans rfl
  · exact (tb 33 (by omega) 0 (by omega)).trans rfl
  · exact (tb 35 (by omega) 0 (by omega)).trans rfl
  · exact (tb 37 (by omega) 0 (by omega)).trans rfl
  · rw [nB'] at hk; omega
  · rw [nR'] at hk; omega
  · rw [nL'] at hk; omega
  · rw [nK'] at hk; omega
  · rw [nB'] at hk; omega
  · rw [nP'] at hk; omega
  · rw [nG'] at hi; omega
  · exact (tb 12 (by omega) 0 (by omega)).trans rfl
  · exact (tb 15 (by omega) 0 (by omega)).trans rfl
  · exact (tb 18 (by omega) 0 (by omega)).trans rfl
  · rw [nG'] at hi; omega
  · rw [nT', z1]; rfl
  · rw [nT']; omega
  · rw [nP', z2]; rfl
  · rw [nP']; omega
  · rw [nQ', z3]; rfl
  · rw [nQ']; omega
  · rw [z5]; exact ⟨8, by omega, rfl⟩
  · rw [z6]; exact ⟨8, by omega, rfl⟩
  · rw [z7]; exact ⟨6, by omega, rfl⟩
  · rw [nT'] at hk; omega
  · rw [nP'] at hk; omega
  · rw [nQ'] at hk; omega
  · rw [nM', z8]; rfl
  · rw [nM']; omega
  · rw [nB', z38]; rfl
  · rw [nB']; omega
  · rw [nR', z39]; rfl
  · rw [nR']; omega
  · rw [nL', z51]; rfl
  · rw [nL']; omega
  · rw [nK', z58]; rfl
  · rw [nK']; omega
  · rw [nB'] at hk; omega
  · rw [nB'] at hk; omega
  · rw [nB'] at hk; omega
  · rw [nR'] at hk; omega
  · rw [nL'] at hk; omega
  · rw [nK'] at hk; omega
  · rw [nA', z9]; rfl
  · rw [nA']; omega
  · rw [nG', z73]; rfl
  · rw [nG']; omega
  · rw [nG'] at hi; omega
end BEGIN
