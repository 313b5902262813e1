/-! the layout, as it stays: all but the two villages (v and 30 - v) and the two rows of coins (c and 123 - c), which change places (printed by wip/gen/lay40.py) -/
def ly_R (a k : Nat) : Option Nat := match a, k with
  | 2, 0 => some 3
  | 2, 2 => some 4
  | 2, 5 => some 30
  | 2, 6 => some 41
  | 2, 8 => some 42
  | 2, 9 => some 43
  | 2, 10 => some 46
  | 2, 11 => some 48
  | 2, 12 => some 51
  | 2, 13 => some 55
  | 2, 14 => some 58
  | 4, 0 => some 5
  | 4, 1 => some 6
  | 4, 2 => some 7
  | 4, 3 => some 8
  | 4, 4 => some 9
  | 10, 0 => some 11
  | 10, 1 => some 12
  | 10, 2 => some 14
  | 10, 3 => some 15
  | 10, 4 => some 17
  | 10, 5 => some 18
  | 12, 1 => some 13
  | 15, 1 => some 16
  | 18, 1 => some 19
  | 20, 0 => some 21
  | 20, 1 => some 22
  | 20, 2 => some 24
  | 20, 3 => some 25
  | 20, 4 => some 27
  | 20, 5 => some 28
  | 22, 1 => some 23
  | 25, 1 => some 26
  | 28, 1 => some 29
  | 30, 0 => some 31
  | 30, 1 => some 33
  | 30, 2 => some 35
  | 30, 3 => some 37
  | 30, 4 => some 39
  | 30, 5 => some 40
  | 31, 1 => some 32
  | 33, 1 => some 34
  | 35, 1 => some 36
  | 37, 1 => some 38
  | 41, 0 => some 63
  | 41, 1 => some 74
  | 41, 2 => some 85
  | 43, 0 => some 44
  | 43, 1 => some 45
  | 46, 0 => some 47
  | 48, 0 => some 49
  | 48, 1 => some 50
  | 51, 0 => some 52
  | 51, 1 => some 53
  | 51, 2 => some 54
  | 55, 0 => some 56
  | 55, 1 => some 57
  | 58, 0 => some 59
  | 58, 1 => some 60
  | 63, 0 => some 64
  | 63, 1 => some 66
  | 63, 2 => some 68
  | 63, 3 => some 70
  | 63, 4 => some 72
  | 63, 5 => some 73
  | 64, 1 => some 65
  | 66, 1 => some 67
  | 68, 1 => some 69
  | 70, 1 => some 71
  | 74, 0 => some 75
  | 74, 1 => some 77
  | 74, 2 => some 79
  | 74, 3 => some 81
  | 74, 4 => some 83
  | 74, 5 => some 84
  | 75, 1 => some 76
  | 77, 1 => some 78
  | 79, 1 => some 80
  | 81, 1 => some 82
  | 85, 0 => some 86
  | 85, 1 => some 88
  | 85, 2 => some 90
  | 85, 3 => some 92
  | 85, 4 => some 94
  | 85, 5 => some 95
  | 86, 1 => some 87
  | 88, 1 => some 89
  | 90, 1 => some 91
  | 92, 1 => some 93
  | 96, 0 => some 97
  | 96, 20 => some 98
  | 96, 21 => some 99
  | 96, 22 => some 100
  | 96, 23 => some 101
  | 96, 24 => some 102
  | 96, 25 => some 103
  | 96, 26 => some 104
  | 96, 27 => some 105
  | 96, 28 => some 106
  | 96, 29 => some 107
  | 96, 30 => some 108
  | 96, 31 => some 109
  | 96, 32 => some 110
  | 96, 33 => some 111
  | 96, 34 => some 112
  | 96, 35 => some 113
  | 96, 40 => some 114
  | 96, 41 => some 115
  | 96, 42 => some 116
  | 96, 43 => some 117
  | 96, 44 => some 118
  | 96, 45 => some 119
  | 96, 46 => some 120
  | 96, 47 => some 121
  | 96, 48 => some 122
  | 96, 49 => some 123
  | 96, 52 => some 124
  | 96, 53 => some 125
  | 96, 54 => some 126
  | 96, 55 => some 127
  | 96, 56 => some 128
  | 96, 57 => some 129
  | 96, 59 => some 130
  | 96, 60 => some 131
  | 96, 61 => some 132
  | 96, 62 => some 133
  | 96, 63 => some 134
  | 96, 64 => some 135
  | 96, 65 => some 136
  | 96, 69 => some 137
  | 96, 70 => some 138
  | 96, 72 => some 139
  | 96, 75 => some 140
  | 96, 76 => some 141
  | 96, 77 => some 142
  | _, _ => none
def Lay (v c : Nat) (w : cm_W) : Prop := (v = 10 ∨ v = 20) ∧ (c = 61 ∨ c = 62) ∧ (∀ a, 2 ≤ a → a < 143 → cm_sh w a = ly_s a) ∧ (cm_sz w = 143 ∧ cm_ns w = 37680) ∧ (cm_sh w 1 = some (.inr (.long, 14)) ∧ ∀ j, cm_L w 1 j = lw_wl j) ∧ (∀ a k x, ly_R a k = some x → cm_R w a k = some x) ∧ cm_R w 2 3 = some v ∧ cm_R w 4 8 = some (30 - v) ∧ cm_R w 58 2 = some c ∧ cm_R w 58 3 = some (123 - c)
theorem ga_of {w : cm_W} {a n : Nat} {ty : FieldType} (h : cm_sh w a = some (.inr (ty, n))) (i : Int32) : cm_ga w ty a i = cm_iin i n := by
  unfold cm_ga
  rw [show w.1 a = _ from h]
  simp
theorem al_of {w : cm_W} {a n : Nat} {ty : FieldType} (h : cm_sh w a = some (.inr (ty, n))) : cm_al w a = some n := by
  unfold cm_al
  rw [show w.1 a = _ from h]
theorem bd {α : Type} {o : Option α} {x : α} (h : o = some x) {β : Type} (f : α → Option β) : o.bind f = f x := by rw [h]; rfl
section LAY
variable {v c : Nat} {w : cm_W}
theorem Lay.sh (L : Lay v c w) {a : Nat} (h2 : 2 ≤ a) (h : a < 143) : cm_sh w a = ly_s a := L.2.2.1 a h2 h
theorem Lay.R (L : Lay v c w) {a k x : Nat} (h : ly_R a k = some x) : cm_R w a k = some x := L.2.2.2.2.2.1 a k x h
theorem LM (L : Lay v c w) : (cm_sh w 96 = some (.inl 11)) ∧ (cm_R w 96 0 = some 97) ∧ (cm_R w 96 20 = some 98) ∧ (cm_R w 96 21 = some 99) ∧ (cm_R w 96 22 = some 100) ∧ (cm_R w 96 23 = some 101) ∧ (cm_R w 96 24 = some 102) ∧ (cm_R w 96 25 = some 103) ∧ (cm_R w 96 26 = some 104) ∧ (cm_R w 96 27 = some 105) ∧ (cm_R w 96 28 = some 106) ∧ (cm_R w 96 29 = some 107) ∧ (cm_R w 96 30 = some 108) ∧ (cm_R w 96 31 = some 109) ∧ (cm_R w 96 32 = some 110) ∧ (cm_R w 96 33 = some 111) ∧ (cm_R w 96 34 = some 112) ∧ (cm_R w 96 35 = some 113) ∧ (cm_R w 96 40 = some 114) ∧ (cm_R w 96 41 = some 115) ∧ (cm_R w 96 42 = some 116) ∧ (cm_R w 96 43 = some 117) ∧ (cm_R w 96 44 = some 118) ∧ (cm_R w 96 45 = some 119) ∧ (cm_R w 96 46 = some 120) ∧ (cm_R w 96 47 = some 121) ∧ (cm_R w 96 48 = some 122) ∧ (cm_R w 96 49 = some 123) ∧ (cm_R w 96 52 = some 124) ∧ (cm_R w 96 53 = some 125) ∧ (cm_R w 96 54 = some 126) ∧ (cm_R w 96 55 = some 127) ∧ (cm_R w 96 56 = some 128) ∧ (cm_R w 96 57 = some 129) ∧ (cm_R w 96 59 = some 130) ∧ (cm_R w 96 60 = some 131) ∧ (cm_R w 96 61 = some 132) ∧ (cm_R w 96 62 = some 133) ∧ (cm_R w 96 63 = some 134) ∧ (cm_R w 96 64 = some 135) ∧ (cm_R w 96 65 = some 136) ∧ (cm_R w 96 69 = some 137) ∧ (cm_R w 96 70 = some 138) ∧ (cm_R w 96 72 = some 139) ∧ (cm_R w 96 75 = some 140) ∧ (cm_R w 96 76 = some 141) ∧ (cm_R w 96 77 = some 142) ∧ (∀ i, cm_ga w .int 97 i = cm_iin i 3) ∧ (cm_al w 97 = some 3) ∧ (∀ i, cm_ga w .long 98 i = cm_iin i 16) ∧ (cm_al w 98 = some 16) ∧ (∀ i, cm_ga w .long 99 i = cm_iin i 24) ∧ (cm_al w 99 = some 24) ∧ (∀ i, cm_ga w .int 100 i = cm_iin i 16) ∧ (cm_al w 100 = some 16) ∧ (∀ i, cm_ga w .int 101 i = cm_iin i 16) ∧ (cm_al w 101 = some 16) ∧ (∀ i, cm_ga w .int 102 i = cm_iin i 16) ∧ (cm_al w 102 = some 16) ∧ (∀ i, cm_ga w .int 103 i = cm_iin i 16) ∧ (cm_al w 103 = some 16) ∧ (∀ i, cm_ga w .int 104 i = cm_iin i 24) ∧ (cm_al w 104 = some 24) ∧ (∀ i, cm_ga w .int 105 i = cm_iin i 24) ∧ (cm_al w 105 = some 24) ∧ (∀ i, cm_ga w .int 106 i = cm_iin i 24) ∧ (cm_al w 106 = some 24) ∧ (∀ i, cm_ga w .int 107 i = cm_iin i 192) ∧ (cm_al w 107 = some 192) ∧ (∀ i, cm_ga w .int 108 i = cm_iin i 12) ∧ (cm_al w 108 = some 12) ∧ (∀ i, cm_ga w .int 109 i = cm_iin i 12) ∧ (cm_al w 109 = some 12) ∧ (∀ i, cm_ga w .int 110 i = cm_iin i 12) ∧ (cm_al w 110 = some 12) ∧ (∀ i, cm_ga w .int 111 i = cm_iin i 12) ∧ (cm_al w 111 = some 12) ∧ (∀ i, cm_ga w .byte 112 i = cm_iin i 900) ∧ (cm_al w 112 = some 900) ∧ (∀ i, cm_ga w .byte 113 i = cm_iin i 900) ∧ (cm_al w 113 = some 900) ∧ (∀ i, cm_ga w .int 114 i = cm_iin i 40) ∧ (cm_al w 114 = some 40) ∧ (∀ i, cm_ga w .int 115 i = cm_iin i 40) ∧ (cm_al w 115 = some 40) ∧ (∀ i, cm_ga w .int 116 i = cm_iin i 40) ∧ (cm_al w 116 = some 40) ∧ (∀ i, cm_ga w .int 117 i = cm_iin i 40) ∧ (cm_al w 117 = some 40) ∧ (∀ i, cm_ga w .int 118 i = cm_iin i 40) ∧ (cm_al w 118 = some 40) ∧ (∀ i, cm_ga w .int 119 i = cm_iin i 40) ∧ (cm_al w 119 = some 40) ∧ (∀ i, cm_ga w .int 120 i = cm_iin i 40) ∧ (cm_al w 120 = some 40) ∧ (∀ i, cm_ga w .int 121 i = cm_iin i 480) ∧ (cm_al w 121 = some 480) ∧ (∀ i, cm_ga w .int 122 i = cm_iin i 2100) ∧ (cm_al w 122 = some 2100) ∧ (∀ i, cm_ga w .long 123 i = cm_iin i 8) ∧ (cm_al w 123 = some 8) ∧ (∀ i, cm_ga w .int 124 i = cm_iin i 20) ∧ (cm_al w 124 = some 20) ∧ (∀ i, cm_ga w .int 125 i = cm_iin i 20) ∧ (cm_al w 125 = some 20) ∧ (∀ i, cm_ga w .int 126 i = cm_iin i 20) ∧ (cm_al w 126 = some 20) ∧ (∀ i, cm_ga w .int 127 i = cm_iin i 20) ∧ (cm_al w 127 = some 20) ∧ (∀ i, cm_ga w .int 128 i = cm_iin i 20) ∧ (cm_al w 128 = some 20) ∧ (∀ i, cm_ga w .int 129 i = cm_iin i 20) ∧ (cm_al w 129 = some 20) ∧ (∀ i, cm_ga w .int 130 i = cm_iin i 40) ∧ (cm_al w 130 = some 40) ∧ (∀ i, cm_ga w .int 131 i = cm_iin i 40) ∧ (cm_al w 131 = some 40) ∧ (∀ i, cm_ga w .int 132 i = cm_iin i 40) ∧ (cm_al w 132 = some 40) ∧ (∀ i, cm_ga w .int 133 i = cm_iin i 40) ∧ (cm_al w 133 = some 40) ∧ (∀ i, cm_ga w .int 134 i = cm_iin i 40) ∧ (cm_al w 134 = some 40) ∧ (∀ i, cm_ga w .int 135 i = cm_iin i 12) ∧ (cm_al w 135 = some 12) ∧ (∀ i, cm_ga w .long 136 i = cm_iin i 8) ∧ (cm_al w 136 = some 8) ∧ (∀ i, cm_ga w .long 137 i = cm_iin i 1000) ∧ (cm_al w 137 = some 1000) ∧ (∀ i, cm_ga w .long 138 i = cm_iin i 1000) ∧ (cm_al w 138 = some 1000) ∧ (∀ i, cm_ga w .int 139 i = cm_iin i 8) ∧ (cm_al w 139 = some 8) ∧ (∀ i, cm_ga w .int 140 i = cm_iin i 9600) ∧ (cm_al w 140 = some 9600) ∧ (∀ i, cm_ga w .int 141 i = cm_iin i 5) ∧ (cm_al w 141 = some 5) ∧ (∀ i, cm_ga w .long 142 i = cm_iin i 3) ∧ (cm_al w 142 = some 3) := ⟨(L.sh (a := 96) (by decide) (by decide)).trans rfl, L.R rfl, L.R rfl, L.R rfl, L.R rfl, L.R rfl, L.R rfl, L.R rfl, L.R rfl, L.R rfl, L.R rfl, L.R rfl, L.R rfl, L.R rfl, L.R rfl, L.R rfl, L.R rfl, L.R rfl, L.R rfl, L.R rfl, L.R rfl, L.R rfl, L.R rfl, L.R rfl, L.R rfl, L.R rfl, L.R rfl, L.R rfl, L.R rfl, L.R rfl, L.R rfl, L.R rfl, L.R rfl, L.R rfl, L.R rfl, L.R rfl, L.R rfl, L.R rfl, L.R rfl, L.R rfl, L.R rfl, L.R rfl, L.R rfl, L.R rfl, L.R rfl, L.R rfl, L.R rfl, ga_of ((L.sh (a := 97) (by decide) (by decide)).trans rfl), al_of ((L.sh (a := 97) (by decide) (by decide)).trans rfl), ga_of ((L.sh (a := 98) (by decide) (by decide)).trans rfl), al_of ((L.sh (a := 98) (by decide) (by decide)).trans rfl), ga_of ((L.sh (a := 99) (by decide) (by decide)).trans rfl), al_of ((L.sh (a := 99) (by decide) (by decide)).trans rfl), ga_of ((L.sh (a := 100) (by decide) (by decide)).trans rfl), al_of ((L.sh (a := 100) (by decide) (by decide)).trans rfl), ga_of ((L.sh (a := 101) (by decide) (by decide)).trans rfl), al_of ((L.sh (a := 101) (by decide) (by decide)).trans rfl), ga_of ((L.sh (a := 102) (by decide) (by decide)).trans rfl), al_of ((L.sh (a := 102) (by decide) (by decide)).trans rfl), ga_of ((L.sh (a := 103) (by decide) (by decide)).trans rfl), al_of ((L.sh (a := 103) (by decide) (by decide)).trans rfl), ga_of ((L.sh (a := 104) (by decide) (by decide)).trans rfl), al_of ((L.sh (a := 104) (by decide) (by decide)).trans rfl), ga_of ((L.sh (a := 105) (by decide) (by decide)).trans rfl), al_of ((L.sh (a := 105) (by decide) (by decide)).trans rfl), ga_of ((L.sh (a := 106) (by decide) (by decide)).trans rfl), al_of ((L.sh (a := 106) (by decide) (by decide)).trans rfl), ga_of ((L.sh (a := 107) (by decide) (by decide)).trans rfl), al_of ((L.sh (a := 107) (by decide) (by decide)).trans rfl), ga_of ((L.sh (a := 108) (by decide) (by decide)).trans rfl), al_of ((L.sh (a := 108) (by decide) (by decide)).trans rfl), ga_of ((L.sh (a := 109) (by decide) (by decide)).trans rfl), al_of ((L.sh (a := 109) (by decide) (by decide)).trans rfl), ga_of ((L.sh (a := 110) (by decide) (by decide)).trans rfl), al_of ((L.sh (a := 110) (by decide) (by decide)).trans rfl), ga_of ((L.sh (a := 111) (by decide) (by decide)).trans rfl), al_of ((L.sh (a := 111) (by decide) (by decide)).trans rfl), ga_of ((L.sh (a := 112) (by decide) (by decide)).trans rfl), al_of ((L.sh (a := 112) (by decide) (by decide)).trans rfl), ga_of ((L.sh (a := 113) (by decide) (by decide)).trans rfl), al_of ((L.sh (a := 113) (by decide) (by decide)).trans rfl), ga_of ((L.sh (a := 114) (by decide) (by decide)).trans rfl), al_of ((L.sh (a := 114) (by decide) (by decide)).trans rfl), ga_of ((L.sh (a := 115) (by decide) (by decide)).trans rfl), al_of ((L.sh (a := 115) (by decide) (by decide)).trans rfl), ga_of ((L.sh (a := 116) (by decide) (by decide)).trans rfl), al_of ((L.sh (a := 116) (by decide) (by decide)).trans rfl), ga_of ((L.sh (a := 117) (by decide) (by decide)).trans rfl), al_of ((L.sh (a := 117) (by decide) (by decide)).trans rfl), ga_of ((L.sh (a := 118) (by decide) (by decide)).trans rfl), al_of ((L.sh (a := 118) (by decide) (by decide)).trans rfl), ga_of ((L.sh (a := 119) (by decide) (by decide)).trans rfl), al_of ((L.sh (a := 119) (by decide) (by decide)).trans rfl), ga_of ((L.sh (a := 120) (by decide) (by decide)).trans rfl), al_of ((L.sh (a := 120) (by decide) (by decide)).trans rfl), ga_of ((L.sh (a := 121) (by decide) (by decide)).trans rfl), al_of ((L.sh (a := 121) (by decide) (by decide)).trans rfl), ga_of ((L.sh (a := 122) (by decide) (by decide)).trans rfl), al_of ((L.sh (a := 122) (by decide) (by decide)).trans rfl), ga_of ((L.sh (a := 123) (by decide) (by decide)).trans rfl), al_of ((L.sh (a := 123) (by decide) (by decide)).trans rfl), ga_of ((L.sh (a := 124) (by decide) (by decide)).trans rfl), al_of ((L.sh (a := 124) (by decide) (by decide)).trans rfl), ga_of ((L.sh (a := 125) (by decide) (by decide)).trans rfl), al_of ((L.sh (a := 125) (by decide) (by decide)).trans rfl), ga_of ((L.sh (a := 126) (by decide) (by decide)).trans rfl), al_of ((L.sh (a := 126) (by decide) (by decide)).trans rfl), ga_of ((L.sh (a := 127) (by decide) (by decide)).trans rfl), al_of ((L.sh (a := 127) (by decide) (by decide)).trans rfl), ga_of ((L.sh (a := 128) (by decide) (by decide)).trans rfl), al_of ((L.sh (a := 128) (by decide) (by decide)).trans rfl), ga_of ((L.sh (a := 129) (by decide) (by decide)).trans rfl), al_of ((L.sh (a := 129) (by decide) (by decide)).trans rfl), ga_of ((L.sh (a := 130) (by decide) (by decide)).trans rfl), al_of ((L.sh (a := 130) (by decide) (by decide)).trans rfl), ga_of ((L.sh (a := 131) (by decide) (by decide)).trans rfl), al_of ((L.sh (a := 131) (by decide) (by decide)).trans rfl), ga_of ((L.sh (a := 132) (by decide) (by decide)).trans rfl), al_of ((L.sh (a := 132) (by decide) (by decide)).trans rfl), ga_of ((L.sh (a := 133) (by decide) (by decide)).trans rfl), al_of ((L.sh (a := 133) (by decide) (by decide)).trans rfl), ga_of ((L.sh (a := 134) (by decide) (by decide)).trans rfl), al_of ((L.sh (a := 134) (by decide) (by decide)).trans rfl), ga_of ((L.sh (a := 135) (by decide) (by decide)).trans rfl), al_of ((L.sh (a := 135) (by decide) (by decide)).trans rfl), ga_of ((L.sh (a := 136) (by decide) (by decide)).trans rfl), al_of ((L.sh (a := 136) (by decide) (by decide)).trans rfl), ga_of ((L.sh (a := 137) (by decide) (by decide)).trans rfl), al_of ((L.sh (a := 137) (by decide) (by decide)).trans rfl), ga_of ((L.sh (a := 138) (by decide) (by decide)).trans rfl), al_of ((L.sh (a := 138) (by decide) (by decide)).trans rfl), ga_of ((L.sh (a := 139) (by decide) (by decide)).trans rfl), al_of ((L.sh (a := 139) (by decide) (by decide)).trans rfl), ga_of ((L.sh (a := 140) (by decide) (by decide)).trans rfl), al_of ((L.sh (a := 140) (by decide) (by decide)).trans rfl), ga_of ((L.sh (a := 141) (by decide) (by decide)).trans rfl), al_of ((L.sh (a := 141) (by decide) (by decide)).trans rfl), ga_of ((L.sh (a := 142) (by decide) (by decide)).trans rfl), al_of ((L.sh (a := 142) (by decide) (by decide)).trans rfl)⟩
theorem LMb (L : Lay v c w) : (∀ (β : Type) (f : Nat → Option β), (cm_R w 96 0).bind f = f 97) ∧ (∀ (β : Type) (f : Nat → Option β), (cm_R w 96 20).bind f = f 98) ∧ (∀ (β : Type) (f : Nat → Option β), (cm_R w 96 21).bind f = f 99) ∧ (∀ (β : Type) (f : Nat → Option β), (cm_R w 96 22).bind f = f 100) ∧ (∀ (β : Type) (f : Nat → Option β), (cm_R w 96 23).bind f = f 101) ∧ (∀ (β : Type) (f : Nat → Option β), (cm_R w 96 24).bind f = f 102) ∧ (∀ (β : Type) (f : Nat → Option β), (cm_R w 96 25).bind f = f 103) ∧ (∀ (β : Type) (f : Nat → Option β), (cm_R w 96 26).bind f = f 104) ∧ (∀ (β : Type) (f : Nat → Option β), (cm_R w 96 27).bind f = f 105) ∧ (∀ (β : Type) (f : Nat → Option β), (cm_R w 96 28).bind f = f 106) ∧ (∀ (β : Type) (f : Nat → Option β), (cm_R w 96 29).bind f = f 107) ∧ (∀ (β : Type) (f : Nat → Option β), (cm_R w 96 30).bind f = f 108) ∧ (∀ (β : Type) (f : Nat → Option β), (cm_R w 96 31).bind f = f 109) ∧ (∀ (β : Type) (f : Nat → Option β), (cm_R w 96 32).bind f = f 110) ∧ (∀ (β : Type) (f : Nat → Option β), (cm_R w 96 33).bind f = f 111) ∧ (∀ (β : Type) (f : Nat → Option β), (cm_R w 96 34).bind f = f 112) ∧ (∀ (β : Type) (f : Nat → Option β), (cm_R w 96 35).bind f = f 113) ∧ (∀ (β : Type) (f : Nat → Option β), (cm_R w 96 40).bind f = f 114) ∧ (∀ (β : Type) (f : Nat → Option β), (cm_R w 96 41).bind f = f 115) ∧ (∀ (β : Type) (f : Nat → Option β), (cm_R w 96 42).bind f = f 116) ∧ (∀ (β : Type) (f : Nat → Option β), (cm_R w 96 43).bind f = f 117) ∧ (∀ (β : Type) (f : Nat → Option β), (cm_R w 96 44).bind f = f 118) ∧ (∀ (β : Type) (f : Nat → Option β), (cm_R w 96 45).bind f = f 119) ∧ (∀ (β : Type) (f : Nat → Option β), (cm_R w 96 46).bind f = f 120) ∧ (∀ (β : Type) (f : Nat → Option β), (cm_R w 96 47).bind f = f 121) ∧ (∀ (β : Type) (f : Nat → Option β), (cm_R w 96 48).bind f = f 122) ∧ (∀ (β : Type) (f : Nat → Option β), (cm_R w 96 49).bind f = f 123) ∧ (∀ (β : Type) (f : Nat → Option β), (cm_R w 96 52).bind f = f 124) ∧ (∀ (β : Type) (f : Nat → Option β), (cm_R w 96 53).bind f = f 125) ∧ (∀ (β : Type) (f : Nat → Option β), (cm_R w 96 54).bind f = f 126) ∧ (∀ (β : Type) (f : Nat → Option β), (cm_R w 96 55).bind f = f 127) ∧ (∀ (β : Type) (f : Nat → Option β), (cm_R w 96 56).bind f = f 128) ∧ (∀ (β : Type) (f : Nat → Option β), (cm_R w 96 57).bind f = f 129) ∧ (∀ (β : Type) (f : Nat → Option β), (cm_R w 96 59).bind f = f 130) ∧ (∀ (β : Type) (f : Nat → Option β), (cm_R w 96 60).bind f = f 131) ∧ (∀ (β : Type) (f : Nat → Option β), (cm_R w 96 61).bind f = f 132) ∧ (∀ (β : Type) (f : Nat → Option β), (cm_R w 96 62).bind f = f 133) ∧ (∀ (β : Type) (f : Nat → Option β), (cm_R w 96 63).bind f = f 134) ∧ (∀ (β : Type) (f : Nat → Option β), (cm_R w 96 64).bind f = f 135) ∧ (∀ (β : Type) (f : Nat → Option β), (cm_R w 96 65).bind f = f 136) ∧ (∀ (β : Type) (f : Nat → Option β), (cm_R w 96 69).bind f = f 137) ∧ (∀ (β : Type) (f : Nat → Option β), (cm_R w 96 70).bind f = f 138) ∧ (∀ (β : Type) (f : Nat → Option β), (cm_R w 96 72).bind f = f 139) ∧ (∀ (β : Type) (f : Nat → Option β), (cm_R w 96 75).bind f = f 140) ∧ (∀ (β : Type) (f : Nat → Option β), (cm_R w 96 76).bind f = f 141) ∧ (∀ (β : Type) (f : Nat → Option β), (cm_R w 96 77).bind f = f 142) := ⟨fun _ _ => bd (L.R rfl) _, fun _ _ => bd (L.R rfl) _, fun _ _ => bd (L.R rfl) _, fun _ _ => bd (L.R rfl) _, fun _ _ => bd (L.R rfl) _, fun _ _ => bd (L.R rfl) _, fun _ _ => bd (L.R rfl) _, fun _ _ => bd (L.R rfl) _, fun _ _ => bd (L.R rfl) _, fun _ _ => bd (L.R rfl) _, fun _ _ => bd (L.R rfl) _, fun _ _ => bd (L.R rfl) _, fun _ _ => bd (L.R rfl) _, fun _ _ => bd (L.R rfl) _, fun _ _ => bd (L.R rfl) _, fun _ _ => bd (L.R rfl) _, fun _ _ => bd (L.R rfl) _, fun _ _ => bd (L.R rfl) _, fun _ _ => bd (L.R rfl) _, fun _ _ => bd (L.R rfl) _, fun _ _ => bd (L.R rfl) _, fun _ _ => bd (L.R rfl) _, fun _ _ => bd (L.R rfl) _, fun _ _ => bd (L.R rfl) _, fun _ _ => bd (L.R rfl) _, fun _ _ => bd (L.R rfl) _, fun _ _ => bd (L.R rfl) _, fun _ _ => bd (L.R rfl) _, fun _ _ => bd (L.R rfl) _, fun _ _ => bd (L.R rfl) _, fun _ _ => bd (L.R rfl) _, fun _ _ => bd (L.R rfl) _, fun _ _ => bd (L.R rfl) _, fun _ _ => bd (L.R rfl) _, fun _ _ => bd (L.R rfl) _, fun _ _ => bd (L.R rfl) _, fun _ _ => bd (L.R rfl) _, fun _ _ => bd (L.R rfl) _, fun _ _ => bd (L.R rfl) _, fun _ _ => bd (L.R rfl) _, fun _ _ => bd (L.R rfl) _, fun _ _ => bd (L.R rfl) _, fun _ _ => bd (L.R rfl) _, fun _ _ => bd (L.R rfl) _, fun _ _ => bd (L.R rfl) _, fun _ _ => bd (L.R rfl) _⟩
theorem LC (L : Lay v c w) : (cm_sh w 2 = some (.inl 10)) ∧ (cm_R w 2 0 = some 3) ∧ (cm_R w 2 2 = some 4) ∧ (cm_R w 2 5 = some 30) ∧ (cm_R w 2 6 = some 41) ∧ (cm_R w 2 8 = some 42) ∧ (cm_R w 2 9 = some 43) ∧ (cm_R w 2 10 = some 46) ∧ (cm_R w 2 11 = some 48) ∧ (cm_R w 2 12 = some 51) ∧ (cm_R w 2 13 = some 55) ∧ (cm_R w 2 14 = some 58) ∧ (∀ i, cm_ga w .byte 3 i = cm_iin i 900) ∧ (cm_al w 3 = some 900) ∧ (∀ i, cm_ga w .int 42 i = cm_iin i 3) ∧ (cm_al w 42 = some 3) ∧ (cm_sh w 43 = some (.inl 8)) ∧ (cm_R w 43 0 = some 44) ∧ (cm_R w 43 1 = some 45) ∧ (∀ i, cm_ga w .long 44 i = cm_iin i 8) ∧ (cm_al w 44 = some 8) ∧ (∀ i, cm_ga w .int 45 i = cm_iin i 12) ∧ (cm_al w 45 = some 12) ∧ (cm_sh w 46 = some (.inl 2)) ∧ (cm_R w 46 0 = some 47) ∧ (∀ i, cm_ga w .int 47 i = cm_iin i 8) ∧ (cm_al w 47 = some 8) ∧ (cm_sh w 48 = some (.inl 0)) ∧ (cm_R w 48 0 = some 49) ∧ (cm_R w 48 1 = some 50) ∧ (∀ i, cm_ga w .int 49 i = cm_iin i 40) ∧ (cm_al w 49 = some 40) ∧ (∀ i, cm_ga w .int 50 i = cm_iin i 12) ∧ (cm_al w 50 = some 12) ∧ (cm_sh w 51 = some (.inl 3)) ∧ (cm_R w 51 0 = some 52) ∧ (cm_R w 51 1 = some 53) ∧ (cm_R w 51 2 = some 54) ∧ (∀ i, cm_ga w .long 52 i = cm_iin i 8) ∧ (cm_al w 52 = some 8) ∧ (∀ i, cm_ga w .int 53 i = cm_iin i 8) ∧ (cm_al w 53 = some 8) ∧ (∀ i, cm_ga w .int 54 i = cm_iin i 8) ∧ (cm_al w 54 = some 8) ∧ (cm_sh w 55 = some (.inl 5)) ∧ (cm_R w 55 0 = some 56) ∧ (cm_R w 55 1 = some 57) ∧ (∀ i, cm_ga w .int 56 i = cm_iin i 8) ∧ (cm_al w 56 = some 8) ∧ (∀ i, cm_ga w .int 57 i = cm_iin i 8) ∧ (cm_al w 57 = some 8) ∧ (cm_sh w 58 = some (.inl 1)) ∧ (cm_R w 58 0 = some 59) ∧ (cm_R w 58 1 = some 60) ∧ (∀ i, cm_ga w .int 59 i = cm_iin i 8) ∧ (cm_al w 59 = some 8) ∧ (∀ i, cm_ga w .int 60 i = cm_iin i 8) ∧ (cm_al w 60 = some 8) ∧ (cm_R w 2 3 = some v) ∧ (cm_R w 58 2 = some c) ∧ (cm_R w 58 3 = some (123 - c)) := ⟨(L.sh (a := 2) (by decide) (by decide)).trans rfl, L.R rfl, L.R rfl, L.R rfl, L.R rfl, L.R rfl, L.R rfl, L.R rfl, L.R rfl, L.R rfl, L.R rfl, L.R rfl, ga_of ((L.sh (a := 3) (by decide) (by decide)).trans rfl), al_of ((L.sh (a := 3) (by decide) (by decide)).trans rfl), ga_of ((L.sh (a := 42) (by decide) (by decide)).trans rfl), al_of ((L.sh (a := 42) (by decide) (by decide)).trans rfl), (L.sh (a := 43) (by decide) (by decide)).trans rfl, L.R rfl, L.R rfl, ga_of ((L.sh (a := 44) (by decide) (by decide)).trans rfl), al_of ((L.sh (a := 44) (by decide) (by decide)).trans rfl), ga_of ((L.sh (a := 45) (by decide) (by decide)).trans rfl), al_of ((L.sh (a := 45) (by decide) (by decide)).trans rfl), (L.sh (a := 46) (by decide) (by decide)).trans rfl, L.R rfl, ga_of ((L.sh (a := 47) (by decide) (by decide)).trans rfl), al_of ((L.sh (a := 47) (by decide) (by decide)).trans rfl), (L.sh (a := 48) (by decide) (by decide)).trans rfl, L.R rfl, L.R rfl, ga_of ((L.sh (a := 49) (by decide) (by decide)).trans rfl), al_of ((L.sh (a := 49) (by decide) (by decide)).trans rfl), ga_of ((L.sh (a := 50) (by decide) (by decide)).trans rfl), al_of ((L.sh (a := 50) (by decide) (by decide)).trans rfl), (L.sh (a := 51) (by decide) (by decide)).trans rfl, L.R rfl, L.R rfl, L.R rfl, ga_of ((L.sh (a := 52) (by decide) (by decide)).trans rfl), al_of ((L.sh (a := 52) (by decide) (by decide)).trans rfl), ga_of ((L.sh (a := 53) (by decide) (by decide)).trans rfl), al_of ((L.sh (a := 53) (by decide) (by decide)).trans rfl), ga_of ((L.sh (a := 54) (by decide) (by decide)).trans rfl), al_of ((L.sh (a := 54) (by decide) (by decide)).trans rfl), (L.sh (a := 55) (by decide) (by decide)).trans rfl, L.R rfl, L.R rfl, ga_of ((L.sh (a := 56) (by decide) (by decide)).trans rfl), al_of ((L.sh (a := 56) (by decide) (by decide)).trans rfl), ga_of ((L.sh (a := 57) (by decide) (by decide)).trans rfl), al_of ((L.sh (a := 57) (by decide) (by decide)).trans rfl), (L.sh (a := 58) (by decide) (by decide)).trans rfl, L.R rfl, L.R rfl, ga_of ((L.sh (a := 59) (by decide) (by decide)).trans rfl), al_of ((L.sh (a := 59) (by decide) (by decide)).trans rfl), ga_of ((L.sh (a := 60) (by decide) (by decide)).trans rfl), al_of ((L.sh (a := 60) (by decide) (by decide)).trans rfl), L.2.2.2.2.2.2.1, L.2.2.2.2.2.2.2.2.1, L.2.2.2.2.2.2.2.2.2⟩
theorem LCb (L : Lay v c w) : (∀ (β : Type) (f : Nat → Option β), (cm_R w 2 0).bind f = f 3) ∧ (∀ (β : Type) (f : Nat → Option β), (cm_R w 2 2).bind f = f 4) ∧ (∀ (β : Type) (f : Nat → Option β), (cm_R w 2 5).bind f = f 30) ∧ (∀ (β : Type) (f : Nat → Option β), (cm_R w 2 6).bind f = f 41) ∧ (∀ (β : Type) (f : Nat → Option β), (cm_R w 2 8).bind f = f 42) ∧ (∀ (β : Type) (f : Nat → Option β), (cm_R w 2 9).bind f = f 43) ∧ (∀ (β : Type) (f : Nat → Option β), (cm_R w 2 10).bind f = f 46) ∧ (∀ (β : Type) (f : Nat → Option β), (cm_R w 2 11).bind f = f 48) ∧ (∀ (β : Type) (f : Nat → Option β), (cm_R w 2 12).bind f = f 51) ∧ (∀ (β : Type) (f : Nat → Option β), (cm_R w 2 13).bind f = f 55) ∧ (∀ (β : Type) (f : Nat → Option β), (cm_R w 2 14).bind f = f 58) ∧ (∀ (β : Type) (f : Nat → Option β), (cm_R w 43 0).bind f = f 44) ∧ (∀ (β : Type) (f : Nat → Option β), (cm_R w 43 1).bind f = f 45) ∧ (∀ (β : Type) (f : Nat → Option β), (cm_R w 46 0).bind f = f 47) ∧ (∀ (β : Type) (f : Nat → Option β), (cm_R w 48 0).bind f = f 49) ∧ (∀ (β : Type) (f : Nat → Option β), (cm_R w 48 1).bind f = f 50) ∧ (∀ (β : Type) (f : Nat → Option β), (cm_R w 51 0).bind f = f 52) ∧ (∀ (β : Type) (f : Nat → Option β), (cm_R w 51 1).bind f = f 53) ∧ (∀ (β : Type) (f : Nat → Option β), (cm_R w 51 2).bind f = f 54) ∧ (∀ (β : Type) (f : Nat → Option β), (cm_R w 55 0).bind f = f 56) ∧ (∀ (β : Type) (f : Nat → Option β), (cm_R w 55 1).bind f = f 57) ∧ (∀ (β : Type) (f : Nat → Option β), (cm_R w 58 0).bind f = f 59) ∧ (∀ (β : Type) (f : Nat → Option β), (cm_R w 58 1).bind f = f 60) ∧ (∀ (β : Type) (f : Nat → Option β), (cm_R w 2 3).bind f = f v) ∧ (∀ (β : Type) (f : Nat → Option β), (cm_R w 58 2).bind f = f c) ∧ (∀ (β : Type) (f : Nat → Option β), (cm_R w 58 3).bind f = f (123 - c)) := ⟨fun _ _ => bd (L.R rfl) _, fun _ _ => bd (L.R rfl) _, fun _ _ => bd (L.R rfl) _, fun _ _ => bd (L.R rfl) _, fun _ _ => bd (L.R rfl) _, fun _ _ => bd (L.R rfl) _, fun _ _ => bd (L.R rfl) _, fun _ _ => bd (L.R rfl) _, fun _ _ => bd (L.R rfl) _, fun _ _ => bd (L.R rfl) _, fun _ _ => bd (L.R rfl) _, fun _ _ => bd (L.R rfl) _, fun _ _ => bd (L.R rfl) _, fun _ _ => bd (L.R rfl) _, fun _ _ => bd (L.R rfl) _, fun _ _ => bd (L.R rfl) _, fun _ _ => bd (L.R rfl) _, fun _ _ => bd (L.R rfl) _, fun _ _ => bd (L.R rfl) _, fun _ _ => bd (L.R rfl) _, fun _ _ => bd (L.R rfl) _, fun _ _ => bd (L.R rfl) _, fun _ _ => bd (L.R rfl) _, fun _ _ => bd (L.2.2.2.2.2.2.1) _, fun _ _ => bd (L.2.2.2.2.2.2.2.2.1) _, fun _ _ => bd (L.2.2.2.2.2.2.2.2.2) _⟩
theorem LSt (L : Lay v c w) : (cm_sh w 30 = some (.inl 6)) ∧ (cm_R w 30 0 = some 31) ∧ (cm_R w 30 1 = some 33) ∧ (cm_R w 30 2 = some 35) ∧ (cm_R w 30 3 = some 37) ∧ (cm_R w 30 4 = some 39) ∧ (cm_R w 30 5 = some 40) ∧ (cm_sh w 31 = some (.inl 7)) ∧ (cm_R w 31 1 = some 32) ∧ (∀ i, cm_ga w .int 32 i = cm_iin i 240) ∧ (cm_al w 32 = some 240) ∧ (cm_sh w 33 = some (.inl 7)) ∧ (cm_R w 33 1 = some 34) ∧ (∀ i, cm_ga w .int 34 i = cm_iin i 2100) ∧ (cm_al w 34 = some 2100) ∧ (cm_sh w 35 = some (.inl 7)) ∧ (cm_R w 35 1 = some 36) ∧ (∀ i, cm_ga w .int 36 i = cm_iin i 120) ∧ (cm_al w 36 = some 120) ∧ (cm_sh w 37 = some (.inl 7)) ∧ (cm_R w 37 1 = some 38) ∧ (∀ i, cm_ga w .int 38 i = cm_iin i 160) ∧ (cm_al w 38 = some 160) ∧ (∀ i, cm_ga w .int 39 i = cm_iin i 480) ∧ (cm_al w 39 = some 480) ∧ (∀ i, cm_ga w .int 40 i = cm_iin i 12) ∧ (cm_al w 40 = some 12) := ⟨(L.sh (a := 30) (by decide) (by decide)).trans rfl, L.R rfl, L.R rfl, L.R rfl, L.R rfl, L.R rfl, L.R rfl, (L.sh (a := 31) (by decide) (by decide)).trans rfl, L.R rfl, ga_of ((L.sh (a := 32) (by decide) (by decide)).trans rfl), al_of ((L.sh (a := 32) (by decide) (by decide)).trans rfl), (L.sh (a := 33) (by decide) (by decide)).trans rfl, L.R rfl, ga_of ((L.sh (a := 34) (by decide) (by decide)).trans rfl), al_of ((L.sh (a := 34) (by decide) (by decide)).trans rfl), (L.sh (a := 35) (by decide) (by decide)).trans rfl, L.R rfl, ga_of ((L.sh (a := 36) (by decide) (by decide)).trans rfl), al_of ((L.sh (a := 36) (by decide) (by decide)).trans rfl), (L.sh (a := 37) (by decide) (by decide)).trans rfl, L.R rfl, ga_of ((L.sh (a := 38) (by decide) (by decide)).trans rfl), al_of ((L.sh (a := 38) (by decide) (by decide)).trans rfl), ga_of ((L.sh (a := 39) (by decide) (by decide)).trans rfl), al_of ((L.sh (a := 39) (by decide) (by decide)).trans rfl), ga_of ((L.sh (a := 40) (by decide) (by decide)).trans rfl), al_of ((L.sh (a := 40) (by decide) (by decide)).trans rfl)⟩
theorem LStb (L : Lay v c w) : (∀ (β : Type) (f : Nat → Option β), (cm_R w 30 0).bind f = f 31) ∧ (∀ (β : Type) (f : Nat → Option β), (cm_R w 30 1).bind f = f 33) ∧ (∀ (β : Type) (f : Nat → Option β), (cm_R w 30 2).bind f = f 35) ∧ (∀ (β : Type) (f : Nat → Option β), (cm_R w 30 3).bind f = f 37) ∧ (∀ (β : Type) (f : Nat → Option β), (cm_R w 30 4).bind f = f 39) ∧ (∀ (β : Type) (f : Nat → Option β), (cm_R w 30 5).bind f = f 40) ∧ (∀ (β : Type) (f : Nat → Option β), (cm_R w 31 1).bind f = f 32) ∧ (∀ (β : Type) (f : Nat → Option β), (cm_R w 33 1).bind f = f 34) ∧ (∀ (β : Type) (f : Nat → Option β), (cm_R w 35 1).bind f = f 36) ∧ (∀ (β : Type) (f : Nat → Option β), (cm_R w 37 1).bind f = f 38) := ⟨fun _ _ => bd (L.R rfl) _, fun _ _ => bd (L.R rfl) _, fun _ _ => bd (L.R rfl) _, fun _ _ => bd (L.R rfl) _, fun _ _ => bd (L.R rfl) _, fun _ _ => bd (L.R rfl) _, fun _ _ => bd (L.R rfl) _, fun _ _ => bd (L.R rfl) _, fun _ _ => bd (L.R rfl) _, fun _ _ => bd (L.R rfl) _⟩
theorem LD (L : Lay v c w) : (cm_sh w 4 = some (.inl 4)) ∧ (cm_R w 4 0 = some 5) ∧ (cm_R w 4 1 = some 6) ∧ (cm_R w 4 2 = some 7) ∧ (cm_R w 4 3 = some 8) ∧ (cm_R w 4 4 = some 9) ∧ (∀ i, cm_ga w .int 5 i = cm_iin i 901) ∧ (cm_al w 5 = some 901) ∧ (∀ i, cm_ga w .int 6 i = cm_iin i 901) ∧ (cm_al w 6 = some 901) ∧ (∀ i, cm_ga w .int 7 i = cm_iin i 901) ∧ (cm_al w 7 = some 901) ∧ (∀ i, cm_ga w .long 8 i = cm_iin i 901) ∧ (cm_al w 8 = some 901) ∧ (∀ i, cm_ga w .int 9 i = cm_iin i 901) ∧ (cm_al w 9 = some 901) ∧ (cm_R w 4 8 = some (30 - v)) := ⟨(L.sh (a := 4) (by decide) (by decide)).trans rfl, L.R rfl, L.R rfl, L.R rfl, L.R rfl, L.R rfl, ga_of ((L.sh (a := 5) (by decide) (by decide)).trans rfl), al_of ((L.sh (a := 5) (by decide) (by decide)).trans rfl), ga_of ((L.sh (a := 6) (by decide) (by decide)).trans rfl), al_of ((L.sh (a := 6) (by decide) (by decide)).trans rfl), ga_of ((L.sh (a := 7) (by decide) (by decide)).trans rfl), al_of ((L.sh (a := 7) (by decide) (by decide)).trans rfl), ga_of ((L.sh (a := 8) (by decide) (by decide)).trans rfl), al_of ((L.sh (a := 8) (by decide) (by decide)).trans rfl), ga_of ((L.sh (a := 9) (by decide) (by decide)).trans rfl), al_of ((L.sh (a := 9) (by decide) (by decide)).trans rfl), L.2.2.2.2.2.2.2.1⟩
theorem LDb (L : Lay v c w) : (∀ (β : Type) (f : Nat → Option β), (cm_R w 4 0).bind f = f 5) ∧ (∀ (β : Type) (f : Nat → Option β), (cm_R w 4 1).bind f = f 6) ∧ (∀ (β : Type) (f : Nat → Option β), (cm_R w 4 2).bind f = f 7) ∧ (∀ (β : Type) (f : Nat → Option β), (cm_R w 4 3).bind f = f 8) ∧ (∀ (β : Type) (f : Nat → Option β), (cm_R w 4 4).bind f = f 9) ∧ (∀ (β : Type) (f : Nat → Option β), (cm_R w 4 8).bind f = f (30 - v)) := ⟨fun _ _ => bd (L.R rfl) _, fun _ _ => bd (L.R rfl) _, fun _ _ => bd (L.R rfl) _, fun _ _ => bd (L.R rfl) _, fun _ _ => bd (L.R rfl) _, fun _ _ => bd (L.2.2.2.2.2.2.2.1) _⟩
theorem LV (L : Lay v c w) {u : Nat} (hu : u = 10 ∨ u = 20) : (cm_sh w u = some (.inl 9)) ∧ (cm_R w u 0 = some (u + 1)) ∧ (cm_R w u 1 = some (u + 2)) ∧ (cm_R w u 2 = some (u + 4)) ∧ (cm_R w u 3 = some (u + 5)) ∧ (cm_R w u 4 = some (u + 7)) ∧ (cm_R w u 5 = some (u + 8)) ∧ (∀ i, cm_ga w .long (u + 1) i = cm_iin i 8) ∧ (cm_al w (u + 1) = some 8) ∧ (cm_sh w (u + 2) = some (.inl 7)) ∧ (cm_R w (u + 2) 1 = some (u + 3)) ∧ (∀ i, cm_ga w .int (u + 3) i = cm_iin i 32) ∧ (cm_al w (u + 3) = some 32) ∧ (∀ i, cm_ga w .long (u + 4) i = cm_iin i 12) ∧ (cm_al w (u + 4) = some 12) ∧ (cm_sh w (u + 5) = some (.inl 7)) ∧ (cm_R w (u + 5) 1 = some (u + 6)) ∧ (∀ i, cm_ga w .int (u + 6) i = cm_iin i 36) ∧ (cm_al w (u + 6) = some 36) ∧ (∀ i, cm_ga w .int (u + 7) i = cm_iin i 96) ∧ (cm_al w (u + 7) = some 96) ∧ (cm_sh w (u + 8) = some (.inl 7)) ∧ (cm_R w (u + 8) 1 = some (u + 9)) ∧ (∀ i, cm_ga w .int (u + 9) i = cm_iin i 18) ∧ (cm_al w (u + 9) = some 18) := by
  rcases hu with rfl | rfl
  · exact ⟨(L.sh (a := 10) (by decide) (by decide)).trans rfl, L.R rfl, L.R rfl, L.R rfl, L.R rfl, L.R rfl, L.R rfl, ga_of ((L.sh (a := 11) (by decide) (by decide)).trans rfl), al_of ((L.sh (a := 11) (by decide) (by decide)).trans rfl), (L.sh (a := 12) (by decide) (by decide)).trans rfl, L.R rfl, ga_of ((L.sh (a := 13) (by decide) (by decide)).trans rfl), al_of ((L.sh (a := 13) (by decide) (by decide)).trans rfl), ga_of ((L.sh (a := 14) (by decide) (by decide)).trans rfl), al_of ((L.sh (a := 14) (by decide) (by decide)).trans rfl), (L.sh (a := 15) (by decide) (by decide)).trans rfl, L.R rfl, ga_of ((L.sh (a := 16) (by decide) (by decide)).trans rfl), al_of ((L.sh (a := 16) (by decide) (by decide)).trans rfl), ga_of ((L.sh (a := 17) (by decide) (by decide)).trans rfl), al_of ((L.sh (a := 17) (by decide) (by decide)).trans rfl), (L.sh (a := 18) (by decide) (by decide)).trans rfl, L.R rfl, ga_of ((L.sh (a := 19) (by decide) (by decide)).trans rfl), al_of ((L.sh (a := 19) (by decide) (by decide)).trans rfl)⟩
  · exact ⟨(L.sh (a := 20) (by decide) (by decide)).trans rfl, L.R rfl, L.R rfl, L.R rfl, L.R rfl, L.R rfl, L.R rfl, ga_of ((L.sh (a := 21) (by decide) (by decide)).trans rfl), al_of ((L.sh (a := 21) (by decide) (by decide)).trans rfl), (L.sh (a := 22) (by decide) (by decide)).trans rfl, L.R rfl, ga_of ((L.sh (a := 23) (by decide) (by decide)).trans rfl), al_of ((L.sh (a := 23) (by decide) (by decide)).trans rfl), ga_of ((L.sh (a := 24) (by decide) (by decide)).trans rfl), al_of ((L.sh (a := 24) (by decide) (by decide)).trans rfl), (L.sh (a := 25) (by decide) (by decide)).trans rfl, L.R rfl, ga_of ((L.sh (a := 26) (by decide) (by decide)).trans rfl), al_of ((L.sh (a := 26) (by decide) (by decide)).trans rfl), ga_of ((L.sh (a := 27) (by decide) (by decide)).trans rfl), al_of ((L.sh (a := 27) (by decide) (by decide)).trans rfl), (L.sh (a := 28) (by decide) (by decide)).trans rfl, L.R rfl, ga_of ((L.sh (a := 29) (by decide) (by decide)).trans rfl), al_of ((L.sh (a := 29) (by decide) (by decide)).trans rfl)⟩
theorem LVb (L : Lay v c w) {u : Nat} (hu : u = 10 ∨ u = 20) : (∀ (β : Type) (f : Nat → Option β), (cm_R w u 0).bind f = f (u + 1)) ∧ (∀ (β : Type) (f : Nat → Option β), (cm_R w u 1).bind f = f (u + 2)) ∧ (∀ (β : Type) (f : Nat → Option β), (cm_R w u 2).bind f = f (u + 4)) ∧ (∀ (β : Type) (f : Nat → Option β), (cm_R w u 3).bind f = f (u + 5)) ∧ (∀ (β : Type) (f : Nat → Option β), (cm_R w u 4).bind f = f (u + 7)) ∧ (∀ (β : Type) (f : Nat → Option β), (cm_R w u 5).bind f = f (u + 8)) ∧ (∀ (β : Type) (f : Nat → Option β), (cm_R w (u + 2) 1).bind f = f (u + 3)) ∧ (∀ (β : Type) (f : Nat → Option β), (cm_R w (u + 5) 1).bind f = f (u + 6)) ∧ (∀ (β : Type) (f : Nat → Option β), (cm_R w (u + 8) 1).bind f = f (u + 9)) := by
  rcases hu with rfl | rfl
  · exact ⟨fun _ _ => bd (L.R rfl) _, fun _ _ => bd (L.R rfl) _, fun _ _ => bd (L.R rfl) _, fun _ _ => bd (L.R rfl) _, fun _ _ => bd (L.R rfl) _, fun _ _ => bd (L.R rfl) _, fun _ _ => bd (L.R rfl) _, fun _ _ => bd (L.R rfl) _, fun _ _ => bd (L.R rfl) _⟩
  · exact ⟨fun _ _ => bd (L.R rfl) _, fun _ _ => bd (L.R rfl) _, fun _ _ => bd (L.R rfl) _, fun _ _ => bd (L.R rfl) _, fun _ _ => bd (L.R rfl) _, fun _ _ => bd (L.R rfl) _, fun _ _ => bd (L.R rfl) _, fun _ _ => bd (L.R rfl) _, fun _ _ => bd (L.R rfl) _⟩
theorem LCo (L : Lay v c w) {u : Nat} (hu : u = 61 ∨ u = 62) : (∀ i, cm_ga w .long u i = cm_iin i 1000) ∧ (cm_al w u = some 1000) := by
  rcases hu with rfl | rfl
  · exact ⟨ga_of ((L.sh (a := 61) (by decide) (by decide)).trans rfl), al_of ((L.sh (a := 61) (by decide) (by decide)).trans rfl)⟩
  · exact ⟨ga_of ((L.sh (a := 62) (by decide) (by decide)).trans rfl), al_of ((L.sh (a := 62) (by decide) (by decide)).trans rfl)⟩
theorem Lay.sI (L : Lay v c w) {a k : Nat} {x : Int32} : Lay v c (cm_sI w a k x) := L
theorem Lay.of_eq (L : Lay v c w) {w' : cm_W} (h1 : w'.1 = w.1) (hz : cm_sz w' = cm_sz w) (hn : cm_ns w' = cm_ns w) (hR : ∀ a k, cm_R w' a k = cm_R w a k) (hL : ∀ j, cm_L w' 1 j = cm_L w 1 j) : Lay v c w' := by
  obtain ⟨a1, a2, a3, a4, a5, a6, a7, a8, a9, a10⟩ := L
  refine ⟨a1, a2, fun a p q => ?_, ⟨hz.trans a4.1, hn.trans a4.2⟩, ⟨?_, fun j => (hL j).trans (a5.2 j)⟩, fun a k x h => (hR a k).trans (a6 a k x h), (hR _ _).trans a7, (hR _ _).trans a8, (hR _ _).trans a9, (hR _ _).trans a10⟩
  · show w'.1 a = _
    rw [h1]; exact a3 a p q
  · show w'.1 1 = _
    rw [h1]; exact a5.1
theorem Lay.sL (L : Lay v c w) {a k : Nat} {x : Int64} (h : a ≠ 1) : Lay v c (cm_sL w a k x) := L.of_eq rfl rfl rfl (fun _ _ => rfl) (fun j => by
  show (if 1 = a ∧ j = k then x else w.2.2.1 1 j) = w.2.2.1 1 j
  rw [if_neg (fun q => h q.1.symm)])
theorem Lay.cI (L : Lay v c w) {a0 sp a dp n : Nat} : Lay v c (cm_cI w a0 sp a dp n) := L
end LAY
