-- NailedBoxesModel.bring(I)Z
def fn_258_31 (a0 : Nat) (w : cm_W) : Option (Bool × cm_W) := (if cm_sh w a0 = some (.inl 11) then (fn_198 a0 (0 : Int32) w).bind fun v2 => some (v2.1, v2.2) else none)
theorem jt_258_31 (a0 : Nat) (w : cm_W) : sm cm_g 258 ck_258 kq_258 31 [(0, .ref a0)] [] w ((fn_258_31 a0 w).map cm_gB) := by
  unfold fn_258_31
  refine sm_seg 2 33 [(0, .ref a0)] [.int (0 : Int32), .ref a0] rfl ?_
  refine sm_gd fun h1 => ?_
  refine sm_cV (as := [.int (0 : Int32)]) (rest := []) rfl rfl rfl rfl h1 (Nat.le_of_ble_eq_true rfl) (ca_198  a0 (0 : Int32) w) fun v2 h3 => ?_
  show sm _ _ _ _ 36 [(0, .ref a0)] [.int (cm_b v2.1)] _ _
  exact sm_rBW (b := v2.1) rfl rfl
def fn_258_98 (a0 : Nat) (w : cm_W) : Option (Bool × cm_W) := (if cm_sh w a0 = some (.inl 11) then (fn_198 a0 (0 : Int32) w).bind fun v5 => some (v5.1, v5.2) else none)
theorem jt_258_98 (a0 : Nat) (w : cm_W) : sm cm_g 258 ck_258 kq_258 98 [(0, .ref a0)] [] w ((fn_258_98 a0 w).map cm_gB) := by
  unfold fn_258_98
  refine sm_seg 2 100 [(0, .ref a0)] [.int (0 : Int32), .ref a0] rfl ?_
  refine sm_gd fun h4 => ?_
  refine sm_cV (as := [.int (0 : Int32)]) (rest := []) rfl rfl rfl rfl h4 (Nat.le_of_ble_eq_true rfl) (ca_198  a0 (0 : Int32) w) fun v5 h6 => ?_
  show sm _ _ _ _ 103 [(0, .ref a0)] [.int (cm_b v5.1)] _ _
  exact sm_rBW (b := v5.1) rfl rfl
def fn_258_104 (a0 : Nat) (i1 : Int32) (i2 : Int32) (i3 : Int32) (w : cm_W) : Option (Bool × cm_W) := (if cm_sh w a0 = some (.inl 11) then (cm_R w a0 27).bind fun r8 => (cm_R w a0 53).bind fun r10 => (if cm_ga w .int r10 i1 = true then (if cm_ga w .int r8 (cm_I w r10 i1.toNatClampNeg) = true then (if cm_w2 96 143 r8 = true then (cm_R (cm_sI w r8 (cm_I w r10 i1.toNatClampNeg).toNatClampNeg ((cm_I w r8 (cm_I w r10 i1.toNatClampNeg).toNatClampNeg) - i3)) a0 27).bind fun r15 => (cm_R (cm_sI w r8 (cm_I w r10 i1.toNatClampNeg).toNatClampNeg ((cm_I w r8 (cm_I w r10 i1.toNatClampNeg).toNatClampNeg) - i3)) a0 54).bind fun r17 => (if cm_ga w .int r17 i1 = true then (if cm_ga w .int r15 (cm_I (cm_sI w r8 (cm_I w r10 i1.toNatClampNeg).toNatClampNeg ((cm_I w r8 (cm_I w r10 i1.toNatClampNeg).toNatClampNeg) - i3)) r17 i1.toNatClampNeg) = true then (if cm_w2 96 143 r15 = true then (cm_R (cm_sI (cm_sI w r8 (cm_I w r10 i1.toNatClampNeg).toNatClampNeg ((cm_I w r8 (cm_I w r10 i1.toNatClampNeg).toNatClampNeg) - i3)) r15 (cm_I (cm_sI w r8 (cm_I w r10 i1.toNatClampNeg).toNatClampNeg ((cm_I w r8 (cm_I w r10 i1.toNatClampNeg).toNatClampNeg) - i3)) r17 i1.toNatClampNeg).toNatClampNeg ((cm_I (cm_sI w r8 (cm_I w r10 i1.toNatClampNeg).toNatClampNeg ((cm_I w r8 (cm_I w r10 i1.toNatClampNeg).toNatClampNeg) - i3)) r15 (cm_I (cm_sI w r8 (cm_I w r10 i1.toNatClampNeg).toNatClampNeg ((cm_I w r8 (cm_I w r10 i1.toNatClampNeg).toNatClampNeg) - i3)) r17 i1.toNatClampNeg).toNatClampNeg) + i3)) a0 42).bind fun r22 => (cm_R (cm_sI (cm_sI w r8 (cm_I w r10 i1.toNatClampNeg).toNatClampNeg ((cm_I w r8 (cm_I w r10 i1.toNatClampNeg).toNatClampNeg) - i3)) r15 (cm_I (cm_sI w r8 (cm_I w r10 i1.toNatClampNeg).toNatClampNeg ((cm_I w r8 (cm_I w r10 i1.toNatClampNeg).toNatClampNeg) - i3)) r17 i1.toNatClampNeg).toNatClampNeg ((cm_I (cm_sI w r8 (cm_I w r10 i1.toNatClampNeg).toNatClampNeg ((cm_I w r8 (cm_I w r10 i1.toNatClampNeg).toNatClampNeg) - i3)) r15 (cm_I (cm_sI w r8 (cm_I w r10 i1.toNatClampNeg).toNatClampNeg ((cm_I w r8 (cm_I w r10 i1.toNatClampNeg).toNatClampNeg) - i3)) r17 i1.toNatClampNeg).toNatClampNeg) + i3)) a0 53).bind fun r24 => (if cm_ga w .int r24 i1 = true then (if cm_ga w .int r22 i2 = true then (if cm_w2 96 143 r22 = true then (cm_R (cm_sI (cm_sI (cm_sI w r8 (cm_I w r10 i1.toNatClampNeg).toNatClampNeg ((cm_I w r8 (cm_I w r10 i1.toNatClampNeg).toNatClampNeg) - i3)) r15 (cm_I (cm_sI w r8 (cm_I w r10 i1.toNatClampNeg).toNatClampNeg ((cm_I w r8 (cm_I w r10 i1.toNatClampNeg).toNatClampNeg) - i3)) r17 i1.toNatClampNeg).toNatClampNeg ((cm_I (cm_sI w r8 (cm_I w r10 i1.toNatClampNeg).toNatClampNeg ((cm_I w r8 (cm_I w r10 i1.toNatClampNeg).toNatClampNeg) - i3)) r15 (cm_I (cm_sI w r8 (cm_I w r10 i1.toNatClampNeg).toNatClampNeg ((cm_I w r8 (cm_I w r10 i1.toNatClampNeg).toNatClampNeg) - i3)) r17 i1.toNatClampNeg).toNatClampNeg) + i3)) r22 i2.toNatClampNeg (cm_I (cm_sI (cm_sI w r8 (cm_I w r10 i1.toNatClampNeg).toNatClampNeg ((cm_I w r8 (cm_I w r10 i1.toNatClampNeg).toNatClampNeg) - i3)) r15 (cm_I (cm_sI w r8 (cm_I w r10 i1.toNatClampNeg).toNatClampNeg ((cm_I w r8 (cm_I w r10 i1.toNatClampNeg).toNatClampNeg) - i3)) r17 i1.toNatClampNeg).toNatClampNeg ((cm_I (cm_sI w r8 (cm_I w r10 i1.toNatClampNeg).toNatClampNeg ((cm_I w r8 (cm_I w r10 i1.toNatClampNeg).toNatClampNeg) - i3)) r15 (cm_I (cm_sI w r8 (cm_I w r10 i1.toNatClampNeg).toNatClampNeg ((cm_I w r8 (cm_I w r10 i1.toNatClampNeg).toNatClampNeg) - i3)) r17 i1.toNatClampNeg).toNatClampNeg) + i3)) r24 i1.toNatClampNeg)) a0 57).bind fun r29 => (if cm_ga w .int r29 i1 = true then (if cm_w2 96 143 r29 = true then some (true, (cm_sI (cm_sI (cm_sI (cm_sI w r8 (cm_I w r10 i1.toNatClampNeg).toNatClampNeg ((cm_I w r8 (cm_I w r10 i1.toNatClampNeg).toNatClampNeg) - i3)) r15 (cm_I (cm_sI w r8 (cm_I w r10 i1.toNatClampNeg).toNatClampNeg ((cm_I w r8 (cm_I w r10 i1.toNatClampNeg).toNatClampNeg) - i3)) r17 i1.toNatClampNeg).toNatClampNeg ((cm_I (cm_sI w r8 (cm_I w r10 i1.toNatClampNeg).toNatClampNeg ((cm_I w r8 (cm_I w r10 i1.toNatClampNeg).toNatClampNeg) - i3)) r15 (cm_I (cm_sI w r8 (cm_I w r10 i1.toNatClampNeg).toNatClampNeg ((cm_I w r8 (cm_I w r10 i1.toNatClampNeg).toNatClampNeg) - i3)) r17 i1.toNatClampNeg).toNatClampNeg) + i3)) r22 i2.toNatClampNeg (cm_I (cm_sI (cm_sI w r8 (cm_I w r10 i1.toNatClampNeg).toNatClampNeg ((cm_I w r8 (cm_I w r10 i1.toNatClampNeg).toNatClampNeg) - i3)) r15 (cm_I (cm_sI w r8 (cm_I w r10 i1.toNatClampNeg).toNatClampNeg ((cm_I w r8 (cm_I w r10 i1.toNatClampNeg).toNatClampNeg) - i3)) r17 i1.toNatClampNeg).toNatClampNeg ((cm_I (cm_sI w r8 (cm_I w r10 i1.toNatClampNeg).toNatClampNeg ((cm_I w r8 (cm_I w r10 i1.toNatClampNeg).toNatClampNeg) - i3)) r15 (cm_I (cm_sI w r8 (cm_I w r10 i1.toNatClampNeg).toNatClampNeg ((cm_I w r8 (cm_I w r10 i1.toNatClampNeg).toNatClampNeg) - i3)) r17 i1.toNatClampNeg).toNatClampNeg) + i3)) r24 i1.toNatClampNeg)) r29 i1.toNatClampNeg (1 : Int32))) else none) else none) else none) else none) else none) else none) else none) else none) else none) else none) else none) else none)
theorem jt_258_104 (a0 : Nat) (i1 : Int32) (i2 : Int32) (i3 : Int32) (w : cm_W) : sm cm_g 258 ck_258 kq_258 104 [(0, .ref a0), (1, .int i1), (2, .int i2), (3, .int i3)] [] w ((fn_258_104 a0 i1 i2 i3 w).map cm_gB) := by
  unfold fn_258_104
  refine sm_seg 1 105 [(0, .ref a0), (1, .int i1), (2, .int i2), (3, .int i3)] [.ref a0] rfl ?_
  refine sm_gd fun h7 => ?_
  refine sm_gR rfl h7 rfl rfl fun r8 h9 => ?_
  show sm _ _ _ _ 108 [(0, .ref a0), (1, .int i1), (2, .int i2), (3, .int i3)] [.ref r8] _ _
  refine sm_seg 1 109 [(0, .ref a0), (1, .int i1), (2, .int i2), (3, .int i3)] [.ref a0, .ref r8] rfl ?_
  refine sm_gR rfl h7 rfl rfl fun r10 h11 => ?_
  show sm _ _ _ _ 112 [(0, .ref a0), (1, .int i1), (2, .int i2), (3, .int i3)] [.ref r10, .ref r8] _ _
  refine sm_seg 1 113 [(0, .ref a0), (1, .int i1), (2, .int i2), (3, .int i3)] [.int i1, .ref r10, .ref r8] rfl ?_
  refine sm_gd fun h12 => ?_
  refine sm_ai rfl h12 rfl ?_
  show sm _ _ _ _ 114 [(0, .ref a0), (1, .int i1), (2, .int i2), (3, .int i3)] [.int (cm_I w r10 i1.toNatClampNeg), .ref r8] _ _
  refine sm_seg 1 115 [(0, .ref a0), (1, .int i1), (2, .int i2), (3, .int i3)] [.int (cm_I w r10 i1.toNatClampNeg), .ref r8, .int (cm_I w r10 i1.toNatClampNeg), .ref r8] rfl ?_
  refine sm_gd fun h13 => ?_
  refine sm_ai rfl h13 rfl ?_
  show sm _ _ _ _ 116 [(0, .ref a0), (1, .int i1), (2, .int i2), (3, .int i3)] [.int (cm_I w r8 (cm_I w r10 i1.toNatClampNeg).toNatClampNeg), .int (cm_I w r10 i1.toNatClampNeg), .ref r8] _ _
  refine sm_seg 2 118 [(0, .ref a0), (1, .int i1), (2, .int i2), (3, .int i3)] [.int ((cm_I w r8 (cm_I w r10 i1.toNatClampNeg).toNatClampNeg) - i3), .int (cm_I w r10 i1.toNatClampNeg), .ref r8] rfl ?_
  refine sm_gd fun h14 => ?_
  refine sm_si rfl h13 h14 rfl rfl ?_
  show sm _ _ _ _ 119 [(0, .ref a0), (1, .int i1), (2, .int i2), (3, .int i3)] [] _ _
  refine sm_seg 1 120 [(0, .ref a0), (1, .int i1), (2, .int i2), (3, .int i3)] [.ref a0] rfl ?_
  refine sm_gR rfl h7 rfl rfl fun r15 h16 => ?_
  show sm _ _ _ _ 123 [(0, .ref a0), (1, .int i1), (2, .int i2), (3, .int i3)] [.ref r15] _ _
  refine sm_seg 1 124 [(0, .ref a0), (1, .int i1), (2, .int i2), (3, .int i3)] [.ref a0, .ref r15] rfl ?_
  refine sm_gR rfl h7 rfl rfl fun r17 h18 => ?_
  show sm _ _ _ _ 127 [(0, .ref a0), (1, .int i1), (2, .int i2), (3, .int i3)] [.ref r17, .ref r15] _ _
  refine sm_seg 1 128 [(0, .ref a0), (1, .int i1), (2, .int i2), (3, .int i3)] [.int i1, .ref r17, .ref r15] rfl ?_
  refine sm_gd fun h19 => ?_
  refine sm_ai rfl h19 rfl ?_
  show sm _ _ _ _ 129 [(0, .ref a0), (1, .int i1), (2, .int i2), (3, .int i3)] [.int (cm_I (cm_sI w r8 (cm_I w r10 i1.toNatClampNeg).toNatClampNeg ((cm_I w r8 (cm_I w r10 i1.toNatClampNeg).toNatClampNeg) - i3)) r17 i1.toNatClampNeg), .ref r15] _ _
  refine sm_seg 1 130 [(0, .ref a0), (1, .int i1), (2, .int i2), (3, .int i3)] [.int (cm_I (cm_sI w r8 (cm_I w r10 i1.toNatClampNeg).toNatClampNeg ((cm_I w r8 (cm_I w r10 i1.toNatClampNeg).toNatClampNeg) - i3)) r17 i1.toNatClampNeg), .ref r15, .int (cm_I (cm_sI w r8 (cm_I w r10 i1.toNatClampNeg).toNatClampNeg ((cm_I w r8 (cm_I w r10 i1.toNatClampNeg).toNatClampNeg) - i3)) r17 i1.toNatClampNeg), .ref r15] rfl ?_
  refine sm_gd fun h20 => ?_
  refine sm_ai rfl h20 rfl ?_
  show sm _ _ _ _ 131 [(0, .ref a0), (1, .int i1), (2, .int i2), (3, .int i3)] [.int (cm_I (cm_sI w r8 (cm_I w r10 i1.toNatClampNeg).toNatClampNeg ((cm_I w r8 (cm_I w r10 i1.toNatClampNeg).toNatClampNeg) - i3)) r15 (cm_I (cm_sI w r8 (cm_I w r10 i1.toNatClampNeg).toNatClampNeg ((cm_I w r8 (cm_I w r10 i1.toNatClampNeg).toNatClampNeg) - i3)) r17 i1.toNatClampNeg).toNatClampNeg), .int (cm_I (cm_sI w r8 (cm_I w r10 i1.toNatClampNeg).toNatClampNeg ((cm_I w r8 (cm_I w r10 i1.toNatClampNeg).toNatClampNeg) - i3)) r17 i1.toNatClampNeg), .ref r15] _ _
  refine sm_seg 2 133 [(0, .ref a0), (1, .int i1), (2, .int i2), (3, .int i3)] [.int ((cm_I (cm_sI w r8 (cm_I w r10 i1.toNatClampNeg).toNatClampNeg ((cm_I w r8 (cm_I w r10 i1.toNatClampNeg).toNatClampNeg) - i3)) r15 (cm_I (cm_sI w r8 (cm_I w r10 i1.toNatClampNeg).toNatClampNeg ((cm_I w r8 (cm_I w r10 i1.toNatClampNeg).toNatClampNeg) - i3)) r17 i1.toNatClampNeg).toNatClampNeg) + i3), .int (cm_I (cm_sI w r8 (cm_I w r10 i1.toNatClampNeg).toNatClampNeg ((cm_I w r8 (cm_I w r10 i1.toNatClampNeg).toNatClampNeg) - i3)) r17 i1.toNatClampNeg), .ref r15] rfl ?_
  refine sm_gd fun h21 => ?_
  refine sm_si rfl h20 h21 rfl rfl ?_
  show sm _ _ _ _ 134 [(0, .ref a0), (1, .int i1), (2, .int i2), (3, .int i3)] [] _ _
  refine sm_seg 1 135 [(0, .ref a0), (1, .int i1), (2, .int i2), (3, .int i3)] [.ref a0] rfl ?_
  refine sm_gR rfl h7 rfl rfl fun r22 h23 => ?_
  show sm _ _ _ _ 138 [(0, .ref a0), (1, .int i1), (2, .int i2), (3, .int i3)] [.ref r22] _ _
  refine sm_seg 2 140 [(0, .ref a0), (1, .int i1), (2, .int i2), (3, .int i3)] [.ref a0, .int i2, .ref r22] rfl ?_
  refine sm_gR rfl h7 rfl rfl fun r24 h25 => ?_
  show sm _ _ _ _ 143 [(0, .ref a0), (1, .int i1), (2, .int i2), (3, .int i3)] [.ref r24, .int i2, .ref r22] _ _
  refine sm_seg 1 144 [(0, .ref a0), (1, .int i1), (2, .int i2), (3, .int i3)] [.int i1, .ref r24, .int i2, .ref r22] rfl ?_
  refine sm_gd fun h26 => ?_
  refine sm_ai rfl h26 rfl ?_
  show sm _ _ _ _ 145 [(0, .ref a0), (1, .int i1), (2, .int i2), (3, .int i3)] [.int (cm_I (cm_sI (cm_sI w r8 (cm_I w r10 i1.toNatClampNeg).toNatClampNeg ((cm_I w r8 (cm_I w r10 i1.toNatClampNeg).toNatClampNeg) - i3)) r15 (cm_I (cm_sI w r8 (cm_I w r10 i1.toNatClampNeg).toNatClampNeg ((cm_I w r8 (cm_I w r10 i1.toNatClampNeg).toNatClampNeg) - i3)) r17 i1.toNatClampNeg).toNatClampNeg ((cm_I (cm_sI w r8 (cm_I w r10 i1.toNatClampNeg).toNatClampNeg ((cm_I w r8 (cm_I w r10 i1.toNatClampNeg).toNatClampNeg) - i3)) r15 (cm_I (cm_sI w r8 (cm_I w r10 i1.toNatClampNeg).toNatClampNeg ((cm_I w r8 (cm_I w r10 i1.toNatClampNeg).toNatClampNeg) - i3)) r17 i1.toNatClampNeg).toNatClampNeg) + i3)) r24 i1.toNatClampNeg), .int i2, .ref r22] _ _
  refine sm_gd fun h27 => ?_
  refine sm_gd fun h28 => ?_
  refine sm_si rfl h27 h28 rfl rfl ?_
  show sm _ _ _ _ 146 [(0, .ref a0), (1, .int i1), (2, .int i2), (3, .int i3)] [] _ _
  refine sm_seg 1 147 [(0, .ref a0), (1, .int i1), (2, .int i2), (3, .int i3)] [.ref a0] rfl ?_
  refine sm_gR rfl h7 rfl rfl fun r29 h30 => ?_
  show sm _ _ _ _ 150 [(0, .ref a0), (1, .int i1), (2, .int i2), (3, .int i3)] [.ref r29] _ _
  refine sm_seg 2 152 [(0, .ref a0), (1, .int i1), (2, .int i2), (3, .int i3)] [.int (1 : Int32), .int i1, .ref r29] rfl ?_
  refine sm_gd fun h31 => ?_
  refine sm_gd fun h32 => ?_
  refine sm_si rfl h31 h32 rfl rfl ?_
  show sm _ _ _ _ 153 [(0, .ref a0), (1, .int i1), (2, .int i2), (3, .int i3)] [] _ _
  refine sm_seg 1 154 [(0, .ref a0), (1, .int i1), (2, .int i2), (3, .int i3)] [.int (1 : Int32)] rfl ?_
  exact sm_rBW (b := true) rfl rfl
def fn_258_37 (a0 : Nat) (i1 : Int32) (w : cm_W) : Option (Bool × cm_W) := (if cm_sh w a0 = some (.inl 11) then (cm_R w a0 52).bind fun r34 => (if cm_ga w .int r34 i1 = true then (cm_R w a0 55).bind fun r37 => (if cm_ga w .int r37 i1 = true then (cm_R w a0 56).bind fun r40 => (if cm_ga w .int r40 i1 = true then (cm_R w a0 43).bind fun r43 => (if cm_ga w .int r43 (cm_I w r34 i1.toNatClampNeg) = true then (if ¬ (cm_I w r43 (cm_I w r34 i1.toNatClampNeg).toNatClampNeg) = (-1 : Int32) then fn_258_98  a0 w else (cm_R w a0 42).bind fun r47 => (if cm_ga w .int r47 (cm_I w r34 i1.toNatClampNeg) = true then (cm_R w a0 54).bind fun r50 => (if cm_ga w .int r50 i1 = true then (if ¬ (cm_I w r47 (cm_I w r34 i1.toNatClampNeg).toNatClampNeg) = (cm_I w r50 i1.toNatClampNeg) then fn_258_98  a0 w else (cm_R w a0 27).bind fun r54 => (cm_R w a0 53).bind fun r56 => (if cm_ga w .int r56 i1 = true then (if cm_ga w .int r54 (cm_I w r56 i1.toNatClampNeg) = true then (if ((cm_I w r37 i1.toNatClampNeg) + (cm_I w r40 i1.toNatClampNeg)) ≤ (cm_I w r54 (cm_I w r56 i1.toNatClampNeg).toNatClampNeg) then fn_258_104  a0 i1 (cm_I w r34 i1.toNatClampNeg) ((cm_I w r37 i1.toNatClampNeg) + (cm_I w r40 i1.toNatClampNeg)) w else fn_258_98  a0 w) else none) else none)) else none) else none)) else none) else none) else none) else none) else none)
theorem jt_258_37 (a0 : Nat) (i1 : Int32) (w : cm_W) : sm cm_g 258 ck_258 kq_258 37 [(0, .ref a0), (1, .int i1)] [] w ((fn_258_37 a0 i1 w).map cm_gB) := by
  unfold fn_258_37
  refine sm_seg 1 38 [(0, .ref a0), (1, .int i1)] [.ref a0] rfl ?_
  refine sm_gd fun h33 => ?_
  refine sm_gR rfl h33 rfl rfl fun r34 h35 => ?_
  show sm _ _ _ _ 41 [(0, .ref a0), (1, .int i1)] [.ref r34] _ _
  refine sm_seg 1 42 [(0, .ref a0), (1, .int i1)] [.int i1, .ref r34] rfl ?_
  refine sm_gd fun h36 => ?_
  refine sm_ai rfl h36 rfl ?_
  show sm _ _ _ _ 43 [(0, .ref a0), (1, .int i1)] [.int (cm_I w r34 i1.toNatClampNeg)] _ _
  refine sm_seg 2 45 [(2, .int (cm_I w r34 i1.toNatClampNeg)), (0, .ref a0), (1, .int i1)] [.ref a0] rfl ?_
  refine sm_gR rfl h33 rfl rfl fun r37 h38 => ?_
  show sm _ _ _ _ 48 [(2, .int (cm_I w r34 i1.toNatClampNeg)), (0, .ref a0), (1, .int i1)] [.ref r37] _ _
  refine sm_seg 1 49 [(2, .int (cm_I w r34 i1.toNatClampNeg)), (0, .ref a0), (1, .int i1)] [.int i1, .ref r37] rfl ?_
  refine sm_gd fun h39 => ?_
  refine sm_ai rfl h39 rfl ?_
  show sm _ _ _ _ 50 [(2, .int (cm_I w r34 i1.toNatClampNeg)), (0, .ref a0), (1, .int i1)] [.int (cm_I w r37 i1.toNatClampNeg)] _ _
  refine sm_seg 1 51 [(2, .int (cm_I w r34 i1.toNatClampNeg)), (0, .ref a0), (1, .int i1)] [.ref a0, .int (cm_I w r37 i1.toNatClampNeg)] rfl ?_
  refine sm_gR rfl h33 rfl rfl fun r40 h41 => ?_
  show sm _ _ _ _ 54 [(2, .int (cm_I w r34 i1.toNatClampNeg)), (0, .ref a0), (1, .int i1)] [.ref r40, .int (cm_I w r37 i1.toNatClampNeg)] _ _
  refine sm_seg 1 55 [(2, .int (cm_I w r34 i1.toNatClampNeg)), (0, .ref a0), (1, .int i1)] [.int i1, .ref r40, .int (cm_I w r37 i1.toNatClampNeg)] rfl ?_
  refine sm_gd fun h42 => ?_
  refine sm_ai rfl h42 rfl ?_
  show sm _ _ _ _ 56 [(2, .int (cm_I w r34 i1.toNatClampNeg)), (0, .ref a0), (1, .int i1)] [.int (cm_I w r40 i1.toNatClampNeg), .int (cm_I w r37 i1.toNatClampNeg)] _ _
  refine sm_seg 3 59 [(3, .int ((cm_I w r37 i1.toNatClampNeg) + (cm_I w r40 i1.toNatClampNeg))), (2, .int (cm_I w r34 i1.toNatClampNeg)), (0, .ref a0), (1, .int i1)] [.ref a0] rfl ?_
  refine sm_gR rfl h33 rfl rfl fun r43 h44 => ?_
  show sm _ _ _ _ 62 [(3, .int ((cm_I w r37 i1.toNatClampNeg) + (cm_I w r40 i1.toNatClampNeg))), (2, .int (cm_I w r34 i1.toNatClampNeg)), (0, .ref a0), (1, .int i1)] [.ref r43] _ _
  refine sm_seg 1 63 [(3, .int ((cm_I w r37 i1.toNatClampNeg) + (cm_I w r40 i1.toNatClampNeg))), (2, .int (cm_I w r34 i1.toNatClampNeg)), (0, .ref a0), (1, .int i1)] [.int (cm_I w r34 i1.toNatClampNeg), .ref r43] rfl ?_
  refine sm_gd fun h45 => ?_
  refine sm_ai rfl h45 rfl ?_
  show sm _ _ _ _ 64 [(3, .int ((cm_I w r37 i1.toNatClampNeg) + (cm_I w r40 i1.toNatClampNeg))), (2, .int (cm_I w r34 i1.toNatClampNeg)), (0, .ref a0), (1, .int i1)] [.int (cm_I w r43 (cm_I w r34 i1.toNatClampNeg).toNatClampNeg)] _ _
  refine sm_seg 1 65 [(3, .int ((cm_I w r37 i1.toNatClampNeg) + (cm_I w r40 i1.toNatClampNeg))), (2, .int (cm_I w r34 i1.toNatClampNeg)), (0, .ref a0), (1, .int i1)] [.int (-1 : Int32), .int (cm_I w r43 (cm_I w r34 i1.toNatClampNeg).toNatClampNeg)] rfl ?_
  refine sm_if (pc1 := 98) (lv1 := [(0, .ref a0)]) (pc2 := 68) (lv2 := [(3, .int ((cm_I w r37 i1.toNatClampNeg) + (cm_I w r40 i1.toNatClampNeg))), (2, .int (cm_I w r34 i1.toNatClampNeg)), (0, .ref a0), (1, .int i1)]) (st1 := []) rfl rfl rfl (fun h46 => ?_) (fun h46 => ?_)
  · exact jt_258_98  a0 w
  · refine sm_seg 1 69 [(3, .int ((cm_I w r37 i1.toNatClampNeg) + (cm_I w r40 i1.toNatClampNeg))), (2, .int (cm_I w r34 i1.toNatClampNeg)), (0, .ref a0), (1, .int i1)] [.ref a0] rfl ?_
    refine sm_gR rfl h33 rfl rfl fun r47 h48 => ?_
    show sm _ _ _ _ 72 [(3, .int ((cm_I w r37 i1.toNatClampNeg) + (cm_I w r40 i1.toNatClampNeg))), (2, .int (cm_I w r34 i1.toNatClampNeg)), (0, .ref a0), (1, .int i1)] [.ref r47] _ _
    refine sm_seg 1 73 [(3, .int ((cm_I w r37 i1.toNatClampNeg) + (cm_I w r40 i1.toNatClampNeg))), (2, .int (cm_I w r34 i1.toNatClampNeg)), (0, .ref a0), (1, .int i1)] [.int (cm_I w r34 i1.toNatClampNeg), .ref r47] rfl ?_
    refine sm_gd fun h49 => ?_
    refine sm_ai rfl h49 rfl ?_
    show sm _ _ _ _ 74 [(3, .int ((cm_I w r37 i1.toNatClampNeg) + (cm_I w r40 i1.toNatClampNeg))), (2, .int (cm_I w r34 i1.toNatClampNeg)), (0, .ref a0), (1, .int i1)] [.int (cm_I w r47 (cm_I w r34 i1.toNatClampNeg).toNatClampNeg)] _ _
    refine sm_seg 1 75 [(3, .int ((cm_I w r37 i1.toNatClampNeg) + (cm_I w r40 i1.toNatClampNeg))), (2, .int (cm_I w r34 i1.toNatClampNeg)), (0, .ref a0), (1, .int i1)] [.ref a0, .int (cm_I w r47 (cm_I w r34 i1.toNatClampNeg).toNatClampNeg)] rfl ?_
    refine sm_gR rfl h33 rfl rfl fun r50 h51 => ?_
    show sm _ _ _ _ 78 [(3, .int ((cm_I w r37 i1.toNatClampNeg) + (cm_I w r40 i1.toNatClampNeg))), (2, .int (cm_I w r34 i1.toNatClampNeg)), (0, .ref a0), (1, .int i1)] [.ref r50, .int (cm_I w r47 (cm_I w r34 i1.toNatClampNeg).toNatClampNeg)] _ _
    refine sm_seg 1 79 [(3, .int ((cm_I w r37 i1.toNatClampNeg) + (cm_I w r40 i1.toNatClampNeg))), (2, .int (cm_I w r34 i1.toNatClampNeg)), (0, .ref a0), (1, .int i1)] [.int i1, .ref r50, .int (cm_I w r47 (cm_I w r34 i1.toNatClampNeg).toNatClampNeg)] rfl ?_
    refine sm_gd fun h52 => ?_
    refine sm_ai rfl h52 rfl ?_
    show sm _ _ _ _ 80 [(3, .int ((cm_I w r37 i1.toNatClampNeg) + (cm_I w r40 i1.toNatClampNeg))), (2, .int (cm_I w r34 i1.toNatClampNeg)), (0, .ref a0), (1, .int i1)] [.int (cm_I w r50 i1.toNatClampNeg), .int (cm_I w r47 (cm_I w r34 i1.toNatClampNeg).toNatClampNeg)] _ _
    refine sm_if (pc1 := 98) (lv1 := [(0, .ref a0)]) (pc2 := 83) (lv2 := [(3, .int ((cm_I w r37 i1.toNatClampNeg) + (cm_I w r40 i1.toNatClampNeg))), (2, .int (cm_I w r34 i1.toNatClampNeg)), (0, .ref a0), (1, .int i1)]) (st1 := []) rfl rfl rfl (fun h53 => ?_) (fun h53 => ?_)
    · exact jt_258_98  a0 w
    · refine sm_seg 1 84 [(3, .int ((cm_I w r37 i1.toNatClampNeg) + (cm_I w r40 i1.toNatClampNeg))), (2, .int (cm_I w r34 i1.toNatClampNeg)), (0, .ref a0), (1, .int i1)] [.ref a0] rfl ?_
      refine sm_gR rfl h33 rfl rfl fun r54 h55 => ?_
      show sm _ _ _ _ 87 [(3, .int ((cm_I w r37 i1.toNatClampNeg) + (cm_I w r40 i1.toNatClampNeg))), (2, .int (cm_I w r34 i1.toNatClampNeg)), (0, .ref a0), (1, .int i1)] [.ref r54] _ _
      refine sm_seg 1 88 [(3, .int ((cm_I w r37 i1.toNatClampNeg) + (cm_I w r40 i1.toNatClampNeg))), (2, .int (cm_I w r34 i1.toNatClampNeg)), (0, .ref a0), (1, .int i1)] [.ref a0, .ref r54] rfl ?_
      refine sm_gR rfl h33 rfl rfl fun r56 h57 => ?_
      show sm _ _ _ _ 91 [(3, .int ((cm_I w r37 i1.toNatClampNeg) + (cm_I w r40 i1.toNatClampNeg))), (2, .int (cm_I w r34 i1.toNatClampNeg)), (0, .ref a0), (1, .int i1)] [.ref r56, .ref r54] _ _
      refine sm_seg 1 92 [(3, .int ((cm_I w r37 i1.toNatClampNeg) + (cm_I w r40 i1.toNatClampNeg))), (2, .int (cm_I w r34 i1.toNatClampNeg)), (0, .ref a0), (1, .int i1)] [.int i1, .ref r56, .ref r54] rfl ?_
      refine sm_gd fun h58 => ?_
      refine sm_ai rfl h58 rfl ?_
      show sm _ _ _ _ 93 [(3, .int ((cm_I w r37 i1.toNatClampNeg) + (cm_I w r40 i1.toNatClampNeg))), (2, .int (cm_I w r34 i1.toNatClampNeg)), (0, .ref a0), (1, .int i1)] [.int (cm_I w r56 i1.toNatClampNeg), .ref r54] _ _
      refine sm_gd fun h59 => ?_
      refine sm_ai rfl h59 rfl ?_
      show sm _ _ _ _ 94 [(3, .int ((cm_I w r37 i1.toNatClampNeg) + (cm_I w r40 i1.toNatClampNeg))), (2, .int (cm_I w r34 i1.toNatClampNeg)), (0, .ref a0), (1, .int i1)] [.int (cm_I w r54 (cm_I w r56 i1.toNatClampNeg).toNatClampNeg)] _ _
      refine sm_seg 1 95 [(3, .int ((cm_I w r37 i1.toNatClampNeg) + (cm_I w r40 i1.toNatClampNeg))), (2, .int (cm_I w r34 i1.toNatClampNeg)), (0, .ref a0), (1, .int i1)] [.int ((cm_I w r37 i1.toNatClampNeg) + (cm_I w r40 i1.toNatClampNeg)), .int (cm_I w r54 (cm_I w r56 i1.toNatClampNeg).toNatClampNeg)] rfl ?_
      refine sm_if (pc1 := 104) (lv1 := [(0, .ref a0), (1, .int i1), (2, .int (cm_I w r34 i1.toNatClampNeg)), (3, .int ((cm_I w r37 i1.toNatClampNeg) + (cm_I w r40 i1.toNatClampNeg)))]) (pc2 := 98) (lv2 := [(0, .ref a0)]) (st1 := []) rfl rfl rfl (fun h60 => ?_) (fun h60 => ?_)
      · exact jt_258_104  a0 i1 (cm_I w r34 i1.toNatClampNeg) ((cm_I w r37 i1.toNatClampNeg) + (cm_I w r40 i1.toNatClampNeg)) w
      · exact jt_258_98  a0 w
def fn_258 (a0 : Nat) (i1 : Int32) (w : cm_W) : Option (Bool × cm_W) := (if cm_sh w a0 = some (.inl 11) then (fn_194 w i1 (0 : Int32) ((cm_I w a0 51) - (1 : Int32))).bind fun v62 => (if (cm_b v62) = 0 then fn_258_31  a0 w else (cm_R w a0 57).bind fun r65 => (if cm_ga w .int r65 i1 = true then (if (cm_I w r65 i1.toNatClampNeg) = (1 : Int32) then fn_258_31  a0 w else (fn_234 w a0).bind fun v69 => (if ¬ (cm_b v69) = 0 then fn_258_37  a0 i1 w else fn_258_31  a0 w)) else none)) else none)
theorem jt_258_0 (a0 : Nat) (i1 : Int32) (w : cm_W) : sm cm_g 258 ck_258 kq_258 0 [(0, .ref a0), (1, .int i1)] [] w ((fn_258 a0 i1 w).map cm_gB) := by
  unfold fn_258
  refine sm_seg 3 3 [(0, .ref a0), (1, .int i1)] [.ref a0, .int (0 : Int32), .int i1] rfl ?_
  refine sm_gd fun h61 => ?_
  refine sm_gI rfl h61 rfl ?_
  show sm _ _ _ _ 6 [(0, .ref a0), (1, .int i1)] [.int (cm_I w a0 51), .int (0 : Int32), .int i1] _ _
  refine sm_seg 2 8 [(0, .ref a0), (1, .int i1)] [.int ((cm_I w a0 51) - (1 : Int32)), .int (0 : Int32), .int i1] rfl ?_
  refine sm_cS (av := [.int i1, .int (0 : Int32), .int ((cm_I w a0 51) - (1 : Int32))]) (rest := []) rfl rfl rfl rfl (Nat.le_of_ble_eq_true rfl) (ca_194 w i1 (0 : Int32) ((cm_I w a0 51) - (1 : Int32))) fun v62 h63 => ?_
  show sm _ _ _ _ 11 [(0, .ref a0), (1, .int i1)] [.int (cm_b v62)] _ _
  refine sm_if (pc1 := 31) (lv1 := [(0, .ref a0)]) (pc2 := 14) (lv2 := [(0, .ref a0), (1, .int i1)]) (st1 := []) rfl rfl rfl (fun h64 => ?_) (fun h64 => ?_)
  · exact jt_258_31  a0 w
  · refine sm_seg 1 15 [(0, .ref a0), (1, .int i1)] [.ref a0] rfl ?_
    refine sm_gR rfl h61 rfl rfl fun r65 h66 => ?_
    show sm _ _ _ _ 18 [(0, .ref a0), (1, .int i1)] [.ref r65] _ _
    refine sm_seg 1 19 [(0, .ref a0), (1, .int i1)] [.int i1, .ref r65] rfl ?_
    refine sm_gd fun h67 => ?_
    refine sm_ai rfl h67 rfl ?_
    show sm _ _ _ _ 20 [(0, .ref a0), (1, .int i1)] [.int (cm_I w r65 i1.toNatClampNeg)] _ _
    refine sm_seg 1 21 [(0, .ref a0), (1, .int i1)] [.int (1 : Int32), .int (cm_I w r65 i1.toNatClampNeg)] rfl ?_
    refine sm_if (pc1 := 31) (lv1 := [(0, .ref a0)]) (pc2 := 24) (lv2 := [(0, .ref a0), (1, .int i1)]) (st1 := []) rfl rfl rfl (fun h68 => ?_) (fun h68 => ?_)
    · exact jt_258_31  a0 w
    · refine sm_seg 1 25 [(0, .ref a0), (1, .int i1)] [.ref a0] rfl ?_
      refine sm_cV (as := []) (rest := []) rfl rfl rfl rfl h61 (Nat.le_of_ble_eq_true rfl) (ca_234 w a0) fun v69 h70 => ?_
      show sm _ _ _ _ 28 [(0, .ref a0), (1, .int i1)] [.int (cm_b v69)] _ _
      refine sm_if (pc1 := 37) (lv1 := [(0, .ref a0), (1, .int i1)]) (pc2 := 31) (lv2 := [(0, .ref a0)]) (st1 := []) rfl rfl rfl (fun h71 => ?_) (fun h71 => ?_)
      · exact jt_258_37  a0 i1 w
      · exact jt_258_31  a0 w
theorem ca_258 (a0 : Nat) (i1 : Int32) (w : cm_W) : cm_ca cm_g 258 [.ref a0, .int i1] w ((fn_258 a0 i1 w).map cm_gB) := cm_ca_of (cm_me_of rfl rfl) rfl (jt_258_0 a0 i1 w)
-- NailedBoxesModel.loan(II)I
def fn_259_63 (w : cm_W) (a0 : Nat) (i1 : Int32) : Option Int32 := (if cm_sh w a0 = some (.inl 11) then (cm_R w a0 53).bind fun r2 => (if cm_ga w .int r2 i1 = true then some (cm_I w r2 i1.toNatClampNeg) else none) else none)
theorem jt_259_63 (w : cm_W) (a0 : Nat) (i1 : Int32) : sm cm_g 259 ck_259 kq_259 63 [(0, .ref a0), (1, .int i1)] [] w ((fn_259_63 w a0 i1).map (cm_fI w)) := by
  unfold fn_259_63
  refine sm_seg 1 64 [(0, .ref a0), (1, .int i1)] [.ref a0] rfl ?_
  refine sm_gd fun h1 => ?_
  refine sm_gR rfl h1 rfl rfl fun r2 h3 => ?_
  show sm _ _ _ _ 67 [(0, .ref a0), (1, .int i1)] [.ref r2] _ _
  refine sm_seg 1 68 [(0, .ref a0), (1, .int i1)] [.int i1, .ref r2] rfl ?_
  refine sm_gd fun h4 => ?_
  refine sm_ai rfl h4 rfl ?_
  show sm _ _ _ _ 69 [(0, .ref a0), (1, .int i1)] [.int (cm_I w r2 i1.toNatClampNeg)] _ _
  exact sm_rI rfl rfl
def fn_259_70 (w : cm_W) (a0 : Nat) (i1 : Int32) : Option Int32 := (if cm_sh w a0 = some (.inl 11) then (cm_R w a0 54).bind fun r6 => (if cm_ga w .int r6 i1 = true then some (cm_I w r6 i1.toNatClampNeg) else none) else none)
theorem jt_259_70 (w : cm_W) (a0 : Nat) (i1 : Int32) : sm cm_g 259 ck_259 kq_259 70 [(0, .ref a0), (1, .int i1)] [] w ((fn_259_70 w a0 i1).map (cm_fI w)) := by
  unfold fn_259_70
  refine sm_seg 1 71 [(0, .ref a0), (1, .int i1)] [.ref a0] rfl ?_
  refine sm_gd fun h5 => ?_
  refine sm_gR rfl h5 rfl rfl fun r6 h7 => ?_
  show sm _ _ _ _ 74 [(0, .ref a0), (1, .int i1)] [.ref r6] _ _
  refine sm_seg 1 75 [(0, .ref a0), (1, .int i1)] [.int i1, .ref r6] rfl ?_
  refine sm_gd fun h8 => ?_
  refine sm_ai rfl h8 rfl ?_
  show sm _ _ _ _ 76 [(0, .ref a0), (1, .int i1)] [.int (cm_I w r6 i1.toNatClampNeg)] _ _
  exact sm_rI rfl rfl
def fn_259_77 (w : cm_W) (a0 : Nat) (i1 : Int32) : Option Int32 := (if cm_sh w a0 = some (.inl 11) then (cm_R w a0 55).bind fun r10 => (if cm_ga w .int r10 i1 = true then some (cm_I w r10 i1.toNatClampNeg) else none) else none)
theorem jt_259_77 (w : cm_W) (a0 : Nat) (i1 : Int32) : sm cm_g 259 ck_259 kq_259 77 [(0, .ref a0), (1, .int i1)] [] w ((fn_259_77 w a0 i1).map (cm_fI w)) := by
  unfold fn_259_77
  refine sm_seg 1 78 [(0, .ref a0), (1, .int i1)] [.ref a0] rfl ?_
  refine sm_gd fun h9 => ?_
  refine sm_gR rfl h9 rfl rfl fun r10 h11 => ?_
  show sm _ _ _ _ 81 [(0, .ref a0), (1, .int i1)] [.ref r10] _ _
  refine sm_seg 1 82 [(0, .ref a0), (1, .int i1)] [.int i1, .ref r10] rfl ?_
  refine sm_gd fun h12 => ?_
  refine sm_ai rfl h12 rfl ?_
  show sm _ _ _ _ 83 [(0, .ref a0), (1, .int i1)] [.int (cm_I w r10 i1.toNatClampNeg)] _ _
  exact sm_rI rfl rfl
def fn_259_84 (w : cm_W) (a0 : Nat) (i1 : Int32) : Option Int32 := (if cm_sh w a0 = some (.inl 11) then (cm_R w a0 56).bind fun r14 => (if cm_ga w .int r14 i1 = true then some (cm_I w r14 i1.toNatClampNeg) else none) else none)
theorem jt_259_84 (w : cm_W) (a0 : Nat) (i1 : Int32) : sm cm_g 259 ck_259 kq_259 84 [(0, .ref a0), (1, .int i1)] [] w ((fn_259_84 w a0 i1).map (cm_fI w)) := by
  unfold fn_259_84
  refine sm_seg 1 85 [(0, .ref a0), (1, .int i1)] [.ref a0] rfl ?_
  refine sm_gd fun h13 => ?_
  refine sm_gR rfl h13 rfl rfl fun r14 h15 => ?_
  show sm _ _ _ _ 88 [(0, .ref a0), (1, .int i1)] [.ref r14] _ _
  refine sm_seg 1 89 [(0, .ref a0), (1, .int i1)] [.int i1, .ref r14] rfl ?_
  refine sm_gd fun h16 => ?_
  refine sm_ai rfl h16 rfl ?_
  show sm _ _ _ _ 90 [(0, .ref a0), (1, .int i1)] [.int (cm_I w r14 i1.toNatClampNeg)] _ _
  exact sm_rI rfl rfl
def fn_259_91 (w : cm_W) (a0 : Nat) (i1 : Int32) : Option Int32 := (if cm_sh w a0 = some (.inl 11) then (cm_R w a0 57).bind fun r18 => (if cm_ga w .int r18 i1 = true then some (cm_I w r18 i1.toNatClampNeg) else none) else none)
theorem jt_259_91 (w : cm_W) (a0 : Nat) (i1 : Int32) : sm cm_g 259 ck_259 kq_259 91 [(0, .ref a0), (1, .int i1)] [] w ((fn_259_91 w a0 i1).map (cm_fI w)) := by
  unfold fn_259_91
  refine sm_seg 1 92 [(0, .ref a0), (1, .int i1)] [.ref a0] rfl ?_
  refine sm_gd fun h17 => ?_
  refine sm_gR rfl h17 rfl rfl fun r18 h19 => ?_
  show sm _ _ _ _ 95 [(0, .ref a0), (1, .int i1)] [.ref r18] _ _
  refine sm_seg 1 96 [(0, .ref a0), (1, .int i1)] [.int i1, .ref r18] rfl ?_
  refine sm_gd fun h20 => ?_
  refine sm_ai rfl h20 rfl ?_
  show sm _ _ _ _ 97 [(0, .ref a0), (1, .int i1)] [.int (cm_I w r18 i1.toNatClampNeg)] _ _
  exact sm_rI rfl rfl
def fn_259_16 (w : cm_W) (a0 : Nat) (i1 : Int32) (i2 : Int32) : Option Int32 := (if i2 = (0 : Int32) then (if cm_sh w a0 = some (.inl 11) then (cm_R w a0 52).bind fun r23 => (if cm_ga w .int r23 i1 = true then some (cm_I w r23 i1.toNatClampNeg) else none) else none) else (if i2 = (1 : Int32) then fn_259_63 w a0 i1 else (if i2 = (2 : Int32) then fn_259_70 w a0 i1 else (if i2 = (3 : Int32) then fn_259_77 w a0 i1 else (if i2 = (4 : Int32) then fn_259_84 w a0 i1 else (if i2 = (5 : Int32) then fn_259_91 w a0 i1 else some (-1 : Int32)))))))
theorem jt_259_16 (w : cm_W) (a0 : Nat) (i1 : Int32) (i2 : Int32) : sm cm_g 259 ck_259 kq_259 16 [(0, .ref a0), (1, .int i1), (2, .int i2)] [] w ((fn_259_16 w a0 i1 i2).map (cm_fI w)) := by
  unfold fn_259_16
  refine sm_seg 1 17 [(0, .ref a0), (1, .int i1), (2, .int i2)] [.int i2] rfl ?_
  refine sm_br (fun h21 => ?_) (fun h21 => ?_)
  · refine sm_ts (off := (39)) (pc1 := 56) (lv1 := [(0, .ref a0), (1, .int i1), (2, .int i2)]) rfl (by rw [h21]; rfl) rfl rfl ?_
    refine sm_seg 1 57 [(0, .ref a0), (1, .int i1), (2, .int i2)] [.ref a0] rfl ?_
    refine sm_gd fun h22 => ?_
    refine sm_gR rfl h22 rfl rfl fun r23 h24 => ?_
    show sm _ _ _ _ 60 [(0, .ref a0), (1, .int i1), (2, .int i2)] [.ref r23] _ _
    refine sm_seg 1 61 [(0, .ref a0), (1, .int i1), (2, .int i2)] [.int i1, .ref r23] rfl ?_
    refine sm_gd fun h25 => ?_
    refine sm_ai rfl h25 rfl ?_
    show sm _ _ _ _ 62 [(0, .ref a0), (1, .int i1), (2, .int i2)] [.int (cm_I w r23 i1.toNatClampNeg)] _ _
    exact sm_rI rfl rfl
  refine sm_br (fun h26 => ?_) (fun h26 => ?_)
  · refine sm_ts (off := (46)) (pc1 := 63) (lv1 := [(0, .ref a0), (1, .int i1)]) rfl (by rw [h26]; rfl) rfl rfl ?_
    exact jt_259_63 w a0 i1
  refine sm_br (fun h27 => ?_) (fun h27 => ?_)
  · refine sm_ts (off := (53)) (pc1 := 70) (lv1 := [(0, .ref a0), (1, .int i1)]) rfl (by rw [h27]; rfl) rfl rfl ?_
    exact jt_259_70 w a0 i1
  refine sm_br (fun h28 => ?_) (fun h28 => ?_)
  · refine sm_ts (off := (60)) (pc1 := 77) (lv1 := [(0, .ref a0), (1, .int i1)]) rfl (by rw [h28]; rfl) rfl rfl ?_
    exact jt_259_77 w a0 i1
  refine sm_br (fun h29 => ?_) (fun h29 => ?_)
  · refine sm_ts (off := (67)) (pc1 := 84) (lv1 := [(0, .ref a0), (1, .int i1)]) rfl (by rw [h29]; rfl) rfl rfl ?_
    exact jt_259_84 w a0 i1
  refine sm_br (fun h30 => ?_) (fun h30 => ?_)
  · refine sm_ts (off := (74)) (pc1 := 91) (lv1 := [(0, .ref a0), (1, .int i1)]) rfl (by rw [h30]; rfl) rfl rfl ?_
    exact jt_259_91 w a0 i1
  refine sm_ts (off := (81)) (pc1 := 98) (lv1 := []) rfl (cm_tsd (n := 6) rfl rfl (fun j hj => match j, hj with | 0, _ => .inr (cm_ne h21 rfl) | 1, _ => .inr (cm_ne h26 rfl) | 2, _ => .inr (cm_ne h27 rfl) | 3, _ => .inr (cm_ne h28 rfl) | 4, _ => .inr (cm_ne h29 rfl) | 5, _ => .inr (cm_ne h30 rfl) | _ + 6, h => absurd h (by omega))) rfl rfl ?_
  refine sm_seg 1 99 [] [.int (-1 : Int32)] rfl ?_
  exact sm_rI rfl rfl
def fn_259 (w : cm_W) (a0 : Nat) (i1 : Int32) (i2 : Int32) : Option Int32 := (if cm_sh w a0 = some (.inl 11) then (fn_194 w i1 (0 : Int32) ((cm_I w a0 51) - (1 : Int32))).bind fun v32 => (if ¬ (cm_b v32) = 0 then fn_259_16 w a0 i1 i2 else some (-1 : Int32)) else none)
theorem jt_259_0 (w : cm_W) (a0 : Nat) (i1 : Int32) (i2 : Int32) : sm cm_g 259 ck_259 kq_259 0 [(0, .ref a0), (1, .int i1), (2, .int i2)] [] w ((fn_259 w a0 i1 i2).map (cm_fI w)) := by
  unfold fn_259
  refine sm_seg 3 3 [(0, .ref a0), (1, .int i1), (2, .int i2)] [.ref a0, .int (0 : Int32), .int i1] rfl ?_
  refine sm_gd fun h31 => ?_
  refine sm_gI rfl h31 rfl ?_
  show sm _ _ _ _ 6 [(0, .ref a0), (1, .int i1), (2, .int i2)] [.int (cm_I w a0 51), .int (0 : Int32), .int i1] _ _
  refine sm_seg 2 8 [(0, .ref a0), (1, .int i1), (2, .int i2)] [.int ((cm_I w a0 51) - (1 : Int32)), .int (0 : Int32), .int i1] rfl ?_
  refine sm_cS (av := [.int i1, .int (0 : Int32), .int ((cm_I w a0 51) - (1 : Int32))]) (rest := []) rfl rfl rfl rfl (Nat.le_of_ble_eq_true rfl) (ca_194 w i1 (0 : Int32) ((cm_I w a0 51) - (1 : Int32))) fun v32 h33 => ?_
  show sm _ _ _ _ 11 [(0, .ref a0), (1, .int i1), (2, .int i2)] [.int (cm_b v32)] _ _
  refine sm_if (pc1 := 16) (lv1 := [(0, .ref a0), (1, .int i1), (2, .int i2)]) (pc2 := 14) (lv2 := [(0, .ref a0), (1, .int i1), (2, .int i2)]) (st1 := []) rfl rfl rfl (fun h34 => ?_) (fun h34 => ?_)
  · exact jt_259_16 w a0 i1 i2
  · refine sm_seg 1 15 [(0, .ref a0), (1, .int i1), (2, .int i2)] [.int (-1 : Int32)] rfl ?_
    exact sm_rI rfl rfl
theorem ca_259 (w : cm_W) (a0 : Nat) (i1 : Int32) (i2 : Int32) : cm_ca cm_g 259 [.ref a0, .int i1, .int i2] w ((fn_259 w a0 i1 i2).map (cm_fI w)) := cm_ca_of (cm_me_of rfl rfl) rfl (jt_259_0 w a0 i1 i2)
-- NailedBoxesModel.soldTimes(I)I
def fn_260_4 (w : cm_W) : Nat → Nat → Int32 → Int32 → Int32 → Option Int32
  | 0, _, _, _, _ => none
  | n + 1, a0, i1, i2, i3 => (if cm_sh w a0 = some (.inl 11) then (if (cm_I w a0 39) ≤ i3 then some i2 else (cm_R w a0 48).bind fun r3 => (if cm_ga w .int r3 ((7 : Int32) * i3) = true then (if ¬ (cm_I w r3 ((7 : Int32) * i3).toNatClampNeg) = i1 then (fn_195 w (0 : Int32)).bind fun v7 => fn_260_4 w n a0 i1 (i2 + v7) (i3 + (1 : Int32)) else (cm_R w a0 48).bind fun r9 => (if cm_ga w .int r9 (((7 : Int32) * i3) + (1 : Int32)) = true then (if ¬ (cm_I w r9 (((7 : Int32) * i3) + (1 : Int32)).toNatClampNeg) = 0 then (fn_195 w (0 : Int32)).bind fun v13 => fn_260_4 w n a0 i1 (i2 + v13) (i3 + (1 : Int32)) else (fn_195 w (1 : Int32)).bind fun v15 => fn_260_4 w n a0 i1 (i2 + v15) (i3 + (1 : Int32))) else none)) else none)) else none)
theorem jt_260_4 (w : cm_W) : ∀ (n : Nat) (a0 : Nat) (i1 : Int32) (i2 : Int32) (i3 : Int32), sm cm_g 260 ck_260 kq_260 4 [(0, .ref a0), (1, .int i1), (2, .int i2), (3, .int i3)] [] w ((fn_260_4 w n a0 i1 i2 i3).map (cm_fI w)) := by
  intro n
  induction n with
  | zero => intro a0 i1 i2 i3; exact sm_no
  | succ n ih =>
    intro a0 i1 i2 i3
    rw [fn_260_4]
    refine sm_seg 2 6 [(0, .ref a0), (1, .int i1), (2, .int i2), (3, .int i3)] [.ref a0, .int i3] rfl ?_
    refine sm_gd fun h1 => ?_
    refine sm_gI rfl h1 rfl ?_
    show sm _ _ _ _ 9 [(0, .ref a0), (1, .int i1), (2, .int i2), (3, .int i3)] [.int (cm_I w a0 39), .int i3] _ _
    refine sm_if (pc1 := 56) (lv1 := [(2, .int i2)]) (pc2 := 12) (lv2 := [(0, .ref a0), (1, .int i1), (2, .int i2), (3, .int i3)]) (st1 := []) rfl rfl rfl (fun h2 => ?_) (fun h2 => ?_)
    · refine sm_seg 1 57 [(2, .int i2)] [.int i2] rfl ?_
      exact sm_rI rfl rfl
    · refine sm_seg 2 14 [(0, .ref a0), (1, .int i1), (2, .int i2), (3, .int i3)] [.ref a0, .int i2] rfl ?_
      refine sm_gR rfl h1 rfl rfl fun r3 h4 => ?_
      show sm _ _ _ _ 17 [(0, .ref a0), (1, .int i1), (2, .int i2), (3, .int i3)] [.ref r3, .int i2] _ _
      refine sm_seg 3 21 [(0, .ref a0), (1, .int i1), (2, .int i2), (3, .int i3)] [.int ((7 : Int32) * i3), .ref r3, .int i2] rfl ?_
      refine sm_gd fun h5 => ?_
      refine sm_ai rfl h5 rfl ?_
      show sm _ _ _ _ 22 [(0, .ref a0), (1, .int i1), (2, .int i2), (3, .int i3)] [.int (cm_I w r3 ((7 : Int32) * i3).toNatClampNeg), .int i2] _ _
      refine sm_seg 1 23 [(0, .ref a0), (1, .int i1), (2, .int i2), (3, .int i3)] [.int i1, .int (cm_I w r3 ((7 : Int32) * i3).toNatClampNeg), .int i2] rfl ?_
      refine sm_if (pc1 := 44) (lv1 := [(0, .ref a0), (1, .int i1), (3, .int i3)]) (pc2 := 26) (lv2 := [(0, .ref a0), (1, .int i1), (2, .int i2), (3, .int i3)]) (st1 := [.int i2]) rfl rfl rfl (fun h6 => ?_) (fun h6 => ?_)
      · refine sm_seg 1 45 [(0, .ref a0), (1, .int i1), (3, .int i3)] [.int (0 : Int32), .int i2] rfl ?_
        refine sm_cS (av := [.int (0 : Int32)]) (rest := [.int i2]) rfl rfl rfl rfl (Nat.le_of_ble_eq_true rfl) (ca_195 w (0 : Int32)) fun v7 h8 => ?_
        show sm _ _ _ _ 48 [(0, .ref a0), (1, .int i1), (3, .int i3)] [.int v7, .int i2] _ _
        refine sm_seg 4 4 [(0, .ref a0), (1, .int i1), (2, .int (i2 + v7)), (3, .int (i3 + (1 : Int32)))] [] rfl ?_
        exact ih a0 i1 (i2 + v7) (i3 + (1 : Int32))
      · refine sm_seg 1 27 [(0, .ref a0), (1, .int i1), (2, .int i2), (3, .int i3)] [.ref a0, .int i2] rfl ?_
        refine sm_gR rfl h1 rfl rfl fun r9 h10 => ?_
        show sm _ _ _ _ 30 [(0, .ref a0), (1, .int i1), (2, .int i2), (3, .int i3)] [.ref r9, .int i2] _ _
        refine sm_seg 5 36 [(0, .ref a0), (1, .int i1), (2, .int i2), (3, .int i3)] [.int (((7 : Int32) * i3) + (1 : Int32)), .ref r9, .int i2] rfl ?_
        refine sm_gd fun h11 => ?_
        refine sm_ai rfl h11 rfl ?_
        show sm _ _ _ _ 37 [(0, .ref a0), (1, .int i1), (2, .int i2), (3, .int i3)] [.int (cm_I w r9 (((7 : Int32) * i3) + (1 : Int32)).toNatClampNeg), .int i2] _ _
        refine sm_if (pc1 := 44) (lv1 := [(0, .ref a0), (1, .int i1), (3, .int i3)]) (pc2 := 40) (lv2 := [(0, .ref a0), (1, .int i1), (2, .int i2), (3, .int i3)]) (st1 := [.int i2]) rfl rfl rfl (fun h12 => ?_) (fun h12 => ?_)
        · refine sm_seg 1 45 [(0, .ref a0), (1, .int i1), (3, .int i3)] [.int (0 : Int32), .int i2] rfl ?_
          refine sm_cS (av := [.int (0 : Int32)]) (rest := [.int i2]) rfl rfl rfl rfl (Nat.le_of_ble_eq_true rfl) (ca_195 w (0 : Int32)) fun v13 h14 => ?_
          show sm _ _ _ _ 48 [(0, .ref a0), (1, .int i1), (3, .int i3)] [.int v13, .int i2] _ _
          refine sm_seg 4 4 [(0, .ref a0), (1, .int i1), (2, .int (i2 + v13)), (3, .int (i3 + (1 : Int32)))] [] rfl ?_
          exact ih a0 i1 (i2 + v13) (i3 + (1 : Int32))
        · refine sm_seg 2 45 [(0, .ref a0), (1, .int i1), (3, .int i3)] [.int (1 : Int32), .int i2] rfl ?_
          refine sm_cS (av := [.int (1 : Int32)]) (rest := [.int i2]) rfl rfl rfl rfl (Nat.le_of_ble_eq_true rfl) (ca_195 w (1 : Int32)) fun v15 h16 => ?_
          show sm _ _ _ _ 48 [(0, .ref a0), (1, .int i1), (3, .int i3)] [.int v15, .int i2] _ _
          refine sm_seg 4 4 [(0, .ref a0), (1, .int i1), (2, .int (i2 + v15)), (3, .int (i3 + (1 : Int32)))] [] rfl ?_
          exact ih a0 i1 (i2 + v15) (i3 + (1 : Int32))
def fn_260 (w : cm_W) (a0 : Nat) (i1 : Int32) : Option Int32 := fn_260_4 w cm_N a0 i1 (0 : Int32) (0 : Int32)
theorem jt_260_0 (w : cm_W) (a0 : Nat) (i1 : Int32) : sm cm_g 260 ck_260 kq_260 0 [(0, .ref a0), (1, .int i1)] [] w ((fn_260 w a0 i1).map (cm_fI w)) := by
  unfold fn_260
  refine sm_seg 4 4 [(0, .ref a0), (1, .int i1), (2, .int (0 : Int32)), (3, .int (0 : Int32))] [] rfl ?_
  exact jt_260_4 w cm_N a0 i1 (0 : Int32) (0 : Int32)
theorem ca_260 (w : cm_W) (a0 : Nat) (i1 : Int32) : cm_ca cm_g 260 [.ref a0, .int i1] w ((fn_260 w a0 i1).map (cm_fI w)) := cm_ca_of (cm_me_of rfl rfl) rfl (jt_260_0 w a0 i1)
-- NailedBoxesModel.known(II)I
def fn_261_86 (w : cm_W) (k_34 : Nat → Int32 → Int32 → Int32 → Int32 → Int32 → Option Int32) (a0 : Nat) (i1 : Int32) (i2 : Int32) (i3 : Int32) (i4 : Int32) (i5 : Int32) : Option Int32 := k_34 a0 i1 i2 i3 i4 (i5 + (1 : Int32))
theorem jt_261_86 (w : cm_W) (k_34 : Nat → Int32 → Int32 → Int32 → Int32 → Int32 → Option Int32) (hk_34 : ∀ (a0 : Nat) (i1 : Int32) (i2 : Int32) (i3 : Int32) (i4 : Int32) (i5 : Int32), sm cm_g 261 ck_261 kq_261 34 [(0, .ref a0), (1, .int i1), (2, .int i2), (3, .int i3), (4, .int i4), (5, .int i5)] [] w ((k_34 a0 i1 i2 i3 i4 i5).map (cm_fI w))) (a0 : Nat) (i1 : Int32) (i2 : Int32) (i3 : Int32) (i4 : Int32) (i5 : Int32) : sm cm_g 261 ck_261 kq_261 86 [(0, .ref a0), (1, .int i1), (2, .int i2), (3, .int i3), (4, .int i4), (5, .int i5)] [] w ((fn_261_86 w k_34 a0 i1 i2 i3 i4 i5).map (cm_fI w)) := by
  unfold fn_261_86
  refine sm_seg 2 34 [(0, .ref a0), (1, .int i1), (2, .int i2), (3, .int i3), (4, .int i4), (5, .int (i5 + (1 : Int32)))] [] rfl ?_
  exact hk_34 a0 i1 i2 i3 i4 (i5 + (1 : Int32))
def fn_261_66 (w : cm_W) (k_34 : Nat → Int32 → Int32 → Int32 → Int32 → Int32 → Option Int32) (a0 : Nat) (i1 : Int32) (i2 : Int32) (i3 : Int32) (i4 : Int32) (i5 : Int32) : Option Int32 := (if cm_sh w a0 = some (.inl 11) then (cm_R w a0 41).bind fun r2 => (if cm_ga w .int r2 i5 = true then (fn_222 w a0 (cm_I w r2 i5.toNatClampNeg) (5 : Int32)).bind fun v5 => fn_261_86 w k_34 a0 i1 i2 (i3 + (1 : Int32)) (i4 + v5) i5 else none) else none)
theorem jt_261_66 (w : cm_W) (k_34 : Nat → Int32 → Int32 → Int32 → Int32 → Int32 → Option Int32) (hk_34 : ∀ (a0 : Nat) (i1 : Int32) (i2 : Int32) (i3 : Int32) (i4 : Int32) (i5 : Int32), sm cm_g 261 ck_261 kq_261 34 [(0, .ref a0), (1, .int i1), (2, .int i2), (3, .int i3), (4, .int i4), (5, .int i5)] [] w ((k_34 a0 i1 i2 i3 i4 i5).map (cm_fI w))) (a0 : Nat) (i1 : Int32) (i2 : Int32) (i3 : Int32) (i4 : Int32) (i5 : Int32) : sm cm_g 261 ck_261 kq_261 66 [(0, .ref a0), (1, .int i1), (2, .int i2), (3, .int i3), (4, .int i4), (5, .int i5)] [] w ((fn_261_66 w k_34 a0 i1 i2 i3 i4 i5).map (cm_fI w)) := by
  unfold fn_261_66
  refine sm_seg 4 73 [(3, .int (i3 + (1 : Int32))), (0, .ref a0), (1, .int i1), (2, .int i2), (4, .int i4), (5, .int i5)] [.ref a0, .ref a0, .int i4] rfl ?_
  refine sm_gd fun h1 => ?_
  refine sm_gR rfl h1 rfl rfl fun r2 h3 => ?_
  show sm _ _ _ _ 76 [(3, .int (i3 + (1 : Int32))), (0, .ref a0), (1, .int i1), (2, .int i2), (4, .int i4), (5, .int i5)] [.ref r2, .ref a0, .int i4] _ _
  refine sm_seg 1 78 [(3, .int (i3 + (1 : Int32))), (0, .ref a0), (1, .int i1), (2, .int i2), (4, .int i4), (5, .int i5)] [.int i5, .ref r2, .ref a0, .int i4] rfl ?_
  refine sm_gd fun h4 => ?_
  refine sm_ai rfl h4 rfl ?_
  show sm _ _ _ _ 79 [(3, .int (i3 + (1 : Int32))), (0, .ref a0), (1, .int i1), (2, .int i2), (4, .int i4), (5, .int i5)] [.int (cm_I w r2 i5.toNatClampNeg), .ref a0, .int i4] _ _
  refine sm_seg 1 80 [(3, .int (i3 + (1 : Int32))), (0, .ref a0), (1, .int i1), (2, .int i2), (4, .int i4), (5, .int i5)] [.int (5 : Int32), .int (cm_I w r2 i5.toNatClampNeg), .ref a0, .int i4] rfl ?_
  refine sm_cV (as := [.int (cm_I w r2 i5.toNatClampNeg), .int (5 : Int32)]) (rest := [.int i4]) rfl rfl rfl rfl h1 (Nat.le_of_ble_eq_true rfl) (ca_222 w a0 (cm_I w r2 i5.toNatClampNeg) (5 : Int32)) fun v5 h6 => ?_
  show sm _ _ _ _ 83 [(3, .int (i3 + (1 : Int32))), (0, .ref a0), (1, .int i1), (2, .int i2), (4, .int i4), (5, .int i5)] [.int v5, .int i4] _ _
  refine sm_seg 2 86 [(0, .ref a0), (1, .int i1), (2, .int i2), (3, .int (i3 + (1 : Int32))), (4, .int (i4 + v5)), (5, .int i5)] [] rfl ?_
  exact jt_261_86 w k_34 hk_34 a0 i1 i2 (i3 + (1 : Int32)) (i4 + v5) i5
def fn_261_114 (w : cm_W) (i3 : Int32) (i4 : Int32) : Option Int32 := (if ¬ i3 = 0 then some (((100 : Int32) * i4) / i3) else none)
theorem jt_261_114 (w : cm_W) (i3 : Int32) (i4 : Int32) : sm cm_g 261 ck_261 kq_261 114 [(3, .int i3), (4, .int i4)] [] w ((fn_261_114 w i3 i4).map (cm_fI w)) := by
  unfold fn_261_114
  refine sm_seg 4 120 [(3, .int i3), (4, .int i4)] [.int i3, .int ((100 : Int32) * i4)] rfl ?_
  refine sm_gd fun h7 => ?_
  refine sm_idiv rfl h7 rfl ?_
  show sm _ _ _ _ 121 [] [.int (((100 : Int32) * i4) / i3)] _ _
  exact sm_rI rfl rfl
def fn_261_106 (w : cm_W) (i3 : Int32) (i4 : Int32) : Option Int32 := (if ¬ i3 = 0 then fn_261_114 w i3 i4 else some (-1 : Int32))
theorem jt_261_106 (w : cm_W) (i3 : Int32) (i4 : Int32) : sm cm_g 261 ck_261 kq_261 106 [(3, .int i3), (4, .int i4)] [] w ((fn_261_106 w i3 i4).map (cm_fI w)) := by
  unfold fn_261_106
  refine sm_seg 1 107 [(3, .int i3), (4, .int i4)] [.int i3] rfl ?_
  refine sm_if (pc1 := 114) (lv1 := [(3, .int i3), (4, .int i4)]) (pc2 := 110) (lv2 := [(3, .int i3), (4, .int i4)]) (st1 := []) rfl rfl rfl (fun h8 => ?_) (fun h8 => ?_)
  · exact jt_261_114 w i3 i4
  · refine sm_seg 2 121 [] [.int (-1 : Int32)] rfl ?_
    exact sm_rI rfl rfl
def fn_261_128 (w : cm_W) : Nat → Nat → Int32 → Int32 → Int32 → Int32 → Option Int32
  | 0, _, _, _, _, _ => none
  | n + 1, a0, i1, i2, i5, i6 => (if cm_sh w a0 = some (.inl 11) then (if (cm_I w a0 39) ≤ i6 then some i5 else (cm_R w a0 48).bind fun r11 => (if cm_ga w .int r11 (((7 : Int32) * i6) + (1 : Int32)) = true then (if ¬ (cm_I w r11 (((7 : Int32) * i6) + (1 : Int32)).toNatClampNeg) = (1 : Int32) then (fn_195 w (0 : Int32)).bind fun v15 => fn_261_128 w n a0 i1 i2 (i5 + v15) (i6 + (1 : Int32)) else (cm_R w a0 48).bind fun r17 => (if cm_ga w .int r17 (((7 : Int32) * i6) + (2 : Int32)) = true then (if ¬ (cm_I w r17 (((7 : Int32) * i6) + (2 : Int32)).toNatClampNeg) = i1 then (fn_195 w (0 : Int32)).bind fun v21 => fn_261_128 w n a0 i1 i2 (i5 + v21) (i6 + (1 : Int32)) else (cm_R w a0 48).bind fun r23 => (if cm_ga w .int r23 (((7 : Int32) * i6) + (4 : Int32)) = true then (cm_R w a0 41).bind fun r26 => (cm_R w a0 48).bind fun r28 => (if cm_ga w .int r28 ((7 : Int32) * i6) = true then (if cm_ga w .int r26 (cm_I w r28 ((7 : Int32) * i6).toNatClampNeg) = true then (if ¬ (cm_I w r23 (((7 : Int32) * i6) + (4 : Int32)).toNatClampNeg) = (cm_I w r26 (cm_I w r28 ((7 : Int32) * i6).toNatClampNeg).toNatClampNeg) then (if ¬ i2 = (2 : Int32) then (fn_195 w (1 : Int32)).bind fun v34 => fn_261_128 w n a0 i1 i2 (i5 + v34) (i6 + (1 : Int32)) else (fn_195 w (0 : Int32)).bind fun v36 => fn_261_128 w n a0 i1 i2 (i5 + v36) (i6 + (1 : Int32))) else (if ¬ i2 = (2 : Int32) then (fn_195 w (0 : Int32)).bind fun v39 => fn_261_128 w n a0 i1 i2 (i5 + v39) (i6 + (1 : Int32)) else (fn_195 w (1 : Int32)).bind fun v41 => fn_261_128 w n a0 i1 i2 (i5 + v41) (i6 + (1 : Int32)))) else none) else none) else none)) else none)) else none)) else none)
theorem jt_261_128 (w : cm_W) : ∀ (n : Nat) (a0 : Nat) (i1 : Int32) (i2 : Int32) (i5 : Int32) (i6 : Int32), sm cm_g 261 ck_261 kq_261 128 [(0, .ref a0), (1, .int i1), (2, .int i2), (5, .int i5), (6, .int i6)] [] w ((fn_261_128 w n a0 i1 i2 i5 i6).map (cm_fI w)) := by
  intro n
  induction n with
  | zero => intro a0 i1 i2 i5 i6; exact sm_no
  | succ n ih =>
    intro a0 i1 i2 i5 i6
    rw [fn_261_128]
    refine sm_seg 2 131 [(0, .ref a0), (1, .int i1), (2, .int i2), (5, .int i5), (6, .int i6)] [.ref a0, .int i6] rfl ?_
    refine sm_gd fun h9 => ?_
    refine sm_gI rfl h9 rfl ?_
    show sm _ _ _ _ 134 [(0, .ref a0), (1, .int i1), (2, .int i2), (5, .int i5), (6, .int i6)] [.int (cm_I w a0 39), .int i6] _ _
    refine sm_if (pc1 := 236) (lv1 := [(5, .int i5)]) (pc2 := 137) (lv2 := [(0, .ref a0), (1, .int i1), (2, .int i2), (5, .int i5), (6, .int i6)]) (st1 := []) rfl rfl rfl (fun h10 => ?_) (fun h10 => ?_)
    · refine sm_seg 1 238 [(5, .int i5)] [.int i5] rfl ?_
      exact sm_rI rfl rfl
    · refine sm_seg 2 140 [(0, .ref a0), (1, .int i1), (2, .int i2), (5, .int i5), (6, .int i6)] [.ref a0, .int i5] rfl ?_
      refine sm_gR rfl h9 rfl rfl fun r11 h12 => ?_
      show sm _ _ _ _ 143 [(0, .ref a0), (1, .int i1), (2, .int i2), (5, .int i5), (6, .int i6)] [.ref r11, .int i5] _ _
      refine sm_seg 5 150 [(0, .ref a0), (1, .int i1), (2, .int i2), (5, .int i5), (6, .int i6)] [.int (((7 : Int32) * i6) + (1 : Int32)), .ref r11, .int i5] rfl ?_
      refine sm_gd fun h13 => ?_
      refine sm_ai rfl h13 rfl ?_
      show sm _ _ _ _ 151 [(0, .ref a0), (1, .int i1), (2, .int i2), (5, .int i5), (6, .int i6)] [.int (cm_I w r11 (((7 : Int32) * i6) + (1 : Int32)).toNatClampNeg), .int i5] _ _
      refine sm_seg 1 152 [(0, .ref a0), (1, .int i1), (2, .int i2), (5, .int i5), (6, .int i6)] [.int (1 : Int32), .int (cm_I w r11 (((7 : Int32) * i6) + (1 : Int32)).toNatClampNeg), .int i5] rfl ?_
      refine sm_if (pc1 := 223) (lv1 := [(0, .ref a0), (1, .int i1), (2, .int i2), (6, .int i6)]) (pc2 := 155) (lv2 := [(0, .ref a0), (1, .int i1), (2, .int i2), (5, .int i5), (6, .int i6)]) (st1 := [.int i5]) rfl rfl rfl (fun h14 => ?_) (fun h14 => ?_)
      · refine sm_seg 1 224 [(0, .ref a0), (1, .int i1), (2, .int i2), (6, .int i6)] [.int (0 : Int32), .int i5] rfl ?_
        refine sm_cS (av := [.int (0 : Int32)]) (rest := [.int i5]) rfl rfl rfl rfl (Nat.le_of_ble_eq_true rfl) (ca_195 w (0 : Int32)) fun v15 h16 => ?_
        show sm _ _ _ _ 227 [(0, .ref a0), (1, .int i1), (2, .int i2), (6, .int i6)] [.int v15, .int i5] _ _
        refine sm_seg 4 128 [(0, .ref a0), (1, .int i1), (2, .int i2), (5, .int (i5 + v15)), (6, .int (i6 + (1 : Int32)))] [] rfl ?_
        exact ih a0 i1 i2 (i5 + v15) (i6 + (1 : Int32))
      · refine sm_seg 1 156 [(0, .ref a0), (1, .int i1), (2, .int i2), (5, .int i5), (6, .int i6)] [.ref a0, .int i5] rfl ?_
        refine sm_gR rfl h9 rfl rfl fun r17 h18 => ?_
        show sm _ _ _ _ 159 [(0, .ref a0), (1, .int i1), (2, .int i2), (5, .int i5), (6, .int i6)] [.ref r17, .int i5] _ _
        refine sm_seg 5 166 [(0, .ref a0), (1, .int i1), (2, .int i2), (5, .int i5), (6, .int i6)] [.int (((7 : Int32) * i6) + (2 : Int32)), .ref r17, .int i5] rfl ?_
        refine sm_gd fun h19 => ?_
        refine sm_ai rfl h19 rfl ?_
        show sm _ _ _ _ 167 [(0, .ref a0), (1, .int i1), (2, .int i2), (5, .int i5), (6, .int i6)] [.int (cm_I w r17 (((7 : Int32) * i6) + (2 : Int32)).toNatClampNeg), .int i5] _ _
        refine sm_seg 1 168 [(0, .ref a0), (1, .int i1), (2, .int i2), (5, .int i5), (6, .int i6)] [.int i1, .int (cm_I w r17 (((7 : Int32) * i6) + (2 : Int32)).toNatClampNeg), .int i5] rfl ?_
        refine sm_if (pc1 := 223) (lv1 := [(0, .ref a0), (1, .int i1), (2, .int i2), (6, .int i6)]) (pc2 := 171) (lv2 := [(0, .ref a0), (1, .int i1), (2, .int i2), (5, .int i5), (6, .int i6)]) (st1 := [.int i5]) rfl rfl rfl (fun h20 => ?_) (fun h20 => ?_)
        · refine sm_seg 1 224 [(0, .ref a0), (1, .int i1), (2, .int i2), (6, .int i6)] [.int (0 : Int32), .int i5] rfl ?_
          refine sm_cS (av := [.int (0 : Int32)]) (rest := [.int i5]) rfl rfl rfl rfl (Nat.le_of_ble_eq_true rfl) (ca_195 w (0 : Int32)) fun v21 h22 => ?_
          show sm _ _ _ _ 227 [(0, .ref a0), (1, .int i1), (2, .int i2), (6, .int i6)] [.int v21, .int i5] _ _
          refine sm_seg 4 128 [(0, .ref a0), (1, .int i1), (2, .int i2), (5, .int (i5 + v21)), (6, .int (i6 + (1 : Int32)))] [] rfl ?_
          exact ih a0 i1 i2 (i5 + v21) (i6 + (1 : Int32))
        · refine sm_seg 1 172 [(0, .ref a0), (1, .int i1), (2, .int i2), (5, .int i5), (6, .int i6)] [.ref a0, .int i5] rfl ?_
          refine sm_gR rfl h9 rfl rfl fun r23 h24 => ?_
          show sm _ _ _ _ 175 [(0, .ref a0), (1, .int i1), (2, .int i2), (5, .int i5), (6, .int i6)] [.ref r23, .int i5] _ _
          refine sm_seg 5 182 [(0, .ref a0), (1, .int i1), (2, .int i2), (5, .int i5), (6, .int i6)] [.int (((7 : Int32) * i6) + (4 : Int32)), .ref r23, .int i5] rfl ?_
          refine sm_gd fun h25 => ?_
          refine sm_ai rfl h25 rfl ?_
          show sm _ _ _ _ 183 [(0, .ref a0), (1, .int i1), (2, .int i2), (5, .int i5), (6, .int i6)] [.int (cm_I w r23 (((7 : Int32) * i6) + (4 : Int32)).toNatClampNeg), .int i5] _ _
          refine sm_seg 1 184 [(0, .ref a0), (1, .int i1), (2, .int i2), (5, .int i5), (6, .int i6)] [.ref a0, .int (cm_I w r23 (((7 : Int32) * i6) + (4 : Int32)).toNatClampNeg), .int i5] rfl ?_
          refine sm_gR rfl h9 rfl rfl fun r26 h27 => ?_
          show sm _ _ _ _ 187 [(0, .ref a0), (1, .int i1), (2, .int i2), (5, .int i5), (6, .int i6)] [.ref r26, .int (cm_I w r23 (((7 : Int32) * i6) + (4 : Int32)).toNatClampNeg), .int i5] _ _
          refine sm_seg 1 188 [(0, .ref a0), (1, .int i1), (2, .int i2), (5, .int i5), (6, .int i6)] [.ref a0, .ref r26, .int (cm_I w r23 (((7 : Int32) * i6) + (4 : Int32)).toNatClampNeg), .int i5] rfl ?_
          refine sm_gR rfl h9 rfl rfl fun r28 h29 => ?_
          show sm _ _ _ _ 191 [(0, .ref a0), (1, .int i1), (2, .int i2), (5, .int i5), (6, .int i6)] [.ref r28, .ref r26, .int (cm_I w r23 (((7 : Int32) * i6) + (4 : Int32)).toNatClampNeg), .int i5] _ _
          refine sm_seg 3 196 [(0, .ref a0), (1, .int i1), (2, .int i2), (5, .int i5), (6, .int i6)] [.int ((7 : Int32) * i6), .ref r28, .ref r26, .int (cm_I w r23 (((7 : Int32) * i6) + (4 : Int32)).toNatClampNeg), .int i5] rfl ?_
          refine sm_gd fun h30 => ?_
          refine sm_ai rfl h30 rfl ?_
          show sm _ _ _ _ 197 [(0, .ref a0), (1, .int i1), (2, .int i2), (5, .int i5), (6, .int i6)] [.int (cm_I w r28 ((7 : Int32) * i6).toNatClampNeg), .ref r26, .int (cm_I w r23 (((7 : Int32) * i6) + (4 : Int32)).toNatClampNeg), .int i5] _ _
          refine sm_gd fun h31 => ?_
          refine sm_ai rfl h31 rfl ?_
          show sm _ _ _ _ 198 [(0, .ref a0), (1, .int i1), (2, .int i2), (5, .int i5), (6, .int i6)] [.int (cm_I w r26 (cm_I w r28 ((7 : Int32) * i6).toNatClampNeg).toNatClampNeg), .int (cm_I w r23 (((7 : Int32) * i6) + (4 : Int32)).toNatClampNeg), .int i5] _ _
          refine sm_if (pc1 := 205) (lv1 := [(0, .ref a0), (1, .int i1), (2, .int i2), (6, .int i6)]) (pc2 := 201) (lv2 := [(0, .ref a0), (1, .int i1), (2, .int i2), (5, .int i5), (6, .int i6)]) (st1 := [.int i5]) rfl rfl rfl (fun h32 => ?_) (fun h32 => ?_)
          · refine sm_seg 3 208 [(0, .ref a0), (1, .int i1), (2, .int i2), (6, .int i6)] [.int (2 : Int32), .int i2, .int (0 : Int32), .int i5] rfl ?_
            refine sm_if (pc1 := 215) (lv1 := [(0, .ref a0), (1, .int i1), (2, .int i2), (6, .int i6)]) (pc2 := 211) (lv2 := [(0, .ref a0), (1, .int i1), (2, .int i2), (6, .int i6)]) (st1 := [.int (0 : Int32), .int i5]) rfl rfl rfl (fun h33 => ?_) (fun h33 => ?_)
            · refine sm_seg 1 216 [(0, .ref a0), (1, .int i1), (2, .int i2), (6, .int i6)] [.int (0 : Int32), .int (0 : Int32), .int i5] rfl ?_
              refine sm_iff (c := ¬ (0 : Int32) = (0 : Int32)) (pc1 := 223) (pc2 := 219) (lv1 := [(0, .ref a0), (1, .int i1), (2, .int i2), (6, .int i6)]) (st1 := [.int i5]) rfl (by decide) rfl ?_
              refine sm_seg 2 224 [(0, .ref a0), (1, .int i1), (2, .int i2), (6, .int i6)] [.int (1 : Int32), .int i5] rfl ?_
              refine sm_cS (av := [.int (1 : Int32)]) (rest := [.int i5]) rfl rfl rfl rfl (Nat.le_of_ble_eq_true rfl) (ca_195 w (1 : Int32)) fun v34 h35 => ?_
              show sm _ _ _ _ 227 [(0, .ref a0), (1, .int i1), (2, .int i2), (6, .int i6)] [.int v34, .int i5] _ _
              refine sm_seg 4 128 [(0, .ref a0), (1, .int i1), (2, .int i2), (5, .int (i5 + v34)), (6, .int (i6 + (1 : Int32)))] [] rfl ?_
              exact ih a0 i1 i2 (i5 + v34) (i6 + (1 : Int32))
            · refine sm_seg 2 216 [(0, .ref a0), (1, .int i1), (2, .int i2), (6, .int i6)] [.int (1 : Int32), .int (0 : Int32), .int i5] rfl ?_
              refine sm_ift (c := ¬ (0 : Int32) = (1 : Int32)) (pc1 := 223) (pc2 := 219) (lv1 := [(0, .ref a0), (1, .int i1), (2, .int i2), (6, .int i6)]) (st1 := [.int i5]) rfl (by decide) rfl ?_
              refine sm_seg 1 224 [(0, .ref a0), (1, .int i1), (2, .int i2), (6, .int i6)] [.int (0 : Int32), .int i5] rfl ?_
              refine sm_cS (av := [.int (0 : Int32)]) (rest := [.int i5]) rfl rfl rfl rfl (Nat.le_of_ble_eq_true rfl) (ca_195 w (0 : Int32)) fun v36 h37 => ?_
              show sm _ _ _ _ 227 [(0, .ref a0), (1, .int i1), (2, .int i2), (6, .int i6)] [.int v36, .int i5] _ _
              refine sm_seg 4 128 [(0, .ref a0), (1, .int i1), (2, .int i2), (5, .int (i5 + v36)), (6, .int (i6 + (1 : Int32)))] [] rfl ?_
              exact ih a0 i1 i2 (i5 + v36) (i6 + (1 : Int32))
          · refine sm_seg 4 208 [(0, .ref a0), (1, .int i1), (2, .int i2), (6, .int i6)] [.int (2 : Int32), .int i2, .int (1 : Int32), .int i5] rfl ?_
            refine sm_if (pc1 := 215) (lv1 := [(0, .ref a0), (1, .int i1), (2, .int i2), (6, .int i6)]) (pc2 := 211) (lv2 := [(0, .ref a0), (1, .int i1), (2, .int i2), (6, .int i6)]) (st1 := [.int (1 : Int32), .int i5]) rfl rfl rfl (fun h38 => ?_) (fun h38 => ?_)
            · refine sm_seg 1 216 [(0, .ref a0), (1, .int i1), (2, .int i2), (6, .int i6)] [.int (0 : Int32), .int (1 : Int32), .int i5] rfl ?_
              refine sm_ift (c := ¬ (1 : Int32) = (0 : Int32)) (pc1 := 223) (pc2 := 219) (lv1 := [(0, .ref a0), (1, .int i1), (2, .int i2), (6, .int i6)]) (st1 := [.int i5]) rfl (by decide) rfl ?_
              refine sm_seg 1 224 [(0, .ref a0), (1, .int i1), (2, .int i2), (6, .int i6)] [.int (0 : Int32), .int i5] rfl ?_
              refine sm_cS (av := [.int (0 : Int32)]) (rest := [.int i5]) rfl rfl rfl rfl (Nat.le_of_ble_eq_true rfl) (ca_195 w (0 : Int32)) fun v39 h40 => ?_
              show sm _ _ _ _ 227 [(0, .ref a0), (1, .int i1), (2, .int i2), (6, .int i6)] [.int v39, .int i5] _ _
              refine sm_seg 4 128 [(0, .ref a0), (1, .int i1), (2, .int i2), (5, .int (i5 + v39)), (6, .int (i6 + (1 : Int32)))] [] rfl ?_
              exact ih a0 i1 i2 (i5 + v39) (i6 + (1 : Int32))
            · refine sm_seg 2 216 [(0, .ref a0), (1, .int i1), (2, .int i2), (6, .int i6)] [.int (1 : Int32), .int (1 : Int32), .int i5] rfl ?_
              refine sm_iff (c := ¬ (1 : Int32) = (1 : Int32)) (pc1 := 223) (pc2 := 219) (lv1 := [(0, .ref a0), (1, .int i1), (2, .int i2), (6, .int i6)]) (st1 := [.int i5]) rfl (by decide) rfl ?_
              refine sm_seg 2 224 [(0, .ref a0), (1, .int i1), (2, .int i2), (6, .int i6)] [.int (1 : Int32), .int i5] rfl ?_
              refine sm_cS (av := [.int (1 : Int32)]) (rest := [.int i5]) rfl rfl rfl rfl (Nat.le_of_ble_eq_true rfl) (ca_195 w (1 : Int32)) fun v41 h42 => ?_
              show sm _ _ _ _ 227 [(0, .ref a0), (1, .int i1), (2, .int i2), (6, .int i6)] [.int v41, .int i5] _ _
              refine sm_seg 4 128 [(0, .ref a0), (1, .int i1), (2, .int i2), (5, .int (i5 + v41)), (6, .int (i6 + (1 : Int32)))] [] rfl ?_
              exact ih a0 i1 i2 (i5 + v41) (i6 + (1 : Int32))
def fn_261_122 (w : cm_W) (a0 : Nat) (i1 : Int32) (i2 : Int32) : Option Int32 := fn_261_128 w cm_N a0 i1 i2 (0 : Int32) (0 : Int32)
theorem jt_261_122 (w : cm_W) (a0 : Nat) (i1 : Int32) (i2 : Int32) : sm cm_g 261 ck_261 kq_261 122 [(0, .ref a0), (1, .int i1), (2, .int i2)] [] w ((fn_261_122 w a0 i1 i2).map (cm_fI w)) := by
  unfold fn_261_122
  refine sm_seg 4 128 [(0, .ref a0), (1, .int i1), (2, .int i2), (5, .int (0 : Int32)), (6, .int (0 : Int32))] [] rfl ?_
  exact jt_261_128 w cm_N a0 i1 i2 (0 : Int32) (0 : Int32)
def fn_261_92 (w : cm_W) (a0 : Nat) (i1 : Int32) (i2 : Int32) (i3 : Int32) (i4 : Int32) : Option Int32 := (if (2 : Int32) ≤ i2 then fn_261_122 w a0 i1 i2 else (if ¬ i2 = (1 : Int32) then fn_261_106 w i3 i4 else some i3))
theorem jt_261_92 (w : cm_W) (a0 : Nat) (i1 : Int32) (i2 : Int32) (i3 : Int32) (i4 : Int32) : sm cm_g 261 ck_261 kq_261 92 [(0, .ref a0), (1, .int i1), (2, .int i2), (3, .int i3), (4, .int i4)] [] w ((fn_261_92 w a0 i1 i2 i3 i4).map (cm_fI w)) := by
  unfold fn_261_92
  refine sm_seg 2 94 [(0, .ref a0), (1, .int i1), (2, .int i2), (3, .int i3), (4, .int i4)] [.int (2 : Int32), .int i2] rfl ?_
  refine sm_if (pc1 := 122) (lv1 := [(0, .ref a0), (1, .int i1), (2, .int i2)]) (pc2 := 97) (lv2 := [(0, .ref a0), (1, .int i1), (2, .int i2), (3, .int i3), (4, .int i4)]) (st1 := []) rfl rfl rfl (fun h43 => ?_) (fun h43 => ?_)
  · exact jt_261_122 w a0 i1 i2
  · refine sm_seg 2 99 [(0, .ref a0), (1, .int i1), (2, .int i2), (3, .int i3), (4, .int i4)] [.int (1 : Int32), .int i2] rfl ?_
    refine sm_if (pc1 := 106) (lv1 := [(3, .int i3), (4, .int i4)]) (pc2 := 102) (lv2 := [(0, .ref a0), (1, .int i1), (2, .int i2), (3, .int i3), (4, .int i4)]) (st1 := []) rfl rfl rfl (fun h44 => ?_) (fun h44 => ?_)
    · exact jt_261_106 w i3 i4
    · refine sm_seg 2 121 [] [.int i3] rfl ?_
      exact sm_rI rfl rfl
def fn_261_34 (w : cm_W) : Nat → Nat → Int32 → Int32 → Int32 → Int32 → Int32 → Option Int32
  | 0, _, _, _, _, _, _ => none
  | n + 1, a0, i1, i2, i3, i4, i5 => (if cm_sh w a0 = some (.inl 11) then (if (cm_I w a0 38) ≤ i5 then fn_261_92 w a0 i1 i2 i3 i4 else (cm_R w a0 40).bind fun r47 => (if cm_ga w .int r47 i5 = true then (if ¬ (cm_I w r47 i5.toNatClampNeg) = i1 then fn_261_86 w (fn_261_34 w n) a0 i1 i2 i3 i4 i5 else (fn_260 w a0 i5).bind fun v51 => (if ¬ v51 = 0 then fn_261_66 w (fn_261_34 w n) a0 i1 i2 i3 i4 i5 else fn_261_86 w (fn_261_34 w n) a0 i1 i2 i3 i4 i5)) else none)) else none)
theorem jt_261_34 (w : cm_W) : ∀ (n : Nat) (a0 : Nat) (i1 : Int32) (i2 : Int32) (i3 : Int32) (i4 : Int32) (i5 : Int32), sm cm_g 261 ck_261 kq_261 34 [(0, .ref a0), (1, .int i1), (2, .int i2), (3, .int i3), (4, .int i4), (5, .int i5)] [] w ((fn_261_34 w n a0 i1 i2 i3 i4 i5).map (cm_fI w)) := by
  intro n
  induction n with
  | zero => intro a0 i1 i2 i3 i4 i5; exact sm_no
  | succ n ih =>
    intro a0 i1 i2 i3 i4 i5
    rw [fn_261_34]
    refine sm_seg 2 37 [(0, .ref a0), (1, .int i1), (2, .int i2), (3, .int i3), (4, .int i4), (5, .int i5)] [.ref a0, .int i5] rfl ?_
    refine sm_gd fun h45 => ?_
    refine sm_gI rfl h45 rfl ?_
    show sm _ _ _ _ 40 [(0, .ref a0), (1, .int i1), (2, .int i2), (3, .int i3), (4, .int i4), (5, .int i5)] [.int (cm_I w a0 38), .int i5] _ _
    refine sm_if (pc1 := 92) (lv1 := [(0, .ref a0), (1, .int i1), (2, .int i2), (3, .int i3), (4, .int i4)]) (pc2 := 43) (lv2 := [(0, .ref a0), (1, .int i1), (2, .int i2), (3, .int i3), (4, .int i4), (5, .int i5)]) (st1 := []) rfl rfl rfl (fun h46 => ?_) (fun h46 => ?_)
    · exact jt_261_92 w a0 i1 i2 i3 i4
    · refine sm_seg 1 44 [(0, .ref a0), (1, .int i1), (2, .int i2), (3, .int i3), (4, .int i4), (5, .int i5)] [.ref a0] rfl ?_
      refine sm_gR rfl h45 rfl rfl fun r47 h48 => ?_
      show sm _ _ _ _ 47 [(0, .ref a0), (1, .int i1), (2, .int i2), (3, .int i3), (4, .int i4), (5, .int i5)] [.ref r47] _ _
      refine sm_seg 1 49 [(0, .ref a0), (1, .int i1), (2, .int i2), (3, .int i3), (4, .int i4), (5, .int i5)] [.int i5, .ref r47] rfl ?_
      refine sm_gd fun h49 => ?_
      refine sm_ai rfl h49 rfl ?_
      show sm _ _ _ _ 50 [(0, .ref a0), (1, .int i1), (2, .int i2), (3, .int i3), (4, .int i4), (5, .int i5)] [.int (cm_I w r47 i5.toNatClampNeg)] _ _
      refine sm_seg 1 51 [(0, .ref a0), (1, .int i1), (2, .int i2), (3, .int i3), (4, .int i4), (5, .int i5)] [.int i1, .int (cm_I w r47 i5.toNatClampNeg)] rfl ?_
      refine sm_if (pc1 := 86) (lv1 := [(0, .ref a0), (1, .int i1), (2, .int i2), (3, .int i3), (4, .int i4), (5, .int i5)]) (pc2 := 54) (lv2 := [(0, .ref a0), (1, .int i1), (2, .int i2), (3, .int i3), (4, .int i4), (5, .int i5)]) (st1 := []) rfl rfl rfl (fun h50 => ?_) (fun h50 => ?_)
      · exact jt_261_86 w (fn_261_34 w n) ih a0 i1 i2 i3 i4 i5
      · refine sm_seg 2 57 [(0, .ref a0), (1, .int i1), (2, .int i2), (3, .int i3), (4, .int i4), (5, .int i5)] [.int i5, .ref a0] rfl ?_
        refine sm_cV (as := [.int i5]) (rest := []) rfl rfl rfl rfl h45 (Nat.le_of_ble_eq_true rfl) (ca_260 w a0 i5) fun v51 h52 => ?_
        show sm _ _ _ _ 60 [(0, .ref a0), (1, .int i1), (2, .int i2), (3, .int i3), (4, .int i4), (5, .int i5)] [.int v51] _ _
        refine sm_if (pc1 := 66) (lv1 := [(0, .ref a0), (1, .int i1), (2, .int i2), (3, .int i3), (4, .int i4), (5, .int i5)]) (pc2 := 63) (lv2 := [(0, .ref a0), (1, .int i1), (2, .int i2), (3, .int i3), (4, .int i4), (5, .int i5)]) (st1 := []) rfl rfl rfl (fun h53 => ?_) (fun h53 => ?_)
        · exact jt_261_66 w (fn_261_34 w n) ih a0 i1 i2 i3 i4 i5
        · refine sm_seg 1 86 [(0, .ref a0), (1, .int i1), (2, .int i2), (3, .int i3), (4, .int i4), (5, .int i5)] [] rfl ?_
          exact jt_261_86 w (fn_261_34 w n) ih a0 i1 i2 i3 i4 i5
def fn_261_26 (w : cm_W) (a0 : Nat) (i1 : Int32) (i2 : Int32) : Option Int32 := fn_261_34 w cm_N a0 i1 i2 (0 : Int32) (0 : Int32) (0 : Int32)
theorem jt_261_26 (w : cm_W) (a0 : Nat) (i1 : Int32) (i2 : Int32) : sm cm_g 261 ck_261 kq_261 26 [(0, .ref a0), (1, .int i1), (2, .int i2)] [] w ((fn_261_26 w a0 i1 i2).map (cm_fI w)) := by
  unfold fn_261_26
  refine sm_seg 6 34 [(0, .ref a0), (1, .int i1), (2, .int i2), (3, .int (0 : Int32)), (4, .int (0 : Int32)), (5, .int (0 : Int32))] [] rfl ?_
  exact jt_261_34 w cm_N a0 i1 i2 (0 : Int32) (0 : Int32) (0 : Int32)
def fn_261 (w : cm_W) (a0 : Nat) (i1 : Int32) (i2 : Int32) : Option Int32 := (if cm_sh w a0 = some (.inl 11) then (fn_225 w a0 i1).bind fun v55 => (if (cm_b v55) = 0 then some (-1 : Int32) else (fn_234 w a0).bind fun v58 => (if ¬ (cm_b v58) = 0 then some (-1 : Int32) else (fn_194 w i2 (0 : Int32) (3 : Int32)).bind fun v61 => (if ¬ (cm_b v61) = 0 then fn_261_26 w a0 i1 i2 else some (-1 : Int32)))) else none)
theorem jt_261_0 (w : cm_W) (a0 : Nat) (i1 : Int32) (i2 : Int32) : sm cm_g 261 ck_261 kq_261 0 [(0, .ref a0), (1, .int i1), (2, .int i2)] [] w ((fn_261 w a0 i1 i2).map (cm_fI w)) := by
  unfold fn_261
  refine sm_seg 2 2 [(0, .ref a0), (1, .int i1), (2, .int i2)] [.int i1, .ref a0] rfl ?_
  refine sm_gd fun h54 => ?_
  refine sm_cV (as := [.int i1]) (rest := []) rfl rfl rfl rfl h54 (Nat.le_of_ble_eq_true rfl) (ca_225 w a0 i1) fun v55 h56 => ?_
  show sm _ _ _ _ 5 [(0, .ref a0), (1, .int i1), (2, .int i2)] [.int (cm_b v55)] _ _
  refine sm_if (pc1 := 24) (lv1 := []) (pc2 := 8) (lv2 := [(0, .ref a0), (1, .int i1), (2, .int i2)]) (st1 := []) rfl rfl rfl (fun h57 => ?_) (fun h57 => ?_)
  · refine sm_seg 1 25 [] [.int (-1 : Int32)] rfl ?_
    exact sm_rI rfl rfl
  · refine sm_seg 1 9 [(0, .ref a0), (1, .int i1), (2, .int i2)] [.ref a0] rfl ?_
    refine sm_cV (as := []) (rest := []) rfl rfl rfl rfl h54 (Nat.le_of_ble_eq_true rfl) (ca_234 w a0) fun v58 h59 => ?_
    show sm _ _ _ _ 12 [(0, .ref a0), (1, .int i1), (2, .int i2)] [.int (cm_b v58)] _ _
    refine sm_if (pc1 := 24) (lv1 := []) (pc2 := 15) (lv2 := [(0, .ref a0), (1, .int i1), (2, .int i2)]) (st1 := []) rfl rfl rfl (fun h60 => ?_) (fun h60 => ?_)
    · refine sm_seg 1 25 [] [.int (-1 : Int32)] rfl ?_
      exact sm_rI rfl rfl
    · refine sm_seg 3 18 [(0, .ref a0), (1, .int i1), (2, .int i2)] [.int (3 : Int32), .int (0 : Int32), .int i2] rfl ?_
      refine sm_cS (av := [.int i2, .int (0 : Int32), .int (3 : Int32)]) (rest := []) rfl rfl rfl rfl (Nat.le_of_ble_eq_true rfl) (ca_194 w i2 (0 : Int32) (3 : Int32)) fun v61 h62 => ?_
      show sm _ _ _ _ 21 [(0, .ref a0), (1, .int i1), (2, .int i2)] [.int (cm_b v61)] _ _
      refine sm_if (pc1 := 26) (lv1 := [(0, .ref a0), (1, .int i1), (2, .int i2)]) (pc2 := 24) (lv2 := []) (st1 := []) rfl rfl rfl (fun h63 => ?_) (fun h63 => ?_)
      · exact jt_261_26 w a0 i1 i2
      · refine sm_seg 1 25 [] [.int (-1 : Int32)] rfl ?_
        exact sm_rI rfl rfl
theorem ca_261 (w : cm_W) (a0 : Nat) (i1 : Int32) (i2 : Int32) : cm_ca cm_g 261 [.ref a0, .int i1, .int i2] w ((fn_261 w a0 i1 i2).map (cm_fI w)) := cm_ca_of (cm_me_of rfl rfl) rfl (jt_261_0 w a0 i1 i2)
-- NailedBoxesModel.lies(II)Z
def fn_262_22 (w : cm_W) (i2 : Int32) (i3 : Int32) : Option Bool := (if ¬ i3 = i2 then some false else some true)
theorem jt_262_22 (w : cm_W) (i2 : Int32) (i3 : Int32) : sm cm_g 262 ck_262 kq_262 22 [(2, .int i2), (3, .int i3)] [] w ((fn_262_22 w i2 i3).map (cm_fB w)) := by
  unfold fn_262_22
  refine sm_seg 2 24 [(2, .int i2), (3, .int i3)] [.int i2, .int i3] rfl ?_
  refine sm_if (pc1 := 31) (lv1 := []) (pc2 := 27) (lv2 := [(2, .int i2), (3, .int i3)]) (st1 := []) rfl rfl rfl (fun h1 => ?_) (fun h1 => ?_)
  · refine sm_seg 1 32 [] [.int (0 : Int32)] rfl ?_
    exact sm_rB (b := false) rfl rfl
  · refine sm_seg 2 32 [] [.int (1 : Int32)] rfl ?_
    exact sm_rB (b := true) rfl rfl
def fn_262_2 (w : cm_W) : Nat → Nat → Int32 → Int32 → Option Bool
  | 0, _, _, _ => none
  | n + 1, a0, i2, i3 => (if i3 = (-1 : Int32) then fn_262_22 w i2 i3 else (if i3 = i2 then fn_262_22 w i2 i3 else (if cm_sh w a0 = some (.inl 11) then (cm_R w a0 43).bind fun r5 => (if cm_ga w .int r5 i3 = true then fn_262_2 w n a0 i2 (cm_I w r5 i3.toNatClampNeg) else none) else none)))
theorem jt_262_2 (w : cm_W) : ∀ (n : Nat) (a0 : Nat) (i2 : Int32) (i3 : Int32), sm cm_g 262 ck_262 kq_262 2 [(0, .ref a0), (2, .int i2), (3, .int i3)] [] w ((fn_262_2 w n a0 i2 i3).map (cm_fB w)) := by
  intro n
  induction n with
  | zero => intro a0 i2 i3; exact sm_no
  | succ n ih =>
    intro a0 i2 i3
    rw [fn_262_2]
    refine sm_seg 2 4 [(0, .ref a0), (2, .int i2), (3, .int i3)] [.int (-1 : Int32), .int i3] rfl ?_
    refine sm_if (pc1 := 22) (lv1 := [(2, .int i2), (3, .int i3)]) (pc2 := 7) (lv2 := [(0, .ref a0), (2, .int i2), (3, .int i3)]) (st1 := []) rfl rfl rfl (fun h2 => ?_) (fun h2 => ?_)
    · exact jt_262_22 w i2 i3
    · refine sm_seg 2 9 [(0, .ref a0), (2, .int i2), (3, .int i3)] [.int i2, .int i3] rfl ?_
      refine sm_if (pc1 := 22) (lv1 := [(2, .int i2), (3, .int i3)]) (pc2 := 12) (lv2 := [(0, .ref a0), (2, .int i2), (3, .int i3)]) (st1 := []) rfl rfl rfl (fun h3 => ?_) (fun h3 => ?_)
      · exact jt_262_22 w i2 i3
      · refine sm_seg 1 13 [(0, .ref a0), (2, .int i2), (3, .int i3)] [.ref a0] rfl ?_
        refine sm_gd fun h4 => ?_
        refine sm_gR rfl h4 rfl rfl fun r5 h6 => ?_
        show sm _ _ _ _ 16 [(0, .ref a0), (2, .int i2), (3, .int i3)] [.ref r5] _ _
        refine sm_seg 1 17 [(0, .ref a0), (2, .int i2), (3, .int i3)] [.int i3, .ref r5] rfl ?_
        refine sm_gd fun h7 => ?_
        refine sm_ai rfl h7 rfl ?_
        show sm _ _ _ _ 18 [(0, .ref a0), (2, .int i2), (3, .int i3)] [.int (cm_I w r5 i3.toNatClampNeg)] _ _
        refine sm_seg 2 2 [(0, .ref a0), (2, .int i2), (3, .int (cm_I w r5 i3.toNatClampNeg))] [] rfl ?_
        exact ih a0 i2 (cm_I w r5 i3.toNatClampNeg)
def fn_262 (w : cm_W) (a0 : Nat) (i1 : Int32) (i2 : Int32) : Option Bool := fn_262_2 w cm_N a0 i2 i1
theorem jt_262_0 (w : cm_W) (a0 : Nat) (i1 : Int32) (i2 : Int32) : sm cm_g 262 ck_262 kq_262 0 [(0, .ref a0), (1, .int i1), (2, .int i2)] [] w ((fn_262 w a0 i1 i2).map (cm_fB w)) := by
  unfold fn_262
  refine sm_seg 2 2 [(0, .ref a0), (2, .int i2), (3, .int i1)] [] rfl ?_
  exact jt_262_2 w cm_N a0 i2 i1
theorem ca_262 (w : cm_W) (a0 : Nat) (i1 : Int32) (i2 : Int32) : cm_ca cm_g 262 [.ref a0, .int i1, .int i2] w ((fn_262 w a0 i1 i2).map (cm_fB w)) := cm_ca_of (cm_me_of rfl rfl) rfl (jt_262_0 w a0 i1 i2)
-- NailedBoxesModel.heavy(I)I
def fn_263_21 (w : cm_W) : Nat → Nat → Int32 → Int32 → Int32 → Option Int32
  | 0, _, _, _, _ => none
  | n + 1, a0, i1, i2, i3 => (if cm_sh w a0 = some (.inl 11) then (if (cm_I w a0 38) ≤ i3 then some i2 else (fn_262 w a0 i3 i1).bind fun v3 => (if (cm_b v3) = 0 then fn_263_21 w n a0 i1 (i2 + (0 : Int32)) (i3 + (1 : Int32)) else (cm_R w a0 23).bind fun r6 => (cm_R w a0 41).bind fun r8 => (if cm_ga w .int r8 i3 = true then (if cm_ga w .int r6 (cm_I w r8 i3.toNatClampNeg) = true then fn_263_21 w n a0 i1 (i2 + (cm_I w r6 (cm_I w r8 i3.toNatClampNeg).toNatClampNeg)) (i3 + (1 : Int32)) else none) else none))) else none)
theorem jt_263_21 (w : cm_W) : ∀ (n : Nat) (a0 : Nat) (i1 : Int32) (i2 : Int32) (i3 : Int32), sm cm_g 263 ck_263 kq_263 21 [(0, .ref a0), (1, .int i1), (2, .int i2), (3, .int i3)] [] w ((fn_263_21 w n a0 i1 i2 i3).map (cm_fI w)) := by
  intro n
  induction n with
  | zero => intro a0 i1 i2 i3; exact sm_no
  | succ n ih =>
    intro a0 i1 i2 i3
    rw [fn_263_21]
    refine sm_seg 2 23 [(0, .ref a0), (1, .int i1), (2, .int i2), (3, .int i3)] [.ref a0, .int i3] rfl ?_
    refine sm_gd fun h1 => ?_
    refine sm_gI rfl h1 rfl ?_
    show sm _ _ _ _ 26 [(0, .ref a0), (1, .int i1), (2, .int i2), (3, .int i3)] [.int (cm_I w a0 38), .int i3] _ _
    refine sm_if (pc1 := 62) (lv1 := [(2, .int i2)]) (pc2 := 29) (lv2 := [(0, .ref a0), (1, .int i1), (2, .int i2), (3, .int i3)]) (st1 := []) rfl rfl rfl (fun h2 => ?_) (fun h2 => ?_)
    · refine sm_seg 1 63 [(2, .int i2)] [.int i2] rfl ?_
      exact sm_rI rfl rfl
    · refine sm_seg 4 33 [(0, .ref a0), (1, .int i1), (2, .int i2), (3, .int i3)] [.int i1, .int i3, .ref a0, .int i2] rfl ?_
      refine sm_cV (as := [.int i3, .int i1]) (rest := [.int i2]) rfl rfl rfl rfl h1 (Nat.le_of_ble_eq_true rfl) (ca_262 w a0 i3 i1) fun v3 h4 => ?_
      show sm _ _ _ _ 36 [(0, .ref a0), (1, .int i1), (2, .int i2), (3, .int i3)] [.int (cm_b v3), .int i2] _ _
      refine sm_if (pc1 := 53) (lv1 := [(0, .ref a0), (1, .int i1), (3, .int i3)]) (pc2 := 39) (lv2 := [(0, .ref a0), (1, .int i1), (2, .int i2), (3, .int i3)]) (st1 := [.int i2]) rfl rfl rfl (fun h5 => ?_) (fun h5 => ?_)
      · refine sm_seg 5 21 [(0, .ref a0), (1, .int i1), (2, .int (i2 + (0 : Int32))), (3, .int (i3 + (1 : Int32)))] [] rfl ?_
        exact ih a0 i1 (i2 + (0 : Int32)) (i3 + (1 : Int32))
      · refine sm_seg 1 40 [(0, .ref a0), (1, .int i1), (2, .int i2), (3, .int i3)] [.ref a0, .int i2] rfl ?_
        refine sm_gR rfl h1 rfl rfl fun r6 h7 => ?_
        show sm _ _ _ _ 43 [(0, .ref a0), (1, .int i1), (2, .int i2), (3, .int i3)] [.ref r6, .int i2] _ _
        refine sm_seg 1 44 [(0, .ref a0), (1, .int i1), (2, .int i2), (3, .int i3)] [.ref a0, .ref r6, .int i2] rfl ?_
        refine sm_gR rfl h1 rfl rfl fun r8 h9 => ?_
        show sm _ _ _ _ 47 [(0, .ref a0), (1, .int i1), (2, .int i2), (3, .int i3)] [.ref r8, .ref r6, .int i2] _ _
        refine sm_seg 1 48 [(0, .ref a0), (1, .int i1), (2, .int i2), (3, .int i3)] [.int i3, .ref r8, .ref r6, .int i2] rfl ?_
        refine sm_gd fun h10 => ?_
        refine sm_ai rfl h10 rfl ?_
        show sm _ _ _ _ 49 [(0, .ref a0), (1, .int i1), (2, .int i2), (3, .int i3)] [.int (cm_I w r8 i3.toNatClampNeg), .ref r6, .int i2] _ _
        refine sm_gd fun h11 => ?_
        refine sm_ai rfl h11 rfl ?_
        show sm _ _ _ _ 50 [(0, .ref a0), (1, .int i1), (2, .int i2), (3, .int i3)] [.int (cm_I w r6 (cm_I w r8 i3.toNatClampNeg).toNatClampNeg), .int i2] _ _
        refine sm_seg 5 21 [(0, .ref a0), (1, .int i1), (2, .int (i2 + (cm_I w r6 (cm_I w r8 i3.toNatClampNeg).toNatClampNeg))), (3, .int (i3 + (1 : Int32)))] [] rfl ?_
        exact ih a0 i1 (i2 + (cm_I w r6 (cm_I w r8 i3.toNatClampNeg).toNatClampNeg)) (i3 + (1 : Int32))
def fn_263_17 (w : cm_W) (a0 : Nat) (i1 : Int32) : Option Int32 := fn_263_21 w cm_N a0 i1 (0 : Int32) (0 : Int32)
theorem jt_263_17 (w : cm_W) (a0 : Nat) (i1 : Int32) : sm cm_g 263 ck_263 kq_263 17 [(0, .ref a0), (1, .int i1)] [] w ((fn_263_17 w a0 i1).map (cm_fI w)) := by
  unfold fn_263_17
  refine sm_seg 4 21 [(0, .ref a0), (1, .int i1), (2, .int (0 : Int32)), (3, .int (0 : Int32))] [] rfl ?_
  exact jt_263_21 w cm_N a0 i1 (0 : Int32) (0 : Int32)
def fn_263 (w : cm_W) (a0 : Nat) (i1 : Int32) : Option Int32 := (if cm_sh w a0 = some (.inl 11) then (fn_233 w a0 i1).bind fun v13 => (if (cm_b v13) = 0 then some (-1 : Int32) else (fn_234 w a0).bind fun v16 => (if (cm_b v16) = 0 then fn_263_17 w a0 i1 else some (-1 : Int32))) else none)
theorem jt_263_0 (w : cm_W) (a0 : Nat) (i1 : Int32) : sm cm_g 263 ck_263 kq_263 0 [(0, .ref a0), (1, .int i1)] [] w ((fn_263 w a0 i1).map (cm_fI w)) := by
  unfold fn_263
  refine sm_seg 2 2 [(0, .ref a0), (1, .int i1)] [.int i1, .ref a0] rfl ?_
  refine sm_gd fun h12 => ?_
  refine sm_cV (as := [.int i1]) (rest := []) rfl rfl rfl rfl h12 (Nat.le_of_ble_eq_true rfl) (ca_233 w a0 i1) fun v13 h14 => ?_
  show sm _ _ _ _ 5 [(0, .ref a0), (1, .int i1)] [.int (cm_b v13)] _ _
  refine sm_if (pc1 := 15) (lv1 := []) (pc2 := 8) (lv2 := [(0, .ref a0), (1, .int i1)]) (st1 := []) rfl rfl rfl (fun h15 => ?_) (fun h15 => ?_)
  · refine sm_seg 1 16 [] [.int (-1 : Int32)] rfl ?_
    exact sm_rI rfl rfl
  · refine sm_seg 1 9 [(0, .ref a0), (1, .int i1)] [.ref a0] rfl ?_
    refine sm_cV (as := []) (rest := []) rfl rfl rfl rfl h12 (Nat.le_of_ble_eq_true rfl) (ca_234 w a0) fun v16 h17 => ?_
    show sm _ _ _ _ 12 [(0, .ref a0), (1, .int i1)] [.int (cm_b v16)] _ _
    refine sm_if (pc1 := 17) (lv1 := [(0, .ref a0), (1, .int i1)]) (pc2 := 15) (lv2 := []) (st1 := []) rfl rfl rfl (fun h18 => ?_) (fun h18 => ?_)
    · exact jt_263_17 w a0 i1
    · refine sm_seg 1 16 [] [.int (-1 : Int32)] rfl ?_
      exact sm_rI rfl rfl
theorem ca_263 (w : cm_W) (a0 : Nat) (i1 : Int32) : cm_ca cm_g 263 [.ref a0, .int i1] w ((fn_263 w a0 i1).map (cm_fI w)) := cm_ca_of (cm_me_of rfl rfl) rfl (jt_263_0 w a0 i1)
-- NailedBoxesModel.came(I)I
def fn_264_129 (w : cm_W) (k_86 : Nat → Int32 → Int32 → Int32 → Int32 → Int32 → Option Int32) (a0 : Nat) (i1 : Int32) (i2 : Int32) (i3 : Int32) (i4 : Int32) (i5 : Int32) : Option Int32 := k_86 a0 i1 i2 i3 i4 (i5 + (1 : Int32))
theorem jt_264_129 (w : cm_W) (k_86 : Nat → Int32 → Int32 → Int32 → Int32 → Int32 → Option Int32) (hk_86 : ∀ (a0 : Nat) (i1 : Int32) (i2 : Int32) (i3 : Int32) (i4 : Int32) (i5 : Int32), sm cm_g 264 ck_264 kq_264 86 [(0, .ref a0), (1, .int i1), (2, .int i2), (3, .int i3), (4, .int i4), (5, .int i5)] [] w ((k_86 a0 i1 i2 i3 i4 i5).map (cm_fI w))) (a0 : Nat) (i1 : Int32) (i2 : Int32) (i3 : Int32) (i4 : Int32) (i5 : Int32) : sm cm_g 264 ck_264 kq_264 129 [(0, .ref a0), (1, .int i1), (2, .int i2), (3, .int i3), (4, .int i4), (5, .int i5)] [] w ((fn_264_129 w k_86 a0 i1 i2 i3 i4 i5).map (cm_fI w)) := by
  unfold fn_264_129
  refine sm_seg 2 86 [(0, .ref a0), (1, .int i1), (2, .int i2), (3, .int i3), (4, .int i4), (5, .int (i5 + (1 : Int32)))] [] rfl ?_
  exact hk_86 a0 i1 i2 i3 i4 (i5 + (1 : Int32))
def fn_264_143 (w : cm_W) (i1 : Int32) (i3 : Int32) (i4 : Int32) : Option Int32 := (if ¬ i1 = (1 : Int32) then some i4 else some i3)
theorem jt_264_143 (w : cm_W) (i1 : Int32) (i3 : Int32) (i4 : Int32) : sm cm_g 264 ck_264 kq_264 143 [(1, .int i1), (3, .int i3), (4, .int i4)] [] w ((fn_264_143 w i1 i3 i4).map (cm_fI w)) := by
  unfold fn_264_143
  refine sm_seg 2 145 [(1, .int i1), (3, .int i3), (4, .int i4)] [.int (1 : Int32), .int i1] rfl ?_
  refine sm_if (pc1 := 152) (lv1 := [(4, .int i4)]) (pc2 := 148) (lv2 := [(1, .int i1), (3, .int i3), (4, .int i4)]) (st1 := []) rfl rfl rfl (fun h1 => ?_) (fun h1 => ?_)
  · refine sm_seg 1 154 [] [.int i4] rfl ?_
    exact sm_rI rfl rfl
  · refine sm_seg 2 154 [] [.int i3] rfl ?_
    exact sm_rI rfl rfl
def fn_264_135 (w : cm_W) (i1 : Int32) (i2 : Int32) (i3 : Int32) (i4 : Int32) : Option Int32 := (if ¬ i1 = 0 then fn_264_143 w i1 i3 i4 else some i2)
theorem jt_264_135 (w : cm_W) (i1 : Int32) (i2 : Int32) (i3 : Int32) (i4 : Int32) : sm cm_g 264 ck_264 kq_264 135 [(1, .int i1), (2, .int i2), (3, .int i3), (4, .int i4)] [] w ((fn_264_135 w i1 i2 i3 i4).map (cm_fI w)) := by
  unfold fn_264_135
  refine sm_seg 1 136 [(1, .int i1), (2, .int i2), (3, .int i3), (4, .int i4)] [.int i1] rfl ?_
  refine sm_if (pc1 := 143) (lv1 := [(1, .int i1), (3, .int i3), (4, .int i4)]) (pc2 := 139) (lv2 := [(1, .int i1), (2, .int i2), (3, .int i3), (4, .int i4)]) (st1 := []) rfl rfl rfl (fun h2 => ?_) (fun h2 => ?_)
  · exact jt_264_143 w i1 i3 i4
  · refine sm_seg 2 154 [] [.int i2] rfl ?_
    exact sm_rI rfl rfl
def fn_264_86 (w : cm_W) : Nat → Nat → Int32 → Int32 → Int32 → Int32 → Int32 → Option Int32
  | 0, _, _, _, _, _, _ => none
  | n + 1, a0, i1, i2, i3, i4, i5 => (if cm_sh w a0 = some (.inl 11) then (if (cm_I w a0 39) ≤ i5 then fn_264_135 w i1 i2 i3 i4 else (cm_R w a0 48).bind fun r5 => (if cm_ga w .int r5 (((7 : Int32) * i5) + (1 : Int32)) = true then (if ¬ (cm_I w r5 (((7 : Int32) * i5) + (1 : Int32)).toNatClampNeg) = 0 then fn_264_129 w (fn_264_86 w n) a0 i1 i2 i3 i4 i5 else (cm_R w a0 48).bind fun r9 => (if cm_ga w .int r9 (((7 : Int32) * i5) + (4 : Int32)) = true then fn_264_129 w (fn_264_86 w n) a0 i1 i2 i3 (if i4 < (cm_I w r9 (((7 : Int32) * i5) + (4 : Int32)).toNatClampNeg) then (cm_I w r9 (((7 : Int32) * i5) + (4 : Int32)).toNatClampNeg) else i4) i5 else none)) else none)) else none)
theorem jt_264_86 (w : cm_W) : ∀ (n : Nat) (a0 : Nat) (i1 : Int32) (i2 : Int32) (i3 : Int32) (i4 : Int32) (i5 : Int32), sm cm_g 264 ck_264 kq_264 86 [(0, .ref a0), (1, .int i1), (2, .int i2), (3, .int i3), (4, .int i4), (5, .int i5)] [] w ((fn_264_86 w n a0 i1 i2 i3 i4 i5).map (cm_fI w)) := by
  intro n
  induction n with
  | zero => intro a0 i1 i2 i3 i4 i5; exact sm_no
  | succ n ih =>
    intro a0 i1 i2 i3 i4 i5
    rw [fn_264_86]
    refine sm_seg 2 89 [(0, .ref a0), (1, .int i1), (2, .int i2), (3, .int i3), (4, .int i4), (5, .int i5)] [.ref a0, .int i5] rfl ?_
    refine sm_gd fun h3 => ?_
    refine sm_gI rfl h3 rfl ?_
    show sm _ _ _ _ 92 [(0, .ref a0), (1, .int i1), (2, .int i2), (3, .int i3), (4, .int i4), (5, .int i5)] [.int (cm_I w a0 39), .int i5] _ _
    refine sm_if (pc1 := 135) (lv1 := [(1, .int i1), (2, .int i2), (3, .int i3), (4, .int i4)]) (pc2 := 95) (lv2 := [(0, .ref a0), (1, .int i1), (2, .int i2), (3, .int i3), (4, .int i4), (5, .int i5)]) (st1 := []) rfl rfl rfl (fun h4 => ?_) (fun h4 => ?_)
    · exact jt_264_135 w i1 i2 i3 i4
    · refine sm_seg 1 96 [(0, .ref a0), (1, .int i1), (2, .int i2), (3, .int i3), (4, .int i4), (5, .int i5)] [.ref a0] rfl ?_
      refine sm_gR rfl h3 rfl rfl fun r5 h6 => ?_
      show sm _ _ _ _ 99 [(0, .ref a0), (1, .int i1), (2, .int i2), (3, .int i3), (4, .int i4), (5, .int i5)] [.ref r5] _ _
      refine sm_seg 5 106 [(0, .ref a0), (1, .int i1), (2, .int i2), (3, .int i3), (4, .int i4), (5, .int i5)] [.int (((7 : Int32) * i5) + (1 : Int32)), .ref r5] rfl ?_
      refine sm_gd fun h7 => ?_
      refine sm_ai rfl h7 rfl ?_
      show sm _ _ _ _ 107 [(0, .ref a0), (1, .int i1), (2, .int i2), (3, .int i3), (4, .int i4), (5, .int i5)] [.int (cm_I w r5 (((7 : Int32) * i5) + (1 : Int32)).toNatClampNeg)] _ _
      refine sm_if (pc1 := 129) (lv1 := [(0, .ref a0), (1, .int i1), (2, .int i2), (3, .int i3), (4, .int i4), (5, .int i5)]) (pc2 := 110) (lv2 := [(0, .ref a0), (1, .int i1), (2, .int i2), (3, .int i3), (4, .int i4), (5, .int i5)]) (st1 := []) rfl rfl rfl (fun h8 => ?_) (fun h8 => ?_)
      · exact jt_264_129 w (fn_264_86 w n) ih a0 i1 i2 i3 i4 i5
      · refine sm_seg 2 113 [(0, .ref a0), (1, .int i1), (2, .int i2), (3, .int i3), (4, .int i4), (5, .int i5)] [.ref a0, .int i4] rfl ?_
        refine sm_gR rfl h3 rfl rfl fun r9 h10 => ?_
        show sm _ _ _ _ 116 [(0, .ref a0), (1, .int i1), (2, .int i2), (3, .int i3), (4, .int i4), (5, .int i5)] [.ref r9, .int i4] _ _
        refine sm_seg 5 123 [(0, .ref a0), (1, .int i1), (2, .int i2), (3, .int i3), (4, .int i4), (5, .int i5)] [.int (((7 : Int32) * i5) + (4 : Int32)), .ref r9, .int i4] rfl ?_
        refine sm_gd fun h11 => ?_
        refine sm_ai rfl h11 rfl ?_
        show sm _ _ _ _ 124 [(0, .ref a0), (1, .int i1), (2, .int i2), (3, .int i3), (4, .int i4), (5, .int i5)] [.int (cm_I w r9 (((7 : Int32) * i5) + (4 : Int32)).toNatClampNeg), .int i4] _ _
        refine sm_at rfl rfl rfl ?_
        show sm _ _ _ _ 127 [(0, .ref a0), (1, .int i1), (2, .int i2), (3, .int i3), (4, .int i4), (5, .int i5)] [.int (if i4 < (cm_I w r9 (((7 : Int32) * i5) + (4 : Int32)).toNatClampNeg) then (cm_I w r9 (((7 : Int32) * i5) + (4 : Int32)).toNatClampNeg) else i4)] _ _
        refine sm_seg 1 129 [(0, .ref a0), (1, .int i1), (2, .int i2), (3, .int i3), (4, .int (if i4 < (cm_I w r9 (((7 : Int32) * i5) + (4 : Int32)).toNatClampNeg) then (cm_I w r9 (((7 : Int32) * i5) + (4 : Int32)).toNatClampNeg) else i4)), (5, .int i5)] [] rfl ?_
        exact jt_264_129 w (fn_264_86 w n) ih a0 i1 i2 i3 (if i4 < (cm_I w r9 (((7 : Int32) * i5) + (4 : Int32)).toNatClampNeg) then (cm_I w r9 (((7 : Int32) * i5) + (4 : Int32)).toNatClampNeg) else i4) i5
def fn_264_83 (w : cm_W) (a0 : Nat) (i1 : Int32) (i2 : Int32) (i3 : Int32) (i4 : Int32) : Option Int32 := fn_264_86 w cm_N a0 i1 i2 i3 i4 (0 : Int32)
theorem jt_264_83 (w : cm_W) (a0 : Nat) (i1 : Int32) (i2 : Int32) (i3 : Int32) (i4 : Int32) : sm cm_g 264 ck_264 kq_264 83 [(0, .ref a0), (1, .int i1), (2, .int i2), (3, .int i3), (4, .int i4)] [] w ((fn_264_83 w a0 i1 i2 i3 i4).map (cm_fI w)) := by
  unfold fn_264_83
  refine sm_seg 2 86 [(0, .ref a0), (1, .int i1), (2, .int i2), (3, .int i3), (4, .int i4), (5, .int (0 : Int32))] [] rfl ?_
  exact jt_264_86 w cm_N a0 i1 i2 i3 i4 (0 : Int32)
def fn_264_21 (w : cm_W) : Nat → Nat → Int32 → Int32 → Int32 → Int32 → Int32 → Option Int32
  | 0, _, _, _, _, _, _ => none
  | n + 1, a0, i1, i2, i3, i4, i5 => (if cm_sh w a0 = some (.inl 11) then (if (cm_I w a0 38) ≤ i5 then fn_264_83 w a0 i1 i2 i3 i4 else (fn_260 w a0 i5).bind fun v14 => (if v14 ≤ 0 then (fn_195 w (0 : Int32)).bind fun v17 => fn_264_21 w n a0 i1 (i2 + v17) (if i3 < v14 then v14 else i3) i4 (i5 + (1 : Int32)) else (fn_231 w a0 i5).bind fun v19 => (cm_R w a0 40).bind fun r21 => (if cm_ga w .int r21 i5 = true then (if ¬ v19 = (cm_I w r21 i5.toNatClampNeg) then (fn_195 w (0 : Int32)).bind fun v25 => fn_264_21 w n a0 i1 (i2 + v25) (if i3 < v14 then v14 else i3) i4 (i5 + (1 : Int32)) else (fn_195 w (1 : Int32)).bind fun v27 => fn_264_21 w n a0 i1 (i2 + v27) (if i3 < v14 then v14 else i3) i4 (i5 + (1 : Int32))) else none))) else none)
theorem jt_264_21 (w : cm_W) : ∀ (n : Nat) (a0 : Nat) (i1 : Int32) (i2 : Int32) (i3 : Int32) (i4 : Int32) (i5 : Int32), sm cm_g 264 ck_264 kq_264 21 [(0, .ref a0), (1, .int i1), (2, .int i2), (3, .int i3), (4, .int i4), (5, .int i5)] [] w ((fn_264_21 w n a0 i1 i2 i3 i4 i5).map (cm_fI w)) := by
  intro n
  induction n with
  | zero => intro a0 i1 i2 i3 i4 i5; exact sm_no
  | succ n ih =>
    intro a0 i1 i2 i3 i4 i5
    rw [fn_264_21]
    refine sm_seg 2 24 [(0, .ref a0), (1, .int i1), (2, .int i2), (3, .int i3), (4, .int i4), (5, .int i5)] [.ref a0, .int i5] rfl ?_
    refine sm_gd fun h12 => ?_
    refine sm_gI rfl h12 rfl ?_
    show sm _ _ _ _ 27 [(0, .ref a0), (1, .int i1), (2, .int i2), (3, .int i3), (4, .int i4), (5, .int i5)] [.int (cm_I w a0 38), .int i5] _ _
    refine sm_if (pc1 := 83) (lv1 := [(0, .ref a0), (1, .int i1), (2, .int i2), (3, .int i3), (4, .int i4)]) (pc2 := 30) (lv2 := [(0, .ref a0), (1, .int i1), (2, .int i2), (3, .int i3), (4, .int i4), (5, .int i5)]) (st1 := []) rfl rfl rfl (fun h13 => ?_) (fun h13 => ?_)
    · exact jt_264_83 w a0 i1 i2 i3 i4
    · refine sm_seg 2 33 [(0, .ref a0), (1, .int i1), (2, .int i2), (3, .int i3), (4, .int i4), (5, .int i5)] [.int i5, .ref a0] rfl ?_
      refine sm_cV (as := [.int i5]) (rest := []) rfl rfl rfl rfl h12 (Nat.le_of_ble_eq_true rfl) (ca_260 w a0 i5) fun v14 h15 => ?_
      show sm _ _ _ _ 36 [(0, .ref a0), (1, .int i1), (2, .int i2), (3, .int i3), (4, .int i4), (5, .int i5)] [.int v14] _ _
      refine sm_seg 3 41 [(6, .int v14), (0, .ref a0), (1, .int i1), (2, .int i2), (3, .int i3), (4, .int i4), (5, .int i5)] [.int v14, .int i2] rfl ?_
      refine sm_if (pc1 := 64) (lv1 := [(0, .ref a0), (1, .int i1), (3, .int i3), (4, .int i4), (5, .int i5), (6, .int v14)]) (pc2 := 44) (lv2 := [(6, .int v14), (0, .ref a0), (1, .int i1), (2, .int i2), (3, .int i3), (4, .int i4), (5, .int i5)]) (st1 := [.int i2]) rfl rfl rfl (fun h16 => ?_) (fun h16 => ?_)
      · refine sm_seg 1 65 [(0, .ref a0), (1, .int i1), (3, .int i3), (4, .int i4), (5, .int i5), (6, .int v14)] [.int (0 : Int32), .int i2] rfl ?_
        refine sm_cS (av := [.int (0 : Int32)]) (rest := [.int i2]) rfl rfl rfl rfl (Nat.le_of_ble_eq_true rfl) (ca_195 w (0 : Int32)) fun v17 h18 => ?_
        show sm _ _ _ _ 68 [(0, .ref a0), (1, .int i1), (3, .int i3), (4, .int i4), (5, .int i5), (6, .int v14)] [.int v17, .int i2] _ _
        refine sm_seg 4 73 [(2, .int (i2 + v17)), (0, .ref a0), (1, .int i1), (3, .int i3), (4, .int i4), (5, .int i5), (6, .int v14)] [.int v14, .int i3] rfl ?_
        refine sm_at rfl rfl rfl ?_
        show sm _ _ _ _ 76 [(2, .int (i2 + v17)), (0, .ref a0), (1, .int i1), (3, .int i3), (4, .int i4), (5, .int i5), (6, .int v14)] [.int (if i3 < v14 then v14 else i3)] _ _
        refine sm_seg 3 21 [(0, .ref a0), (1, .int i1), (2, .int (i2 + v17)), (3, .int (if i3 < v14 then v14 else i3)), (4, .int i4), (5, .int (i5 + (1 : Int32)))] [] rfl ?_
        exact ih a0 i1 (i2 + v17) (if i3 < v14 then v14 else i3) i4 (i5 + (1 : Int32))
      · refine sm_seg 2 47 [(6, .int v14), (0, .ref a0), (1, .int i1), (2, .int i2), (3, .int i3), (4, .int i4), (5, .int i5)] [.int i5, .ref a0, .int i2] rfl ?_
        refine sm_cV (as := [.int i5]) (rest := [.int i2]) rfl rfl rfl rfl h12 (Nat.le_of_ble_eq_true rfl) (ca_231 w a0 i5) fun v19 h20 => ?_
        show sm _ _ _ _ 50 [(6, .int v14), (0, .ref a0), (1, .int i1), (2, .int i2), (3, .int i3), (4, .int i4), (5, .int i5)] [.int v19, .int i2] _ _
        refine sm_seg 1 51 [(6, .int v14), (0, .ref a0), (1, .int i1), (2, .int i2), (3, .int i3), (4, .int i4), (5, .int i5)] [.ref a0, .int v19, .int i2] rfl ?_
        refine sm_gR rfl h12 rfl rfl fun r21 h22 => ?_
        show sm _ _ _ _ 54 [(6, .int v14), (0, .ref a0), (1, .int i1), (2, .int i2), (3, .int i3), (4, .int i4), (5, .int i5)] [.ref r21, .int v19, .int i2] _ _
        refine sm_seg 1 56 [(6, .int v14), (0, .ref a0), (1, .int i1), (2, .int i2), (3, .int i3), (4, .int i4), (5, .int i5)] [.int i5, .ref r21, .int v19, .int i2] rfl ?_
        refine sm_gd fun h23 => ?_
        refine sm_ai rfl h23 rfl ?_
        show sm _ _ _ _ 57 [(6, .int v14), (0, .ref a0), (1, .int i1), (2, .int i2), (3, .int i3), (4, .int i4), (5, .int i5)] [.int (cm_I w r21 i5.toNatClampNeg), .int v19, .int i2] _ _
        refine sm_if (pc1 := 64) (lv1 := [(0, .ref a0), (1, .int i1), (3, .int i3), (4, .int i4), (5, .int i5), (6, .int v14)]) (pc2 := 60) (lv2 := [(6, .int v14), (0, .ref a0), (1, .int i1), (2, .int i2), (3, .int i3), (4, .int i4), (5, .int i5)]) (st1 := [.int i2]) rfl rfl rfl (fun h24 => ?_) (fun h24 => ?_)
        · refine sm_seg 1 65 [(0, .ref a0), (1, .int i1), (3, .int i3), (4, .int i4), (5, .int i5), (6, .int v14)] [.int (0 : Int32), .int i2] rfl ?_
          refine sm_cS (av := [.int (0 : Int32)]) (rest := [.int i2]) rfl rfl rfl rfl (Nat.le_of_ble_eq_true rfl) (ca_195 w (0 : Int32)) fun v25 h26 => ?_
          show sm _ _ _ _ 68 [(0, .ref a0), (1, .int i1), (3, .int i3), (4, .int i4), (5, .int i5), (6, .int v14)] [.int v25, .int i2] _ _
          refine sm_seg 4 73 [(2, .int (i2 + v25)), (0, .ref a0), (1, .int i1), (3, .int i3), (4, .int i4), (5, .int i5), (6, .int v14)] [.int v14, .int i3] rfl ?_
          refine sm_at rfl rfl rfl ?_
          show sm _ _ _ _ 76 [(2, .int (i2 + v25)), (0, .ref a0), (1, .int i1), (3, .int i3), (4, .int i4), (5, .int i5), (6, .int v14)] [.int (if i3 < v14 then v14 else i3)] _ _
          refine sm_seg 3 21 [(0, .ref a0), (1, .int i1), (2, .int (i2 + v25)), (3, .int (if i3 < v14 then v14 else i3)), (4, .int i4), (5, .int (i5 + (1 : Int32)))] [] rfl ?_
          exact ih a0 i1 (i2 + v25) (if i3 < v14 then v14 else i3) i4 (i5 + (1 : Int32))
        · refine sm_seg 2 65 [(0, .ref a0), (1, .int i1), (3, .int i3), (4, .int i4), (5, .int i5), (6, .int v14)] [.int (1 : Int32), .int i2] rfl ?_
          refine sm_cS (av := [.int (1 : Int32)]) (rest := [.int i2]) rfl rfl rfl rfl (Nat.le_of_ble_eq_true rfl) (ca_195 w (1 : Int32)) fun v27 h28 => ?_
          show sm _ _ _ _ 68 [(0, .ref a0), (1, .int i1), (3, .int i3), (4, .int i4), (5, .int i5), (6, .int v14)] [.int v27, .int i2] _ _
          refine sm_seg 4 73 [(2, .int (i2 + v27)), (0, .ref a0), (1, .int i1), (3, .int i3), (4, .int i4), (5, .int i5), (6, .int v14)] [.int v14, .int i3] rfl ?_
          refine sm_at rfl rfl rfl ?_
          show sm _ _ _ _ 76 [(2, .int (i2 + v27)), (0, .ref a0), (1, .int i1), (3, .int i3), (4, .int i4), (5, .int i5), (6, .int v14)] [.int (if i3 < v14 then v14 else i3)] _ _
          refine sm_seg 3 21 [(0, .ref a0), (1, .int i1), (2, .int (i2 + v27)), (3, .int (if i3 < v14 then v14 else i3)), (4, .int i4), (5, .int (i5 + (1 : Int32)))] [] rfl ?_
          exact ih a0 i1 (i2 + v27) (if i3 < v14 then v14 else i3) i4 (i5 + (1 : Int32))
def fn_264_11 (w : cm_W) (a0 : Nat) (i1 : Int32) : Option Int32 := fn_264_21 w cm_N a0 i1 (0 : Int32) (0 : Int32) (-1 : Int32) (0 : Int32)
theorem jt_264_11 (w : cm_W) (a0 : Nat) (i1 : Int32) : sm cm_g 264 ck_264 kq_264 11 [(0, .ref a0), (1, .int i1)] [] w ((fn_264_11 w a0 i1).map (cm_fI w)) := by
  unfold fn_264_11
  refine sm_seg 8 21 [(0, .ref a0), (1, .int i1), (2, .int (0 : Int32)), (3, .int (0 : Int32)), (4, .int (-1 : Int32)), (5, .int (0 : Int32))] [] rfl ?_
  exact jt_264_21 w cm_N a0 i1 (0 : Int32) (0 : Int32) (-1 : Int32) (0 : Int32)
def fn_264 (w : cm_W) (a0 : Nat) (i1 : Int32) : Option Int32 := (fn_194 w i1 (0 : Int32) (2 : Int32)).bind fun v29 => (if ¬ (cm_b v29) = 0 then fn_264_11 w a0 i1 else some (-1 : Int32))
theorem jt_264_0 (w : cm_W) (a0 : Nat) (i1 : Int32) : sm cm_g 264 ck_264 kq_264 0 [(0, .ref a0), (1, .int i1)] [] w ((fn_264 w a0 i1).map (cm_fI w)) := by
  unfold fn_264
  refine sm_seg 3 3 [(0, .ref a0), (1, .int i1)] [.int (2 : Int32), .int (0 : Int32), .int i1] rfl ?_
  refine sm_cS (av := [.int i1, .int (0 : Int32), .int (2 : Int32)]) (rest := []) rfl rfl rfl rfl (Nat.le_of_ble_eq_true rfl) (ca_194 w i1 (0 : Int32) (2 : Int32)) fun v29 h30 => ?_
  show sm _ _ _ _ 6 [(0, .ref a0), (1, .int i1)] [.int (cm_b v29)] _ _
  refine sm_if (pc1 := 11) (lv1 := [(0, .ref a0), (1, .int i1)]) (pc2 := 9) (lv2 := [(0, .ref a0), (1, .int i1)]) (st1 := []) rfl rfl rfl (fun h31 => ?_) (fun h31 => ?_)
  · exact jt_264_11 w a0 i1
  · refine sm_seg 1 10 [(0, .ref a0), (1, .int i1)] [.int (-1 : Int32)] rfl ?_
    exact sm_rI rfl rfl
theorem ca_264 (w : cm_W) (a0 : Nat) (i1 : Int32) : cm_ca cm_g 264 [.ref a0, .int i1] w ((fn_264 w a0 i1).map (cm_fI w)) := cm_ca_of (cm_me_of rfl rfl) rfl (jt_264_0 w a0 i1)
-- NailedBoxesModel.row(IIII)I
def fn_265_41 (a0 : Nat) (w : cm_W) : Option (Int32 × cm_W) := (if cm_sh w a0 = some (.inl 11) then (fn_199 a0 (0 : Int32) (-1 : Int32) w).bind fun v2 => some (v2.1, v2.2) else none)
theorem jt_265_41 (a0 : Nat) (w : cm_W) : sm cm_g 265 ck_265 kq_265 41 [(0, .ref a0)] [] w ((fn_265_41 a0 w).map cm_gI) := by
  unfold fn_265_41
  refine sm_seg 3 44 [(0, .ref a0)] [.int (-1 : Int32), .int (0 : Int32), .ref a0] rfl ?_
  refine sm_gd fun h1 => ?_
  refine sm_cV (as := [.int (0 : Int32), .int (-1 : Int32)]) (rest := []) rfl rfl rfl rfl h1 (Nat.le_of_ble_eq_true rfl) (ca_199  a0 (0 : Int32) (-1 : Int32) w) fun v2 h3 => ?_
  show sm _ _ _ _ 47 [(0, .ref a0)] [.int v2.1] _ _
  exact sm_rIW rfl rfl
def fn_265_64 (a0 : Nat) (i1 : Int32) (i2 : Int32) (i3 : Int32) (i4 : Int32) (w : cm_W) : Option (Int32 × cm_W) := (if cm_sh w a0 = some (.inl 11) then (cm_R w a0 59).bind fun r5 => (if cm_ga w .int r5 (cm_I w a0 58) = true then (if cm_w2 96 143 r5 = true then (cm_R (cm_sI w r5 (cm_I w a0 58).toNatClampNeg i1) a0 60).bind fun r9 => (if cm_ga w .int r9 (cm_I (cm_sI w r5 (cm_I w a0 58).toNatClampNeg i1) a0 58) = true then (if cm_w2 96 143 r9 = true then (cm_R (cm_sI (cm_sI w r5 (cm_I w a0 58).toNatClampNeg i1) r9 (cm_I (cm_sI w r5 (cm_I w a0 58).toNatClampNeg i1) a0 58).toNatClampNeg i2) a0 61).bind fun r13 => (if cm_ga w .int r13 (cm_I (cm_sI (cm_sI w r5 (cm_I w a0 58).toNatClampNeg i1) r9 (cm_I (cm_sI w r5 (cm_I w a0 58).toNatClampNeg i1) a0 58).toNatClampNeg i2) a0 58) = true then (if cm_w2 96 143 r13 = true then (cm_R (cm_sI (cm_sI (cm_sI w r5 (cm_I w a0 58).toNatClampNeg i1) r9 (cm_I (cm_sI w r5 (cm_I w a0 58).toNatClampNeg i1) a0 58).toNatClampNeg i2) r13 (cm_I (cm_sI (cm_sI w r5 (cm_I w a0 58).toNatClampNeg i1) r9 (cm_I (cm_sI w r5 (cm_I w a0 58).toNatClampNeg i1) a0 58).toNatClampNeg i2) a0 58).toNatClampNeg i3) a0 62).bind fun r17 => (if cm_ga w .int r17 (cm_I (cm_sI (cm_sI (cm_sI w r5 (cm_I w a0 58).toNatClampNeg i1) r9 (cm_I (cm_sI w r5 (cm_I w a0 58).toNatClampNeg i1) a0 58).toNatClampNeg i2) r13 (cm_I (cm_sI (cm_sI w r5 (cm_I w a0 58).toNatClampNeg i1) r9 (cm_I (cm_sI w r5 (cm_I w a0 58).toNatClampNeg i1) a0 58).toNatClampNeg i2) a0 58).toNatClampNeg i3) a0 58) = true then (if cm_w2 96 143 r17 = true then (if cm_w2 96 143 a0 = true then some ((cm_I (cm_sI (cm_sI (cm_sI (cm_sI (cm_sI w r5 (cm_I w a0 58).toNatClampNeg i1) r9 (cm_I (cm_sI w r5 (cm_I w a0 58).toNatClampNeg i1) a0 58).toNatClampNeg i2) r13 (cm_I (cm_sI (cm_sI w r5 (cm_I w a0 58).toNatClampNeg i1) r9 (cm_I (cm_sI w r5 (cm_I w a0 58).toNatClampNeg i1) a0 58).toNatClampNeg i2) a0 58).toNatClampNeg i3) r17 (cm_I (cm_sI (cm_sI (cm_sI w r5 (cm_I w a0 58).toNatClampNeg i1) r9 (cm_I (cm_sI w r5 (cm_I w a0 58).toNatClampNeg i1) a0 58).toNatClampNeg i2) r13 (cm_I (cm_sI (cm_sI w r5 (cm_I w a0 58).toNatClampNeg i1) r9 (cm_I (cm_sI w r5 (cm_I w a0 58).toNatClampNeg i1) a0 58).toNatClampNeg i2) a0 58).toNatClampNeg i3) a0 58).toNatClampNeg i4) a0 58 ((cm_I (cm_sI (cm_sI (cm_sI (cm_sI w r5 (cm_I w a0 58).toNatClampNeg i1) r9 (cm_I (cm_sI w r5 (cm_I w a0 58).toNatClampNeg i1) a0 58).toNatClampNeg i2) r13 (cm_I (cm_sI (cm_sI w r5 (cm_I w a0 58).toNatClampNeg i1) r9 (cm_I (cm_sI w r5 (cm_I w a0 58).toNatClampNeg i1) a0 58).toNatClampNeg i2) a0 58).toNatClampNeg i3) r17 (cm_I (cm_sI (cm_sI (cm_sI w r5 (cm_I w a0 58).toNatClampNeg i1) r9 (cm_I (cm_sI w r5 (cm_I w a0 58).toNatClampNeg i1) a0 58).toNatClampNeg i2) r13 (cm_I (cm_sI (cm_sI w r5 (cm_I w a0 58).toNatClampNeg i1) r9 (cm_I (cm_sI w r5 (cm_I w a0 58).toNatClampNeg i1) a0 58).toNatClampNeg i2) a0 58).toNatClampNeg i3) a0 58).toNatClampNeg i4) a0 58) + (1 : Int32))) a0 58), (cm_sI (cm_sI (cm_sI (cm_sI (cm_sI w r5 (cm_I w a0 58).toNatClampNeg i1) r9 (cm_I (cm_sI w r5 (cm_I w a0 58).toNatClampNeg i1) a0 58).toNatClampNeg i2) r13 (cm_I (cm_sI (cm_sI w r5 (cm_I w a0 58).toNatClampNeg i1) r9 (cm_I (cm_sI w r5 (cm_I w a0 58).toNatClampNeg i1) a0 58).toNatClampNeg i2) a0 58).toNatClampNeg i3) r17 (cm_I (cm_sI (cm_sI (cm_sI w r5 (cm_I w a0 58).toNatClampNeg i1) r9 (cm_I (cm_sI w r5 (cm_I w a0 58).toNatClampNeg i1) a0 58).toNatClampNeg i2) r13 (cm_I (cm_sI (cm_sI w r5 (cm_I w a0 58).toNatClampNeg i1) r9 (cm_I (cm_sI w r5 (cm_I w a0 58).toNatClampNeg i1) a0 58).toNatClampNeg i2) a0 58).toNatClampNeg i3) a0 58).toNatClampNeg i4) a0 58 ((cm_I (cm_sI (cm_sI (cm_sI (cm_sI w r5 (cm_I w a0 58).toNatClampNeg i1) r9 (cm_I (cm_sI w r5 (cm_I w a0 58).toNatClampNeg i1) a0 58).toNatClampNeg i2) r13 (cm_I (cm_sI (cm_sI w r5 (cm_I w a0 58).toNatClampNeg i1) r9 (cm_I (cm_sI w r5 (cm_I w a0 58).toNatClampNeg i1) a0 58).toNatClampNeg i2) a0 58).toNatClampNeg i3) r17 (cm_I (cm_sI (cm_sI (cm_sI w r5 (cm_I w a0 58).toNatClampNeg i1) r9 (cm_I (cm_sI w r5 (cm_I w a0 58).toNatClampNeg i1) a0 58).toNatClampNeg i2) r13 (cm_I (cm_sI (cm_sI w r5 (cm_I w a0 58).toNatClampNeg i1) r9 (cm_I (cm_sI w r5 (cm_I w a0 58).toNatClampNeg i1) a0 58).toNatClampNeg i2) a0 58).toNatClampNeg i3) a0 58).toNatClampNeg i4) a0 58) + (1 : Int32)))) else none) else none) else none) else none) else none) else none) else none) else none) else none) else none)
theorem jt_265_64 (a0 : Nat) (i1 : Int32) (i2 : Int32) (i3 : Int32) (i4 : Int32) (w : cm_W) : sm cm_g 265 ck_265 kq_265 64 [(0, .ref a0), (1, .int i1), (2, .int i2), (3, .int i3), (4, .int i4)] [] w ((fn_265_64 a0 i1 i2 i3 i4 w).map cm_gI) := by
  unfold fn_265_64
  refine sm_seg 1 65 [(0, .ref a0), (1, .int i1), (2, .int i2), (3, .int i3), (4, .int i4)] [.ref a0] rfl ?_
  refine sm_gd fun h4 => ?_
  refine sm_gR rfl h4 rfl rfl fun r5 h6 => ?_
  show sm _ _ _ _ 68 [(0, .ref a0), (1, .int i1), (2, .int i2), (3, .int i3), (4, .int i4)] [.ref r5] _ _
  refine sm_seg 1 69 [(0, .ref a0), (1, .int i1), (2, .int i2), (3, .int i3), (4, .int i4)] [.ref a0, .ref r5] rfl ?_
  refine sm_gI rfl h4 rfl ?_
  show sm _ _ _ _ 72 [(0, .ref a0), (1, .int i1), (2, .int i2), (3, .int i3), (4, .int i4)] [.int (cm_I w a0 58), .ref r5] _ _
  refine sm_seg 1 73 [(0, .ref a0), (1, .int i1), (2, .int i2), (3, .int i3), (4, .int i4)] [.int i1, .int (cm_I w a0 58), .ref r5] rfl ?_
  refine sm_gd fun h7 => ?_
  refine sm_gd fun h8 => ?_
  refine sm_si rfl h7 h8 rfl rfl ?_
  show sm _ _ _ _ 74 [(0, .ref a0), (1, .int i1), (2, .int i2), (3, .int i3), (4, .int i4)] [] _ _
  refine sm_seg 1 75 [(0, .ref a0), (1, .int i1), (2, .int i2), (3, .int i3), (4, .int i4)] [.ref a0] rfl ?_
  refine sm_gR rfl h4 rfl rfl fun r9 h10 => ?_
  show sm _ _ _ _ 78 [(0, .ref a0), (1, .int i1), (2, .int i2), (3, .int i3), (4, .int i4)] [.ref r9] _ _
  refine sm_seg 1 79 [(0, .ref a0), (1, .int i1), (2, .int i2), (3, .int i3), (4, .int i4)] [.ref a0, .ref r9] rfl ?_
  refine sm_gI rfl h4 rfl ?_
  show sm _ _ _ _ 82 [(0, .ref a0), (1, .int i1), (2, .int i2), (3, .int i3), (4, .int i4)] [.int (cm_I (cm_sI w r5 (cm_I w a0 58).toNatClampNeg i1) a0 58), .ref r9] _ _
  refine sm_seg 1 83 [(0, .ref a0), (1, .int i1), (2, .int i2), (3, .int i3), (4, .int i4)] [.int i2, .int (cm_I (cm_sI w r5 (cm_I w a0 58).toNatClampNeg i1) a0 58), .ref r9] rfl ?_
  refine sm_gd fun h11 => ?_
  refine sm_gd fun h12 => ?_
  refine sm_si rfl h11 h12 rfl rfl ?_
  show sm _ _ _ _ 84 [(0, .ref a0), (1, .int i1), (2, .int i2), (3, .int i3), (4, .int i4)] [] _ _
  refine sm_seg 1 85 [(0, .ref a0), (1, .int i1), (2, .int i2), (3, .int i3), (4, .int i4)] [.ref a0] rfl ?_
  refine sm_gR rfl h4 rfl rfl fun r13 h14 => ?_
  show sm _ _ _ _ 88 [(0, .ref a0), (1, .int i1), (2, .int i2), (3, .int i3), (4, .int i4)] [.ref r13] _ _
  refine sm_seg 1 89 [(0, .ref a0), (1, .int i1), (2, .int i2), (3, .int i3), (4, .int i4)] [.ref a0, .ref r13] rfl ?_
  refine sm_gI rfl h4 rfl ?_
  show sm _ _ _ _ 92 [(0, .ref a0), (1, .int i1), (2, .int i2), (3, .int i3), (4, .int i4)] [.int (cm_I (cm_sI (cm_sI w r5 (cm_I w a0 58).toNatClampNeg i1) r9 (cm_I (cm_sI w r5 (cm_I w a0 58).toNatClampNeg i1) a0 58).toNatClampNeg i2) a0 58), .ref r13] _ _
  refine sm_seg 1 93 [(0, .ref a0), (1, .int i1), (2, .int i2), (3, .int i3), (4, .int i4)] [.int i3, .int (cm_I (cm_sI (cm_sI w r5 (cm_I w a0 58).toNatClampNeg i1) r9 (cm_I (cm_sI w r5 (cm_I w a0 58).toNatClampNeg i1) a0 58).toNatClampNeg i2) a0 58), .ref r13] rfl ?_
  refine sm_gd fun h15 => ?_
  refine sm_gd fun h16 => ?_
  refine sm_si rfl h15 h16 rfl rfl ?_
  show sm _ _ _ _ 94 [(0, .ref a0), (1, .int i1), (2, .int i2), (3, .int i3), (4, .int i4)] [] _ _
  refine sm_seg 1 95 [(0, .ref a0), (1, .int i1), (2, .int i2), (3, .int i3), (4, .int i4)] [.ref a0] rfl ?_
  refine sm_gR rfl h4 rfl rfl fun r17 h18 => ?_
  show sm _ _ _ _ 98 [(0, .ref a0), (1, .int i1), (2, .int i2), (3, .int i3), (4, .int i4)] [.ref r17] _ _
  refine sm_seg 1 99 [(0, .ref a0), (1, .int i1), (2, .int i2), (3, .int i3), (4, .int i4)] [.ref a0, .ref r17] rfl ?_
  refine sm_gI rfl h4 rfl ?_
  show sm _ _ _ _ 102 [(0, .ref a0), (1, .int i1), (2, .int i2), (3, .int i3), (4, .int i4)] [.int (cm_I (cm_sI (cm_sI (cm_sI w r5 (cm_I w a0 58).toNatClampNeg i1) r9 (cm_I (cm_sI w r5 (cm_I w a0 58).toNatClampNeg i1) a0 58).toNatClampNeg i2) r13 (cm_I (cm_sI (cm_sI w r5 (cm_I w a0 58).toNatClampNeg i1) r9 (cm_I (cm_sI w r5 (cm_I w a0 58).toNatClampNeg i1) a0 58).toNatClampNeg i2) a0 58).toNatClampNeg i3) a0 58), .ref r17] _ _
  refine sm_seg 1 104 [(0, .ref a0), (1, .int i1), (2, .int i2), (3, .int i3), (4, .int i4)] [.int i4, .int (cm_I (cm_sI (cm_sI (cm_sI w r5 (cm_I w a0 58).toNatClampNeg i1) r9 (cm_I (cm_sI w r5 (cm_I w a0 58).toNatClampNeg i1) a0 58).toNatClampNeg i2) r13 (cm_I (cm_sI (cm_sI w r5 (cm_I w a0 58).toNatClampNeg i1) r9 (cm_I (cm_sI w r5 (cm_I w a0 58).toNatClampNeg i1) a0 58).toNatClampNeg i2) a0 58).toNatClampNeg i3) a0 58), .ref r17] rfl ?_
  refine sm_gd fun h19 => ?_
  refine sm_gd fun h20 => ?_
  refine sm_si rfl h19 h20 rfl rfl ?_
  show sm _ _ _ _ 105 [(0, .ref a0), (1, .int i1), (2, .int i2), (3, .int i3), (4, .int i4)] [] _ _
  refine sm_seg 2 107 [(0, .ref a0), (1, .int i1), (2, .int i2), (3, .int i3), (4, .int i4)] [.ref a0, .ref a0] rfl ?_
  refine sm_gI rfl h4 rfl ?_
  show sm _ _ _ _ 110 [(0, .ref a0), (1, .int i1), (2, .int i2), (3, .int i3), (4, .int i4)] [.int (cm_I (cm_sI (cm_sI (cm_sI (cm_sI w r5 (cm_I w a0 58).toNatClampNeg i1) r9 (cm_I (cm_sI w r5 (cm_I w a0 58).toNatClampNeg i1) a0 58).toNatClampNeg i2) r13 (cm_I (cm_sI (cm_sI w r5 (cm_I w a0 58).toNatClampNeg i1) r9 (cm_I (cm_sI w r5 (cm_I w a0 58).toNatClampNeg i1) a0 58).toNatClampNeg i2) a0 58).toNatClampNeg i3) r17 (cm_I (cm_sI (cm_sI (cm_sI w r5 (cm_I w a0 58).toNatClampNeg i1) r9 (cm_I (cm_sI w r5 (cm_I w a0 58).toNatClampNeg i1) a0 58).toNatClampNeg i2) r13 (cm_I (cm_sI (cm_sI w r5 (cm_I w a0 58).toNatClampNeg i1) r9 (cm_I (cm_sI w r5 (cm_I w a0 58).toNatClampNeg i1) a0 58).toNatClampNeg i2) a0 58).toNatClampNeg i3) a0 58).toNatClampNeg i4) a0 58), .ref a0] _ _
  refine sm_seg 2 112 [(0, .ref a0), (1, .int i1), (2, .int i2), (3, .int i3), (4, .int i4)] [.int ((cm_I (cm_sI (cm_sI (cm_sI (cm_sI w r5 (cm_I w a0 58).toNatClampNeg i1) r9 (cm_I (cm_sI w r5 (cm_I w a0 58).toNatClampNeg i1) a0 58).toNatClampNeg i2) r13 (cm_I (cm_sI (cm_sI w r5 (cm_I w a0 58).toNatClampNeg i1) r9 (cm_I (cm_sI w r5 (cm_I w a0 58).toNatClampNeg i1) a0 58).toNatClampNeg i2) a0 58).toNatClampNeg i3) r17 (cm_I (cm_sI (cm_sI (cm_sI w r5 (cm_I w a0 58).toNatClampNeg i1) r9 (cm_I (cm_sI w r5 (cm_I w a0 58).toNatClampNeg i1) a0 58).toNatClampNeg i2) r13 (cm_I (cm_sI (cm_sI w r5 (cm_I w a0 58).toNatClampNeg i1) r9 (cm_I (cm_sI w r5 (cm_I w a0 58).toNatClampNeg i1) a0 58).toNatClampNeg i2) a0 58).toNatClampNeg i3) a0 58).toNatClampNeg i4) a0 58) + (1 : Int32)), .ref a0] rfl ?_
  refine sm_gd fun h21 => ?_
  refine sm_pI rfl h4 rfl h21 rfl ?_
  show sm _ _ _ _ 115 [(0, .ref a0), (1, .int i1), (2, .int i2), (3, .int i3), (4, .int i4)] [] _ _
  refine sm_seg 1 116 [(0, .ref a0), (1, .int i1), (2, .int i2), (3, .int i3), (4, .int i4)] [.ref a0] rfl ?_
  refine sm_gI rfl h4 rfl ?_
  show sm _ _ _ _ 119 [(0, .ref a0), (1, .int i1), (2, .int i2), (3, .int i3), (4, .int i4)] [.int (cm_I (cm_sI (cm_sI (cm_sI (cm_sI (cm_sI w r5 (cm_I w a0 58).toNatClampNeg i1) r9 (cm_I (cm_sI w r5 (cm_I w a0 58).toNatClampNeg i1) a0 58).toNatClampNeg i2) r13 (cm_I (cm_sI (cm_sI w r5 (cm_I w a0 58).toNatClampNeg i1) r9 (cm_I (cm_sI w r5 (cm_I w a0 58).toNatClampNeg i1) a0 58).toNatClampNeg i2) a0 58).toNatClampNeg i3) r17 (cm_I (cm_sI (cm_sI (cm_sI w r5 (cm_I w a0 58).toNatClampNeg i1) r9 (cm_I (cm_sI w r5 (cm_I w a0 58).toNatClampNeg i1) a0 58).toNatClampNeg i2) r13 (cm_I (cm_sI (cm_sI w r5 (cm_I w a0 58).toNatClampNeg i1) r9 (cm_I (cm_sI w r5 (cm_I w a0 58).toNatClampNeg i1) a0 58).toNatClampNeg i2) a0 58).toNatClampNeg i3) a0 58).toNatClampNeg i4) a0 58 ((cm_I (cm_sI (cm_sI (cm_sI (cm_sI w r5 (cm_I w a0 58).toNatClampNeg i1) r9 (cm_I (cm_sI w r5 (cm_I w a0 58).toNatClampNeg i1) a0 58).toNatClampNeg i2) r13 (cm_I (cm_sI (cm_sI w r5 (cm_I w a0 58).toNatClampNeg i1) r9 (cm_I (cm_sI w r5 (cm_I w a0 58).toNatClampNeg i1) a0 58).toNatClampNeg i2) a0 58).toNatClampNeg i3) r17 (cm_I (cm_sI (cm_sI (cm_sI w r5 (cm_I w a0 58).toNatClampNeg i1) r9 (cm_I (cm_sI w r5 (cm_I w a0 58).toNatClampNeg i1) a0 58).toNatClampNeg i2) r13 (cm_I (cm_sI (cm_sI w r5 (cm_I w a0 58).toNatClampNeg i1) r9 (cm_I (cm_sI w r5 (cm_I w a0 58).toNatClampNeg i1) a0 58).toNatClampNeg i2) a0 58).toNatClampNeg i3) a0 58).toNatClampNeg i4) a0 58) + (1 : Int32))) a0 58)] _ _
  exact sm_rIW rfl rfl
def fn_265_48 (a0 : Nat) (i1 : Int32) (i2 : Int32) (i3 : Int32) (i4 : Int32) (w : cm_W) : Option (Int32 × cm_W) := (if cm_sh w a0 = some (.inl 11) then (if ¬ (cm_I w a0 58) = (40 : Int32) then fn_265_64  a0 i1 i2 i3 i4 w else (fn_199 a0 (1 : Int32) (-1 : Int32) w).bind fun v24 => some (v24.1, v24.2)) else none)
theorem jt_265_48 (a0 : Nat) (i1 : Int32) (i2 : Int32) (i3 : Int32) (i4 : Int32) (w : cm_W) : sm cm_g 265 ck_265 kq_265 48 [(0, .ref a0), (1, .int i1), (2, .int i2), (3, .int i3), (4, .int i4)] [] w ((fn_265_48 a0 i1 i2 i3 i4 w).map cm_gI) := by
  unfold fn_265_48
  refine sm_seg 1 49 [(0, .ref a0), (1, .int i1), (2, .int i2), (3, .int i3), (4, .int i4)] [.ref a0] rfl ?_
  refine sm_gd fun h22 => ?_
  refine sm_gI rfl h22 rfl ?_
  show sm _ _ _ _ 52 [(0, .ref a0), (1, .int i1), (2, .int i2), (3, .int i3), (4, .int i4)] [.int (cm_I w a0 58)] _ _
  refine sm_seg 1 54 [(0, .ref a0), (1, .int i1), (2, .int i2), (3, .int i3), (4, .int i4)] [.int (40 : Int32), .int (cm_I w a0 58)] rfl ?_
  refine sm_if (pc1 := 64) (lv1 := [(0, .ref a0), (1, .int i1), (2, .int i2), (3, .int i3), (4, .int i4)]) (pc2 := 57) (lv2 := [(0, .ref a0), (1, .int i1), (2, .int i2), (3, .int i3), (4, .int i4)]) (st1 := []) rfl rfl rfl (fun h23 => ?_) (fun h23 => ?_)
  · exact jt_265_64  a0 i1 i2 i3 i4 w
  · refine sm_seg 3 60 [(0, .ref a0), (1, .int i1), (2, .int i2), (3, .int i3), (4, .int i4)] [.int (-1 : Int32), .int (1 : Int32), .ref a0] rfl ?_
    refine sm_cV (as := [.int (1 : Int32), .int (-1 : Int32)]) (rest := []) rfl rfl rfl rfl h22 (Nat.le_of_ble_eq_true rfl) (ca_199  a0 (1 : Int32) (-1 : Int32) w) fun v24 h25 => ?_
    show sm _ _ _ _ 63 [(0, .ref a0), (1, .int i1), (2, .int i2), (3, .int i3), (4, .int i4)] [.int v24.1] _ _
    exact sm_rIW rfl rfl
def fn_265 (a0 : Nat) (i1 : Int32) (i2 : Int32) (i3 : Int32) (i4 : Int32) (w : cm_W) : Option (Int32 × cm_W) := (if cm_sh w a0 = some (.inl 11) then (fn_233 w a0 i1).bind fun v27 => (if (cm_b v27) = 0 then fn_265_41  a0 w else (fn_225 w a0 i2).bind fun v30 => (if (cm_b v30) = 0 then fn_265_41  a0 w else (fn_225 w a0 i3).bind fun v33 => (if (cm_b v33) = 0 then fn_265_41  a0 w else (if i2 = i3 then fn_265_41  a0 w else (fn_194 w i4 (0 : Int32) (9999 : Int32)).bind fun v37 => (if ¬ (cm_b v37) = 0 then fn_265_48  a0 i1 i2 i3 i4 w else fn_265_41  a0 w))))) else none)
theorem jt_265_0 (a0 : Nat) (i1 : Int32) (i2 : Int32) (i3 : Int32) (i4 : Int32) (w : cm_W) : sm cm_g 265 ck_265 kq_265 0 [(0, .ref a0), (1, .int i1), (2, .int i2), (3, .int i3), (4, .int i4)] [] w ((fn_265 a0 i1 i2 i3 i4 w).map cm_gI) := by
  unfold fn_265
  refine sm_seg 2 2 [(0, .ref a0), (1, .int i1), (2, .int i2), (3, .int i3), (4, .int i4)] [.int i1, .ref a0] rfl ?_
  refine sm_gd fun h26 => ?_
  refine sm_cV (as := [.int i1]) (rest := []) rfl rfl rfl rfl h26 (Nat.le_of_ble_eq_true rfl) (ca_233 w a0 i1) fun v27 h28 => ?_
  show sm _ _ _ _ 5 [(0, .ref a0), (1, .int i1), (2, .int i2), (3, .int i3), (4, .int i4)] [.int (cm_b v27)] _ _
  refine sm_if (pc1 := 41) (lv1 := [(0, .ref a0)]) (pc2 := 8) (lv2 := [(0, .ref a0), (1, .int i1), (2, .int i2), (3, .int i3), (4, .int i4)]) (st1 := []) rfl rfl rfl (fun h29 => ?_) (fun h29 => ?_)
  · exact jt_265_41  a0 w
  · refine sm_seg 2 10 [(0, .ref a0), (1, .int i1), (2, .int i2), (3, .int i3), (4, .int i4)] [.int i2, .ref a0] rfl ?_
    refine sm_cV (as := [.int i2]) (rest := []) rfl rfl rfl rfl h26 (Nat.le_of_ble_eq_true rfl) (ca_225 w a0 i2) fun v30 h31 => ?_
    show sm _ _ _ _ 13 [(0, .ref a0), (1, .int i1), (2, .int i2), (3, .int i3), (4, .int i4)] [.int (cm_b v30)] _ _
    refine sm_if (pc1 := 41) (lv1 := [(0, .ref a0)]) (pc2 := 16) (lv2 := [(0, .ref a0), (1, .int i1), (2, .int i2), (3, .int i3), (4, .int i4)]) (st1 := []) rfl rfl rfl (fun h32 => ?_) (fun h32 => ?_)
    · exact jt_265_41  a0 w
    · refine sm_seg 2 18 [(0, .ref a0), (1, .int i1), (2, .int i2), (3, .int i3), (4, .int i4)] [.int i3, .ref a0] rfl ?_
      refine sm_cV (as := [.int i3]) (rest := []) rfl rfl rfl rfl h26 (Nat.le_of_ble_eq_true rfl) (ca_225 w a0 i3) fun v33 h34 => ?_
      show sm _ _ _ _ 21 [(0, .ref a0), (1, .int i1), (2, .int i2), (3, .int i3), (4, .int i4)] [.int (cm_b v33)] _ _
      refine sm_if (pc1 := 41) (lv1 := [(0, .ref a0)]) (pc2 := 24) (lv2 := [(0, .ref a0), (1, .int i1), (2, .int i2), (3, .int i3), (4, .int i4)]) (st1 := []) rfl rfl rfl (fun h35 => ?_) (fun h35 => ?_)
      · exact jt_265_41  a0 w
      · refine sm_seg 2 26 [(0, .ref a0), (1, .int i1), (2, .int i2), (3, .int i3), (4, .int i4)] [.int i3, .int i2] rfl ?_
        refine sm_if (pc1 := 41) (lv1 := [(0, .ref a0)]) (pc2 := 29) (lv2 := [(0, .ref a0), (1, .int i1), (2, .int i2), (3, .int i3), (4, .int i4)]) (st1 := []) rfl rfl rfl (fun h36 => ?_) (fun h36 => ?_)
        · exact jt_265_41  a0 w
        · refine sm_seg 3 35 [(0, .ref a0), (1, .int i1), (2, .int i2), (3, .int i3), (4, .int i4)] [.int (9999 : Int32), .int (0 : Int32), .int i4] rfl ?_
          refine sm_cS (av := [.int i4, .int (0 : Int32), .int (9999 : Int32)]) (rest := []) rfl rfl rfl rfl (Nat.le_of_ble_eq_true rfl) (ca_194 w i4 (0 : Int32) (9999 : Int32)) fun v37 h38 => ?_
          show sm _ _ _ _ 38 [(0, .ref a0), (1, .int i1), (2, .int i2), (3, .int i3), (4, .int i4)] [.int (cm_b v37)] _ _
          refine sm_if (pc1 := 48) (lv1 := [(0, .ref a0), (1, .int i1), (2, .int i2), (3, .int i3), (4, .int i4)]) (pc2 := 41) (lv2 := [(0, .ref a0)]) (st1 := []) rfl rfl rfl (fun h39 => ?_) (fun h39 => ?_)
          · exact jt_265_48  a0 i1 i2 i3 i4 w
          · exact jt_265_41  a0 w
theorem ca_265 (a0 : Nat) (i1 : Int32) (i2 : Int32) (i3 : Int32) (i4 : Int32) (w : cm_W) : cm_ca cm_g 265 [.ref a0, .int i1, .int i2, .int i3, .int i4] w ((fn_265 a0 i1 i2 i3 i4 w).map cm_gI) := cm_ca_of (cm_me_of rfl rfl) rfl (jt_265_0 a0 i1 i2 i3 i4 w)
-- NailedBoxesModel.wrong(I)I
def fn_266_217 (k_82 : Nat → Int32 → Int32 → Int32 → Int32 → cm_W → Option (Int32 × cm_W)) (a0 : Nat) (i1 : Int32) (i2 : Int32) (i3 : Int32) (i4 : Int32) (w : cm_W) : Option (Int32 × cm_W) := k_82 a0 i1 i2 i3 (i4 + (1 : Int32)) w
theorem jt_266_217 (k_82 : Nat → Int32 → Int32 → Int32 → Int32 → cm_W → Option (Int32 × cm_W)) (hk_82 : ∀ (a0 : Nat) (i1 : Int32) (i2 : Int32) (i3 : Int32) (i4 : Int32) (w : cm_W), sm cm_g 266 ck_266 kq_266 82 [(0, .ref a0), (1, .int i1), (2, .int i2), (3, .int i3), (4, .int i4)] [] w ((k_82 a0 i1 i2 i3 i4 w).map cm_gI)) (a0 : Nat) (i1 : Int32) (i2 : Int32) (i3 : Int32) (i4 : Int32) (w : cm_W) : sm cm_g 266 ck_266 kq_266 217 [(0, .ref a0), (1, .int i1), (2, .int i2), (3, .int i3), (4, .int i4)] [] w ((fn_266_217 k_82 a0 i1 i2 i3 i4 w).map cm_gI) := by
  unfold fn_266_217
  refine sm_seg 2 82 [(0, .ref a0), (1, .int i1), (2, .int i2), (3, .int i3), (4, .int (i4 + (1 : Int32)))] [] rfl ?_
  exact hk_82 a0 i1 i2 i3 (i4 + (1 : Int32)) w
def fn_266_154 (k_82 : Nat → Int32 → Int32 → Int32 → Int32 → cm_W → Option (Int32 × cm_W)) (a0 : Nat) (i1 : Int32) (i2 : Int32) (i3 : Int32) (i4 : Int32) (w : cm_W) : Option (Int32 × cm_W) := (if cm_sh w a0 = some (.inl 11) then (cm_R w a0 64).bind fun r2 => (cm_R w a0 61).bind fun r4 => (if cm_ga w .int r4 i4 = true then (if cm_ga w .int r2 (cm_I w r4 i4.toNatClampNeg) = true then (cm_R w a0 62).bind fun r8 => (if cm_ga w .int r8 i4 = true then (if cm_w2 96 143 r2 = true then (cm_R (cm_sI w r2 (cm_I w r4 i4.toNatClampNeg).toNatClampNeg ((cm_I w r2 (cm_I w r4 i4.toNatClampNeg).toNatClampNeg) - (cm_I w r8 i4.toNatClampNeg))) a0 64).bind fun r12 => (cm_R (cm_sI w r2 (cm_I w r4 i4.toNatClampNeg).toNatClampNeg ((cm_I w r2 (cm_I w r4 i4.toNatClampNeg).toNatClampNeg) - (cm_I w r8 i4.toNatClampNeg))) a0 60).bind fun r14 => (if cm_ga w .int r14 i4 = true then (if cm_ga w .int r12 (cm_I (cm_sI w r2 (cm_I w r4 i4.toNatClampNeg).toNatClampNeg ((cm_I w r2 (cm_I w r4 i4.toNatClampNeg).toNatClampNeg) - (cm_I w r8 i4.toNatClampNeg))) r14 i4.toNatClampNeg) = true then (cm_R (cm_sI w r2 (cm_I w r4 i4.toNatClampNeg).toNatClampNeg ((cm_I w r2 (cm_I w r4 i4.toNatClampNeg).toNatClampNeg) - (cm_I w r8 i4.toNatClampNeg))) a0 62).bind fun r18 => (if cm_ga w .int r18 i4 = true then (if cm_w2 96 143 r12 = true then (cm_R (cm_sI (cm_sI w r2 (cm_I w r4 i4.toNatClampNeg).toNatClampNeg ((cm_I w r2 (cm_I w r4 i4.toNatClampNeg).toNatClampNeg) - (cm_I w r8 i4.toNatClampNeg))) r12 (cm_I (cm_sI w r2 (cm_I w r4 i4.toNatClampNeg).toNatClampNeg ((cm_I w r2 (cm_I w r4 i4.toNatClampNeg).toNatClampNeg) - (cm_I w r8 i4.toNatClampNeg))) r14 i4.toNatClampNeg).toNatClampNeg ((cm_I (cm_sI w r2 (cm_I w r4 i4.toNatClampNeg).toNatClampNeg ((cm_I w r2 (cm_I w r4 i4.toNatClampNeg).toNatClampNeg) - (cm_I w r8 i4.toNatClampNeg))) r12 (cm_I (cm_sI w r2 (cm_I w r4 i4.toNatClampNeg).toNatClampNeg ((cm_I w r2 (cm_I w r4 i4.toNatClampNeg).toNatClampNeg) - (cm_I w r8 i4.toNatClampNeg))) r14 i4.toNatClampNeg).toNatClampNeg) + (cm_I (cm_sI w r2 (cm_I w r4 i4.toNatClampNeg).toNatClampNeg ((cm_I w r2 (cm_I w r4 i4.toNatClampNeg).toNatClampNeg) - (cm_I w r8 i4.toNatClampNeg))) r18 i4.toNatClampNeg))) a0 63).bind fun r22 => (cm_R (cm_sI (cm_sI w r2 (cm_I w r4 i4.toNatClampNeg).toNatClampNeg ((cm_I w r2 (cm_I w r4 i4.toNatClampNeg).toNatClampNeg) - (cm_I w r8 i4.toNatClampNeg))) r12 (cm_I (cm_sI w r2 (cm_I w r4 i4.toNatClampNeg).toNatClampNeg ((cm_I w r2 (cm_I w r4 i4.toNatClampNeg).toNatClampNeg) - (cm_I w r8 i4.toNatClampNeg))) r14 i4.toNatClampNeg).toNatClampNeg ((cm_I (cm_sI w r2 (cm_I w r4 i4.toNatClampNeg).toNatClampNeg ((cm_I w r2 (cm_I w r4 i4.toNatClampNeg).toNatClampNeg) - (cm_I w r8 i4.toNatClampNeg))) r12 (cm_I (cm_sI w r2 (cm_I w r4 i4.toNatClampNeg).toNatClampNeg ((cm_I w r2 (cm_I w r4 i4.toNatClampNeg).toNatClampNeg) - (cm_I w r8 i4.toNatClampNeg))) r14 i4.toNatClampNeg).toNatClampNeg) + (cm_I (cm_sI w r2 (cm_I w r4 i4.toNatClampNeg).toNatClampNeg ((cm_I w r2 (cm_I w r4 i4.toNatClampNeg).toNatClampNeg) - (cm_I w r8 i4.toNatClampNeg))) r18 i4.toNatClampNeg))) a0 59).bind fun r24 => (if cm_ga w .int r24 i4 = true then (cm_R (cm_sI (cm_sI w r2 (cm_I w r4 i4.toNatClampNeg).toNatClampNeg ((cm_I w r2 (cm_I w r4 i4.toNatClampNeg).toNatClampNeg) - (cm_I w r8 i4.toNatClampNeg))) r12 (cm_I (cm_sI w r2 (cm_I w r4 i4.toNatClampNeg).toNatClampNeg ((cm_I w r2 (cm_I w r4 i4.toNatClampNeg).toNatClampNeg) - (cm_I w r8 i4.toNatClampNeg))) r14 i4.toNatClampNeg).toNatClampNeg ((cm_I (cm_sI w r2 (cm_I w r4 i4.toNatClampNeg).toNatClampNeg ((cm_I w r2 (cm_I w r4 i4.toNatClampNeg).toNatClampNeg) - (cm_I w r8 i4.toNatClampNeg))) r12 (cm_I (cm_sI w r2 (cm_I w r4 i4.toNatClampNeg).toNatClampNeg ((cm_I w r2 (cm_I w r4 i4.toNatClampNeg).toNatClampNeg) - (cm_I w r8 i4.toNatClampNeg))) r14 i4.toNatClampNeg).toNatClampNeg) + (cm_I (cm_sI w r2 (cm_I w r4 i4.toNatClampNeg).toNatClampNeg ((cm_I w r2 (cm_I w r4 i4.toNatClampNeg).toNatClampNeg) - (cm_I w r8 i4.toNatClampNeg))) r18 i4.toNatClampNeg))) a0 61).bind fun r27 => (if cm_ga w .int r27 i4 = true then (if cm_ga w .int r22 (cm_I (cm_sI (cm_sI w r2 (cm_I w r4 i4.toNatClampNeg).toNatClampNeg ((cm_I w r2 (cm_I w r4 i4.toNatClampNeg).toNatClampNeg) - (cm_I w r8 i4.toNatClampNeg))) r12 (cm_I (cm_sI w r2 (cm_I w r4 i4.toNatClampNeg).toNatClampNeg ((cm_I w r2 (cm_I w r4 i4.toNatClampNeg).toNatClampNeg) - (cm_I w r8 i4.toNatClampNeg))) r14 i4.toNatClampNeg).toNatClampNeg ((cm_I (cm_sI w r2 (cm_I w r4 i4.toNatClampNeg).toNatClampNeg ((cm_I w r2 (cm_I w r4 i4.toNatClampNeg).toNatClampNeg) - (cm_I w r8 i4.toNatClampNeg))) r12 (cm_I (cm_sI w r2 (cm_I w r4 i4.toNatClampNeg).toNatClampNeg ((cm_I w r2 (cm_I w r4 i4.toNatClampNeg).toNatClampNeg) - (cm_I w r8 i4.toNatClampNeg))) r14 i4.toNatClampNeg).toNatClampNeg) + (cm_I (cm_sI w r2 (cm_I w r4 i4.toNatClampNeg).toNatClampNeg ((cm_I w r2 (cm_I w r4 i4.toNatClampNeg).toNatClampNeg) - (cm_I w r8 i4.toNatClampNeg))) r18 i4.toNatClampNeg))) r24 i4.toNatClampNeg) = true then (if cm_w2 96 143 r22 = true then fn_266_217  k_82 a0 i1 i2 i3 i4 (cm_sI (cm_sI (cm_sI w r2 (cm_I w r4 i4.toNatClampNeg).toNatClampNeg ((cm_I w r2 (cm_I w r4 i4.toNatClampNeg).toNatClampNeg) - (cm_I w r8 i4.toNatClampNeg))) r12 (cm_I (cm_sI w r2 (cm_I w r4 i4.toNatClampNeg).toNatClampNeg ((cm_I w r2 (cm_I w r4 i4.toNatClampNeg).toNatClampNeg) - (cm_I w r8 i4.toNatClampNeg))) r14 i4.toNatClampNeg).toNatClampNeg ((cm_I (cm_sI w r2 (cm_I w r4 i4.toNatClampNeg).toNatClampNeg ((cm_I w r2 (cm_I w r4 i4.toNatClampNeg).toNatClampNeg) - (cm_I w r8 i4.toNatClampNeg))) r12 (cm_I (cm_sI w r2 (cm_I w r4 i4.toNatClampNeg).toNatClampNeg ((cm_I w r2 (cm_I w r4 i4.toNatClampNeg).toNatClampNeg) - (cm_I w r8 i4.toNatClampNeg))) r14 i4.toNatClampNeg).toNatClampNeg) + (cm_I (cm_sI w r2 (cm_I w r4 i4.toNatClampNeg).toNatClampNeg ((cm_I w r2 (cm_I w r4 i4.toNatClampNeg).toNatClampNeg) - (cm_I w r8 i4.toNatClampNeg))) r18 i4.toNatClampNeg))) r22 (cm_I (cm_sI (cm_sI w r2 (cm_I w r4 i4.toNatClampNeg).toNatClampNeg ((cm_I w r2 (cm_I w r4 i4.toNatClampNeg).toNatClampNeg) - (cm_I w r8 i4.toNatClampNeg))) r12 (cm_I (cm_sI w r2 (cm_I w r4 i4.toNatClampNeg).toNatClampNeg ((cm_I w r2 (cm_I w r4 i4.toNatClampNeg).toNatClampNeg) - (cm_I w r8 i4.toNatClampNeg))) r14 i4.toNatClampNeg).toNatClampNeg ((cm_I (cm_sI w r2 (cm_I w r4 i4.toNatClampNeg).toNatClampNeg ((cm_I w r2 (cm_I w r4 i4.toNatClampNeg).toNatClampNeg) - (cm_I w r8 i4.toNatClampNeg))) r12 (cm_I (cm_sI w r2 (cm_I w r4 i4.toNatClampNeg).toNatClampNeg ((cm_I w r2 (cm_I w r4 i4.toNatClampNeg).toNatClampNeg) - (cm_I w r8 i4.toNatClampNeg))) r14 i4.toNatClampNeg).toNatClampNeg) + (cm_I (cm_sI w r2 (cm_I w r4 i4.toNatClampNeg).toNatClampNeg ((cm_I w r2 (cm_I w r4 i4.toNatClampNeg).toNatClampNeg) - (cm_I w r8 i4.toNatClampNeg))) r18 i4.toNatClampNeg))) r24 i4.toNatClampNeg).toNatClampNeg (cm_I (cm_sI (cm_sI w r2 (cm_I w r4 i4.toNatClampNeg).toNatClampNeg ((cm_I w r2 (cm_I w r4 i4.toNatClampNeg).toNatClampNeg) - (cm_I w r8 i4.toNatClampNeg))) r12 (cm_I (cm_sI w r2 (cm_I w r4 i4.toNatClampNeg).toNatClampNeg ((cm_I w r2 (cm_I w r4 i4.toNatClampNeg).toNatClampNeg) - (cm_I w r8 i4.toNatClampNeg))) r14 i4.toNatClampNeg).toNatClampNeg ((cm_I (cm_sI w r2 (cm_I w r4 i4.toNatClampNeg).toNatClampNeg ((cm_I w r2 (cm_I w r4 i4.toNatClampNeg).toNatClampNeg) - (cm_I w r8 i4.toNatClampNeg))) r12 (cm_I (cm_sI w r2 (cm_I w r4 i4.toNatClampNeg).toNatClampNeg ((cm_I w r2 (cm_I w r4 i4.toNatClampNeg).toNatClampNeg) - (cm_I w r8 i4.toNatClampNeg))) r14 i4.toNatClampNeg).toNatClampNeg) + (cm_I (cm_sI w r2 (cm_I w r4 i4.toNatClampNeg).toNatClampNeg ((cm_I w r2 (cm_I w r4 i4.toNatClampNeg).toNatClampNeg) - (cm_I w r8 i4.toNatClampNeg))) r18 i4.toNatClampNeg))) r27 i4.toNatClampNeg)) else none) else none) else none) else none) else none) else none) else none) else none) else none) else none) else none) else none) else none)
theorem jt_266_154 (k_82 : Nat → Int32 → Int32 → Int32 → Int32 → cm_W → Option (Int32 × cm_W)) (hk_82 : ∀ (a0 : Nat) (i1 : Int32) (i2 : Int32) (i3 : Int32) (i4 : Int32) (w : cm_W), sm cm_g 266 ck_266 kq_266 82 [(0, .ref a0), (1, .int i1), (2, .int i2), (3, .int i3), (4, .int i4)] [] w ((k_82 a0 i1 i2 i3 i4 w).map cm_gI)) (a0 : Nat) (i1 : Int32) (i2 : Int32) (i3 : Int32) (i4 : Int32) (w : cm_W) : sm cm_g 266 ck_266 kq_266 154 [(0, .ref a0), (1, .int i1), (2, .int i2), (3, .int i3), (4, .int i4)] [] w ((fn_266_154 k_82 a0 i1 i2 i3 i4 w).map cm_gI) := by
  unfold fn_266_154
  refine sm_seg 1 155 [(0, .ref a0), (1, .int i1), (2, .int i2), (3, .int i3), (4, .int i4)] [.ref a0] rfl ?_
  refine sm_gd fun h1 => ?_
  refine sm_gR rfl h1 rfl rfl fun r2 h3 => ?_
  show sm _ _ _ _ 158 [(0, .ref a0), (1, .int i1), (2, .int i2), (3, .int i3), (4, .int i4)] [.ref r2] _ _
  refine sm_seg 1 159 [(0, .ref a0), (1, .int i1), (2, .int i2), (3, .int i3), (4, .int i4)] [.ref a0, .ref r2] rfl ?_
  refine sm_gR rfl h1 rfl rfl fun r4 h5 => ?_
  show sm _ _ _ _ 162 [(0, .ref a0), (1, .int i1), (2, .int i2), (3, .int i3), (4, .int i4)] [.ref r4, .ref r2] _ _
  refine sm_seg 1 164 [(0, .ref a0), (1, .int i1), (2, .int i2), (3, .int i3), (4, .int i4)] [.int i4, .ref r4, .ref r2] rfl ?_
  refine sm_gd fun h6 => ?_
  refine sm_ai rfl h6 rfl ?_
  show sm _ _ _ _ 165 [(0, .ref a0), (1, .int i1), (2, .int i2), (3, .int i3), (4, .int i4)] [.int (cm_I w r4 i4.toNatClampNeg), .ref r2] _ _
  refine sm_seg 1 166 [(0, .ref a0), (1, .int i1), (2, .int i2), (3, .int i3), (4, .int i4)] [.int (cm_I w r4 i4.toNatClampNeg), .ref r2, .int (cm_I w r4 i4.toNatClampNeg), .ref r2] rfl ?_
  refine sm_gd fun h7 => ?_
  refine sm_ai rfl h7 rfl ?_
  show sm _ _ _ _ 167 [(0, .ref a0), (1, .int i1), (2, .int i2), (3, .int i3), (4, .int i4)] [.int (cm_I w r2 (cm_I w r4 i4.toNatClampNeg).toNatClampNeg), .int (cm_I w r4 i4.toNatClampNeg), .ref r2] _ _
  refine sm_seg 1 168 [(0, .ref a0), (1, .int i1), (2, .int i2), (3, .int i3), (4, .int i4)] [.ref a0, .int (cm_I w r2 (cm_I w r4 i4.toNatClampNeg).toNatClampNeg), .int (cm_I w r4 i4.toNatClampNeg), .ref r2] rfl ?_
  refine sm_gR rfl h1 rfl rfl fun r8 h9 => ?_
  show sm _ _ _ _ 171 [(0, .ref a0), (1, .int i1), (2, .int i2), (3, .int i3), (4, .int i4)] [.ref r8, .int (cm_I w r2 (cm_I w r4 i4.toNatClampNeg).toNatClampNeg), .int (cm_I w r4 i4.toNatClampNeg), .ref r2] _ _
  refine sm_seg 1 173 [(0, .ref a0), (1, .int i1), (2, .int i2), (3, .int i3), (4, .int i4)] [.int i4, .ref r8, .int (cm_I w r2 (cm_I w r4 i4.toNatClampNeg).toNatClampNeg), .int (cm_I w r4 i4.toNatClampNeg), .ref r2] rfl ?_
  refine sm_gd fun h10 => ?_
  refine sm_ai rfl h10 rfl ?_
  show sm _ _ _ _ 174 [(0, .ref a0), (1, .int i1), (2, .int i2), (3, .int i3), (4, .int i4)] [.int (cm_I w r8 i4.toNatClampNeg), .int (cm_I w r2 (cm_I w r4 i4.toNatClampNeg).toNatClampNeg), .int (cm_I w r4 i4.toNatClampNeg), .ref r2] _ _
  refine sm_seg 1 175 [(0, .ref a0), (1, .int i1), (2, .int i2), (3, .int i3), (4, .int i4)] [.int ((cm_I w r2 (cm_I w r4 i4.toNatClampNeg).toNatClampNeg) - (cm_I w r8 i4.toNatClampNeg)), .int (cm_I w r4 i4.toNatClampNeg), .ref r2] rfl ?_
  refine sm_gd fun h11 => ?_
  refine sm_si rfl h7 h11 rfl rfl ?_
  show sm _ _ _ _ 176 [(0, .ref a0), (1, .int i1), (2, .int i2), (3, .int i3), (4, .int i4)] [] _ _
  refine sm_seg 1 177 [(0, .ref a0), (1, .int i1), (2, .int i2), (3, .int i3), (4, .int i4)] [.ref a0] rfl ?_
  refine sm_gR rfl h1 rfl rfl fun r12 h13 => ?_
  show sm _ _ _ _ 180 [(0, .ref a0), (1, .int i1), (2, .int i2), (3, .int i3), (4, .int i4)] [.ref r12] _ _
  refine sm_seg 1 181 [(0, .ref a0), (1, .int i1), (2, .int i2), (3, .int i3), (4, .int i4)] [.ref a0, .ref r12] rfl ?_
  refine sm_gR rfl h1 rfl rfl fun r14 h15 => ?_
  show sm _ _ _ _ 184 [(0, .ref a0), (1, .int i1), (2, .int i2), (3, .int i3), (4, .int i4)] [.ref r14, .ref r12] _ _
  refine sm_seg 1 186 [(0, .ref a0), (1, .int i1), (2, .int i2), (3, .int i3), (4, .int i4)] [.int i4, .ref r14, .ref r12] rfl ?_
  refine sm_gd fun h16 => ?_
  refine sm_ai rfl h16 rfl ?_
  show sm _ _ _ _ 187 [(0, .ref a0), (1, .int i1), (2, .int i2), (3, .int i3), (4, .int i4)] [.int (cm_I (cm_sI w r2 (cm_I w r4 i4.toNatClampNeg).toNatClampNeg ((cm_I w r2 (cm_I w r4 i4.toNatClampNeg).toNatClampNeg) - (cm_I w r8 i4.toNatClampNeg))) r14 i4.toNatClampNeg), .ref r12] _ _
  refine sm_seg 1 188 [(0, .ref a0), (1, .int i1), (2, .int i2), (3, .int i3), (4, .int i4)] [.int (cm_I (cm_sI w r2 (cm_I w r4 i4.toNatClampNeg).toNatClampNeg ((cm_I w r2 (cm_I w r4 i4.toNatClampNeg).toNatClampNeg) - (cm_I w r8 i4.toNatClampNeg))) r14 i4.toNatClampNeg), .ref r12, .int (cm_I (cm_sI w r2 (cm_I w r4 i4.toNatClampNeg).toNatClampNeg ((cm_I w r2 (cm_I w r4 i4.toNatClampNeg).toNatClampNeg) - (cm_I w r8 i4.toNatClampNeg))) r14 i4.toNatClampNeg), .ref r12] rfl ?_
  refine sm_gd fun h17 => ?_
  refine sm_ai rfl h17 rfl ?_
  show sm _ _ _ _ 189 [(0, .ref a0), (1, .int i1), (2, .int i2), (3, .int i3), (4, .int i4)] [.int (cm_I (cm_sI w r2 (cm_I w r4 i4.toNatClampNeg).toNatClampNeg ((cm_I w r2 (cm_I w r4 i4.toNatClampNeg).toNatClampNeg) - (cm_I w r8 i4.toNatClampNeg))) r12 (cm_I (cm_sI w r2 (cm_I w r4 i4.toNatClampNeg).toNatClampNeg ((cm_I w r2 (cm_I w r4 i4.toNatClampNeg).toNatClampNeg) - (cm_I w r8 i4.toNatClampNeg))) r14 i4.toNatClampNeg).toNatClampNeg), .int (cm_I (cm_sI w r2 (cm_I w r4 i4.toNatClampNeg).toNatClampNeg ((cm_I w r2 (cm_I w r4 i4.toNatClampNeg).toNatClampNeg) - (cm_I w r8 i4.toNatClampNeg))) r14 i4.toNatClampNeg), .ref r12] _ _
  refine sm_seg 1 190 [(0, .ref a0), (1, .int i1), (2, .int i2), (3, .int i3), (4, .int i4)] [.ref a0, .int (cm_I (cm_sI w r2 (cm_I w r4 i4.toNatClampNeg).toNatClampNeg ((cm_I w r2 (cm_I w r4 i4.toNatClampNeg).toNatClampNeg) - (cm_I w r8 i4.toNatClampNeg))) r12 (cm_I (cm_sI w r2 (cm_I w r4 i4.toNatClampNeg).toNatClampNeg ((cm_I w r2 (cm_I w r4 i4.toNatClampNeg).toNatClampNeg) - (cm_I w r8 i4.toNatClampNeg))) r14 i4.toNatClampNeg).toNatClampNeg), .int (cm_I (cm_sI w r2 (cm_I w r4 i4.toNatClampNeg).toNatClampNeg ((cm_I w r2 (cm_I w r4 i4.toNatClampNeg).toNatClampNeg) - (cm_I w r8 i4.toNatClampNeg))) r14 i4.toNatClampNeg), .ref r12] rfl ?_
  refine sm_gR rfl h1 rfl rfl fun r18 h19 => ?_
  show sm _ _ _ _ 193 [(0, .ref a0), (1, .int i1), (2, .int i2), (3, .int i3), (4, .int i4)] [.ref r18, .int (cm_I (cm_sI w r2 (cm_I w r4 i4.toNatClampNeg).toNatClampNeg ((cm_I w r2 (cm_I w r4 i4.toNatClampNeg).toNatClampNeg) - (cm_I w r8 i4.toNatClampNeg))) r12 (cm_I (cm_sI w r2 (cm_I w r4 i4.toNatClampNeg).toNatClampNeg ((cm_I w r2 (cm_I w r4 i4.toNatClampNeg).toNatClampNeg) - (cm_I w r8 i4.toNatClampNeg))) r14 i4.toNatClampNeg).toNatClampNeg), .int (cm_I (cm_sI w r2 (cm_I w r4 i4.toNatClampNeg).toNatClampNeg ((cm_I w r2 (cm_I w r4 i4.toNatClampNeg).toNatClampNeg) - (cm_I w r8 i4.toNatClampNeg))) r14 i4.toNatClampNeg), .ref r12] _ _
  refine sm_seg 1 195 [(0, .ref a0), (1, .int i1), (2, .int i2), (3, .int i3), (4, .int i4)] [.int i4, .ref r18, .int (cm_I (cm_sI w r2 (cm_I w r4 i4.toNatClampNeg).toNatClampNeg ((cm_I w r2 (cm_I w r4 i4.toNatClampNeg).toNatClampNeg) - (cm_I w r8 i4.toNatClampNeg))) r12 (cm_I (cm_sI w r2 (cm_I w r4 i4.toNatClampNeg).toNatClampNeg ((cm_I w r2 (cm_I w r4 i4.toNatClampNeg).toNatClampNeg) - (cm_I w r8 i4.toNatClampNeg))) r14 i4.toNatClampNeg).toNatClampNeg), .int (cm_I (cm_sI w r2 (cm_I w r4 i4.toNatClampNeg).toNatClampNeg ((cm_I w r2 (cm_I w r4 i4.toNatClampNeg).toNatClampNeg) - (cm_I w r8 i4.toNatClampNeg))) r14 i4.toNatClampNeg), .ref r12] rfl ?_
  refine sm_gd fun h20 => ?_
  refine sm_ai rfl h20 rfl ?_
  show sm _ _ _ _ 196 [(0, .ref a0), (1, .int i1), (2, .int i2), (3, .int i3), (4, .int i4)] [.int (cm_I (cm_sI w r2 (cm_I w r4 i4.toNatClampNeg).toNatClampNeg ((cm_I w r2 (cm_I w r4 i4.toNatClampNeg).toNatClampNeg) - (cm_I w r8 i4.toNatClampNeg))) r18 i4.toNatClampNeg), .int (cm_I (cm_sI w r2 (cm_I w r4 i4.toNatClampNeg).toNatClampNeg ((cm_I w r2 (cm_I w r4 i4.toNatClampNeg).toNatClampNeg) - (cm_I w r8 i4.toNatClampNeg))) r12 (cm_I (cm_sI w r2 (cm_I w r4 i4.toNatClampNeg).toNatClampNeg ((cm_I w r2 (cm_I w r4 i4.toNatClampNeg).toNatClampNeg) - (cm_I w r8 i4.toNatClampNeg))) r14 i4.toNatClampNeg).toNatClampNeg), .int (cm_I (cm_sI w r2 (cm_I w r4 i4.toNatClampNeg).toNatClampNeg ((cm_I w r2 (cm_I w r4 i4.toNatClampNeg).toNatClampNeg) - (cm_I w r8 i4.toNatClampNeg))) r14 i4.toNatClampNeg), .ref r12] _ _
  refine sm_seg 1 197 [(0, .ref a0), (1, .int i1), (2, .int i2), (3, .int i3), (4, .int i4)] [.int ((cm_I (cm_sI w r2 (cm_I w r4 i4.toNatClampNeg).toNatClampNeg ((cm_I w r2 (cm_I w r4 i4.toNatClampNeg).toNatClampNeg) - (cm_I w r8 i4.toNatClampNeg))) r12 (cm_I (cm_sI w r2 (cm_I w r4 i4.toNatClampNeg).toNatClampNeg ((cm_I w r2 (cm_I w r4 i4.toNatClampNeg).toNatClampNeg) - (cm_I w r8 i4.toNatClampNeg))) r14 i4.toNatClampNeg).toNatClampNeg) + (cm_I (cm_sI w r2 (cm_I w r4 i4.toNatClampNeg).toNatClampNeg ((cm_I w r2 (cm_I w r4 i4.toNatClampNeg).toNatClampNeg) - (cm_I w r8 i4.toNatClampNeg))) r18 i4.toNatClampNeg)), .int (cm_I (cm_sI w r2 (cm_I w r4 i4.toNatClampNeg).toNatClampNeg ((cm_I w r2 (cm_I w r4 i4.toNatClampNeg).toNatClampNeg) - (cm_I w r8 i4.toNatClampNeg))) r14 i4.toNatClampNeg), .ref r12] rfl ?_
  refine sm_gd fun h21 => ?_
  refine sm_si rfl h17 h21 rfl rfl ?_
  show sm _ _ _ _ 198 [(0, .ref a0), (1, .int i1), (2, .int i2), (3, .int i3), (4, .int i4)] [] _ _
  refine sm_seg 1 199 [(0, .ref a0), (1, .int i1), (2, .int i2), (3, .int i3), (4, .int i4)] [.ref a0] rfl ?_
  refine sm_gR rfl h1 rfl rfl fun r22 h23 => ?_
  show sm _ _ _ _ 202 [(0, .ref a0), (1, .int i1), (2, .int i2), (3, .int i3), (4, .int i4)] [.ref r22] _ _
  refine sm_seg 1 203 [(0, .ref a0), (1, .int i1), (2, .int i2), (3, .int i3), (4, .int i4)] [.ref a0, .ref r22] rfl ?_
  refine sm_gR rfl h1 rfl rfl fun r24 h25 => ?_
  show sm _ _ _ _ 206 [(0, .ref a0), (1, .int i1), (2, .int i2), (3, .int i3), (4, .int i4)] [.ref r24, .ref r22] _ _
  refine sm_seg 1 208 [(0, .ref a0), (1, .int i1), (2, .int i2), (3, .int i3), (4, .int i4)] [.int i4, .ref r24, .ref r22] rfl ?_
  refine sm_gd fun h26 => ?_
  refine sm_ai rfl h26 rfl ?_
  show sm _ _ _ _ 209 [(0, .ref a0), (1, .int i1), (2, .int i2), (3, .int i3), (4, .int i4)] [.int (cm_I (cm_sI (cm_sI w r2 (cm_I w r4 i4.toNatClampNeg).toNatClampNeg ((cm_I w r2 (cm_I w r4 i4.toNatClampNeg).toNatClampNeg) - (cm_I w r8 i4.toNatClampNeg))) r12 (cm_I (cm_sI w r2 (cm_I w r4 i4.toNatClampNeg).toNatClampNeg ((cm_I w r2 (cm_I w r4 i4.toNatClampNeg).toNatClampNeg) - (cm_I w r8 i4.toNatClampNeg))) r14 i4.toNatClampNeg).toNatClampNeg ((cm_I (cm_sI w r2 (cm_I w r4 i4.toNatClampNeg).toNatClampNeg ((cm_I w r2 (cm_I w r4 i4.toNatClampNeg).toNatClampNeg) - (cm_I w r8 i4.toNatClampNeg))) r12 (cm_I (cm_sI w r2 (cm_I w r4 i4.toNatClampNeg).toNatClampNeg ((cm_I w r2 (cm_I w r4 i4.toNatClampNeg).toNatClampNeg) - (cm_I w r8 i4.toNatClampNeg))) r14 i4.toNatClampNeg).toNatClampNeg) + (cm_I (cm_sI w r2 (cm_I w r4 i4.toNatClampNeg).toNatClampNeg ((cm_I w r2 (cm_I w r4 i4.toNatClampNeg).toNatClampNeg) - (cm_I w r8 i4.toNatClampNeg))) r18 i4.toNatClampNeg))) r24 i4.toNatClampNeg), .ref r22] _ _
  refine sm_seg 1 210 [(0, .ref a0), (1, .int i1), (2, .int i2), (3, .int i3), (4, .int i4)] [.ref a0, .int (cm_I (cm_sI (cm_sI w r2 (cm_I w r4 i4.toNatClampNeg).toNatClampNeg ((cm_I w r2 (cm_I w r4 i4.toNatClampNeg).toNatClampNeg) - (cm_I w r8 i4.toNatClampNeg))) r12 (cm_I (cm_sI w r2 (cm_I w r4 i4.toNatClampNeg).toNatClampNeg ((cm_I w r2 (cm_I w r4 i4.toNatClampNeg).toNatClampNeg) - (cm_I w r8 i4.toNatClampNeg))) r14 i4.toNatClampNeg).toNatClampNeg ((cm_I (cm_sI w r2 (cm_I w r4 i4.toNatClampNeg).toNatClampNeg ((cm_I w r2 (cm_I w r4 i4.toNatClampNeg).toNatClampNeg) - (cm_I w r8 i4.toNatClampNeg))) r12 (cm_I (cm_sI w r2 (cm_I w r4 i4.toNatClampNeg).toNatClampNeg ((cm_I w r2 (cm_I w r4 i4.toNatClampNeg).toNatClampNeg) - (cm_I w r8 i4.toNatClampNeg))) r14 i4.toNatClampNeg).toNatClampNeg) + (cm_I (cm_sI w r2 (cm_I w r4 i4.toNatClampNeg).toNatClampNeg ((cm_I w r2 (cm_I w r4 i4.toNatClampNeg).toNatClampNeg) - (cm_I w r8 i4.toNatClampNeg))) r18 i4.toNatClampNeg))) r24 i4.toNatClampNeg), .ref r22] rfl ?_
  refine sm_gR rfl h1 rfl rfl fun r27 h28 => ?_
  show sm _ _ _ _ 213 [(0, .ref a0), (1, .int i1), (2, .int i2), (3, .int i3), (4, .int i4)] [.ref r27, .int (cm_I (cm_sI (cm_sI w r2 (cm_I w r4 i4.toNatClampNeg).toNatClampNeg ((cm_I w r2 (cm_I w r4 i4.toNatClampNeg).toNatClampNeg) - (cm_I w r8 i4.toNatClampNeg))) r12 (cm_I (cm_sI w r2 (cm_I w r4 i4.toNatClampNeg).toNatClampNeg ((cm_I w r2 (cm_I w r4 i4.toNatClampNeg).toNatClampNeg) - (cm_I w r8 i4.toNatClampNeg))) r14 i4.toNatClampNeg).toNatClampNeg ((cm_I (cm_sI w r2 (cm_I w r4 i4.toNatClampNeg).toNatClampNeg ((cm_I w r2 (cm_I w r4 i4.toNatClampNeg).toNatClampNeg) - (cm_I w r8 i4.toNatClampNeg))) r12 (cm_I (cm_sI w r2 (cm_I w r4 i4.toNatClampNeg).toNatClampNeg ((cm_I w r2 (cm_I w r4 i4.toNatClampNeg).toNatClampNeg) - (cm_I w r8 i4.toNatClampNeg))) r14 i4.toNatClampNeg).toNatClampNeg) + (cm_I (cm_sI w r2 (cm_I w r4 i4.toNatClampNeg).toNatClampNeg ((cm_I w r2 (cm_I w r4 i4.toNatClampNeg).toNatClampNeg) - (cm_I w r8 i4.toNatClampNeg))) r18 i4.toNatClampNeg))) r24 i4.toNatClampNeg), .ref r22] _ _
  refine sm_seg 1 215 [(0, .ref a0), (1, .int i1), (2, .int i2), (3, .int i3), (4, .int i4)] [.int i4, .ref r27, .int (cm_I (cm_sI (cm_sI w r2 (cm_I w r4 i4.toNatClampNeg).toNatClampNeg ((cm_I w r2 (cm_I w r4 i4.toNatClampNeg).toNatClampNeg) - (cm_I w r8 i4.toNatClampNeg))) r12 (cm_I (cm_sI w r2 (cm_I w r4 i4.toNatClampNeg).toNatClampNeg ((cm_I w r2 (cm_I w r4 i4.toNatClampNeg).toNatClampNeg) - (cm_I w r8 i4.toNatClampNeg))) r14 i4.toNatClampNeg).toNatClampNeg ((cm_I (cm_sI w r2 (cm_I w r4 i4.toNatClampNeg).toNatClampNeg ((cm_I w r2 (cm_I w r4 i4.toNatClampNeg).toNatClampNeg) - (cm_I w r8 i4.toNatClampNeg))) r12 (cm_I (cm_sI w r2 (cm_I w r4 i4.toNatClampNeg).toNatClampNeg ((cm_I w r2 (cm_I w r4 i4.toNatClampNeg).toNatClampNeg) - (cm_I w r8 i4.toNatClampNeg))) r14 i4.toNatClampNeg).toNatClampNeg) + (cm_I (cm_sI w r2 (cm_I w r4 i4.toNatClampNeg).toNatClampNeg ((cm_I w r2 (cm_I w r4 i4.toNatClampNeg).toNatClampNeg) - (cm_I w r8 i4.toNatClampNeg))) r18 i4.toNatClampNeg))) r24 i4.toNatClampNeg), .ref r22] rfl ?_
  refine sm_gd fun h29 => ?_
  refine sm_ai rfl h29 rfl ?_
  show sm _ _ _ _ 216 [(0, .ref a0), (1, .int i1), (2, .int i2), (3, .int i3), (4, .int i4)] [.int (cm_I (cm_sI (cm_sI w r2 (cm_I w r4 i4.toNatClampNeg).toNatClampNeg ((cm_I w r2 (cm_I w r4 i4.toNatClampNeg).toNatClampNeg) - (cm_I w r8 i4.toNatClampNeg))) r12 (cm_I (cm_sI w r2 (cm_I w r4 i4.toNatClampNeg).toNatClampNeg ((cm_I w r2 (cm_I w r4 i4.toNatClampNeg).toNatClampNeg) - (cm_I w r8 i4.toNatClampNeg))) r14 i4.toNatClampNeg).toNatClampNeg ((cm_I (cm_sI w r2 (cm_I w r4 i4.toNatClampNeg).toNatClampNeg ((cm_I w r2 (cm_I w r4 i4.toNatClampNeg).toNatClampNeg) - (cm_I w r8 i4.toNatClampNeg))) r12 (cm_I (cm_sI w r2 (cm_I w r4 i4.toNatClampNeg).toNatClampNeg ((cm_I w r2 (cm_I w r4 i4.toNatClampNeg).toNatClampNeg) - (cm_I w r8 i4.toNatClampNeg))) r14 i4.toNatClampNeg).toNatClampNeg) + (cm_I (cm_sI w r2 (cm_I w r4 i4.toNatClampNeg).toNatClampNeg ((cm_I w r2 (cm_I w r4 i4.toNatClampNeg).toNatClampNeg) - (cm_I w r8 i4.toNatClampNeg))) r18 i4.toNatClampNeg))) r27 i4.toNatClampNeg), .int (cm_I (cm_sI (cm_sI w r2 (cm_I w r4 i4.toNatClampNeg).toNatClampNeg ((cm_I w r2 (cm_I w r4 i4.toNatClampNeg).toNatClampNeg) - (cm_I w r8 i4.toNatClampNeg))) r12 (cm_I (cm_sI w r2 (cm_I w r4 i4.toNatClampNeg).toNatClampNeg ((cm_I w r2 (cm_I w r4 i4.toNatClampNeg).toNatClampNeg) - (cm_I w r8 i4.toNatClampNeg))) r14 i4.toNatClampNeg).toNatClampNeg ((cm_I (cm_sI w r2 (cm_I w r4 i4.toNatClampNeg).toNatClampNeg ((cm_I w r2 (cm_I w r4 i4.toNatClampNeg).toNatClampNeg) - (cm_I w r8 i4.toNatClampNeg))) r12 (cm_I (cm_sI w r2 (cm_I w r4 i4.toNatClampNeg).toNatClampNeg ((cm_I w r2 (cm_I w r4 i4.toNatClampNeg).toNatClampNeg) - (cm_I w r8 i4.toNatClampNeg))) r14 i4.toNatClampNeg).toNatClampNeg) + (cm_I (cm_sI w r2 (cm_I w r4 i4.toNatClampNeg).toNatClampNeg ((cm_I w r2 (cm_I w r4 i4.toNatClampNeg).toNatClampNeg) - (cm_I w r8 i4.toNatClampNeg))) r18 i4.toNatClampNeg))) r24 i4.toNatClampNeg), .ref r22] _ _
  refine sm_gd fun h30 => ?_
  refine sm_gd fun h31 => ?_
  refine sm_si rfl h30 h31 rfl rfl ?_
  show sm _ _ _ _ 217 [(0, .ref a0), (1, .int i1), (2, .int i2), (3, .int i3), (4, .int i4)] [] _ _
  exact jt_266_217  k_82 hk_82 a0 i1 i2 i3 i4 (cm_sI (cm_sI (cm_sI w r2 (cm_I w r4 i4.toNatClampNeg).toNatClampNeg ((cm_I w r2 (cm_I w r4 i4.toNatClampNeg).toNatClampNeg) - (cm_I w r8 i4.toNatClampNeg))) r12 (cm_I (cm_sI w r2 (cm_I w r4 i4.toNatClampNeg).toNatClampNeg ((cm_I w r2 (cm_I w r4 i4.toNatClampNeg).toNatClampNeg) - (cm_I w r8 i4.toNatClampNeg))) r14 i4.toNatClampNeg).toNatClampNeg ((cm_I (cm_sI w r2 (cm_I w r4 i4.toNatClampNeg).toNatClampNeg ((cm_I w r2 (cm_I w r4 i4.toNatClampNeg).toNatClampNeg) - (cm_I w r8 i4.toNatClampNeg))) r12 (cm_I (cm_sI w r2 (cm_I w r4 i4.toNatClampNeg).toNatClampNeg ((cm_I w r2 (cm_I w r4 i4.toNatClampNeg).toNatClampNeg) - (cm_I w r8 i4.toNatClampNeg))) r14 i4.toNatClampNeg).toNatClampNeg) + (cm_I (cm_sI w r2 (cm_I w r4 i4.toNatClampNeg).toNatClampNeg ((cm_I w r2 (cm_I w r4 i4.toNatClampNeg).toNatClampNeg) - (cm_I w r8 i4.toNatClampNeg))) r18 i4.toNatClampNeg))) r22 (cm_I (cm_sI (cm_sI w r2 (cm_I w r4 i4.toNatClampNeg).toNatClampNeg ((cm_I w r2 (cm_I w r4 i4.toNatClampNeg).toNatClampNeg) - (cm_I w r8 i4.toNatClampNeg))) r12 (cm_I (cm_sI w r2 (cm_I w r4 i4.toNatClampNeg).toNatClampNeg ((cm_I w r2 (cm_I w r4 i4.toNatClampNeg).toNatClampNeg) - (cm_I w r8 i4.toNatClampNeg))) r14 i4.toNatClampNeg).toNatClampNeg ((cm_I (cm_sI w r2 (cm_I w r4 i4.toNatClampNeg).toNatClampNeg ((cm_I w r2 (cm_I w r4 i4.toNatClampNeg).toNatClampNeg) - (cm_I w r8 i4.toNatClampNeg))) r12 (cm_I (cm_sI w r2 (cm_I w r4 i4.toNatClampNeg).toNatClampNeg ((cm_I w r2 (cm_I w r4 i4.toNatClampNeg).toNatClampNeg) - (cm_I w r8 i4.toNatClampNeg))) r14 i4.toNatClampNeg).toNatClampNeg) + (cm_I (cm_sI w r2 (cm_I w r4 i4.toNatClampNeg).toNatClampNeg ((cm_I w r2 (cm_I w r4 i4.toNatClampNeg).toNatClampNeg) - (cm_I w r8 i4.toNatClampNeg))) r18 i4.toNatClampNeg))) r24 i4.toNatClampNeg).toNatClampNeg (cm_I (cm_sI (cm_sI w r2 (cm_I w r4 i4.toNatClampNeg).toNatClampNeg ((cm_I w r2 (cm_I w r4 i4.toNatClampNeg).toNatClampNeg) - (cm_I w r8 i4.toNatClampNeg))) r12 (cm_I (cm_sI w r2 (cm_I w r4 i4.toNatClampNeg).toNatClampNeg ((cm_I w r2 (cm_I w r4 i4.toNatClampNeg).toNatClampNeg) - (cm_I w r8 i4.toNatClampNeg))) r14 i4.toNatClampNeg).toNatClampNeg ((cm_I (cm_sI w r2 (cm_I w r4 i4.toNatClampNeg).toNatClampNeg ((cm_I w r2 (cm_I w r4 i4.toNatClampNeg).toNatClampNeg) - (cm_I w r8 i4.toNatClampNeg))) r12 (cm_I (cm_sI w r2 (cm_I w r4 i4.toNatClampNeg).toNatClampNeg ((cm_I w r2 (cm_I w r4 i4.toNatClampNeg).toNatClampNeg) - (cm_I w r8 i4.toNatClampNeg))) r14 i4.toNatClampNeg).toNatClampNeg) + (cm_I (cm_sI w r2 (cm_I w r4 i4.toNatClampNeg).toNatClampNeg ((cm_I w r2 (cm_I w r4 i4.toNatClampNeg).toNatClampNeg) - (cm_I w r8 i4.toNatClampNeg))) r18 i4.toNatClampNeg))) r27 i4.toNatClampNeg))
def fn_266_124 (k_82 : Nat → Int32 → Int32 → Int32 → Int32 → cm_W → Option (Int32 × cm_W)) (a0 : Nat) (i1 : Int32) (i2 : Int32) (i3 : Int32) (i4 : Int32) (w : cm_W) : Option (Int32 × cm_W) := (if ¬ i3 = (-1 : Int32) then fn_266_154  k_82 a0 i1 i2 i3 i4 w else (if cm_sh w a0 = some (.inl 11) then (cm_R w a0 64).bind fun r34 => (cm_R w a0 61).bind fun r36 => (if cm_ga w .int r36 i4 = true then (if cm_ga w .int r34 (cm_I w r36 i4.toNatClampNeg) = true then (cm_R w a0 62).bind fun r40 => (if cm_ga w .int r40 i4 = true then (if (cm_I w r40 i4.toNatClampNeg) ≤ (cm_I w r34 (cm_I w r36 i4.toNatClampNeg).toNatClampNeg) then fn_266_154  k_82 a0 i1 i2 i3 i4 w else fn_266_154  k_82 a0 i1 i2 i4 i4 w) else none) else none) else none) else none))
theorem jt_266_124 (k_82 : Nat → Int32 → Int32 → Int32 → Int32 → cm_W → Option (Int32 × cm_W)) (hk_82 : ∀ (a0 : Nat) (i1 : Int32) (i2 : Int32) (i3 : Int32) (i4 : Int32) (w : cm_W), sm cm_g 266 ck_266 kq_266 82 [(0, .ref a0), (1, .int i1), (2, .int i2), (3, .int i3), (4, .int i4)] [] w ((k_82 a0 i1 i2 i3 i4 w).map cm_gI)) (a0 : Nat) (i1 : Int32) (i2 : Int32) (i3 : Int32) (i4 : Int32) (w : cm_W) : sm cm_g 266 ck_266 kq_266 124 [(0, .ref a0), (1, .int i1), (2, .int i2), (3, .int i3), (4, .int i4)] [] w ((fn_266_124 k_82 a0 i1 i2 i3 i4 w).map cm_gI) := by
  unfold fn_266_124
  refine sm_seg 2 126 [(0, .ref a0), (1, .int i1), (2, .int i2), (3, .int i3), (4, .int i4)] [.int (-1 : Int32), .int i3] rfl ?_
  refine sm_if (pc1 := 154) (lv1 := [(0, .ref a0), (1, .int i1), (2, .int i2), (3, .int i3), (4, .int i4)]) (pc2 := 129) (lv2 := [(0, .ref a0), (1, .int i1), (2, .int i2), (3, .int i3), (4, .int i4)]) (st1 := []) rfl rfl rfl (fun h32 => ?_) (fun h32 => ?_)
  · exact jt_266_154  k_82 hk_82 a0 i1 i2 i3 i4 w
  · refine sm_seg 1 130 [(0, .ref a0), (1, .int i1), (2, .int i2), (3, .int i3), (4, .int i4)] [.ref a0] rfl ?_
    refine sm_gd fun h33 => ?_
    refine sm_gR rfl h33 rfl rfl fun r34 h35 => ?_
    show sm _ _ _ _ 133 [(0, .ref a0), (1, .int i1), (2, .int i2), (3, .int i3), (4, .int i4)] [.ref r34] _ _
    refine sm_seg 1 134 [(0, .ref a0), (1, .int i1), (2, .int i2), (3, .int i3), (4, .int i4)] [.ref a0, .ref r34] rfl ?_
    refine sm_gR rfl h33 rfl rfl fun r36 h37 => ?_
    show sm _ _ _ _ 137 [(0, .ref a0), (1, .int i1), (2, .int i2), (3, .int i3), (4, .int i4)] [.ref r36, .ref r34] _ _
    refine sm_seg 1 139 [(0, .ref a0), (1, .int i1), (2, .int i2), (3, .int i3), (4, .int i4)] [.int i4, .ref r36, .ref r34] rfl ?_
    refine sm_gd fun h38 => ?_
    refine sm_ai rfl h38 rfl ?_
    show sm _ _ _ _ 140 [(0, .ref a0), (1, .int i1), (2, .int i2), (3, .int i3), (4, .int i4)] [.int (cm_I w r36 i4.toNatClampNeg), .ref r34] _ _
    refine sm_gd fun h39 => ?_
    refine sm_ai rfl h39 rfl ?_
    show sm _ _ _ _ 141 [(0, .ref a0), (1, .int i1), (2, .int i2), (3, .int i3), (4, .int i4)] [.int (cm_I w r34 (cm_I w r36 i4.toNatClampNeg).toNatClampNeg)] _ _
    refine sm_seg 1 142 [(0, .ref a0), (1, .int i1), (2, .int i2), (3, .int i3), (4, .int i4)] [.ref a0, .int (cm_I w r34 (cm_I w r36 i4.toNatClampNeg).toNatClampNeg)] rfl ?_
    refine sm_gR rfl h33 rfl rfl fun r40 h41 => ?_
    show sm _ _ _ _ 145 [(0, .ref a0), (1, .int i1), (2, .int i2), (3, .int i3), (4, .int i4)] [.ref r40, .int (cm_I w r34 (cm_I w r36 i4.toNatClampNeg).toNatClampNeg)] _ _
    refine sm_seg 1 147 [(0, .ref a0), (1, .int i1), (2, .int i2), (3, .int i3), (4, .int i4)] [.int i4, .ref r40, .int (cm_I w r34 (cm_I w r36 i4.toNatClampNeg).toNatClampNeg)] rfl ?_
    refine sm_gd fun h42 => ?_
    refine sm_ai rfl h42 rfl ?_
    show sm _ _ _ _ 148 [(0, .ref a0), (1, .int i1), (2, .int i2), (3, .int i3), (4, .int i4)] [.int (cm_I w r40 i4.toNatClampNeg), .int (cm_I w r34 (cm_I w r36 i4.toNatClampNeg).toNatClampNeg)] _ _
    refine sm_if (pc1 := 154) (lv1 := [(0, .ref a0), (1, .int i1), (2, .int i2), (3, .int i3), (4, .int i4)]) (pc2 := 151) (lv2 := [(0, .ref a0), (1, .int i1), (2, .int i2), (3, .int i3), (4, .int i4)]) (st1 := []) rfl rfl rfl (fun h43 => ?_) (fun h43 => ?_)
    · exact jt_266_154  k_82 hk_82 a0 i1 i2 i3 i4 w
    · refine sm_seg 2 154 [(0, .ref a0), (1, .int i1), (2, .int i2), (3, .int i4), (4, .int i4)] [] rfl ?_
      exact jt_266_154  k_82 hk_82 a0 i1 i2 i4 i4 w
def fn_266_223 (i1 : Int32) (i2 : Int32) (i3 : Int32) (w : cm_W) : Option (Int32 × cm_W) := (if ¬ i1 = 0 then some (i3, w) else some (i2, w))
theorem jt_266_223 (i1 : Int32) (i2 : Int32) (i3 : Int32) (w : cm_W) : sm cm_g 266 ck_266 kq_266 223 [(1, .int i1), (2, .int i2), (3, .int i3)] [] w ((fn_266_223 i1 i2 i3 w).map cm_gI) := by
  unfold fn_266_223
  refine sm_seg 1 224 [(1, .int i1), (2, .int i2), (3, .int i3)] [.int i1] rfl ?_
  refine sm_if (pc1 := 231) (lv1 := [(3, .int i3)]) (pc2 := 227) (lv2 := [(1, .int i1), (2, .int i2), (3, .int i3)]) (st1 := []) rfl rfl rfl (fun h44 => ?_) (fun h44 => ?_)
  · refine sm_seg 1 232 [] [.int i3] rfl ?_
    exact sm_rIW rfl rfl
  · refine sm_seg 2 232 [] [.int i2] rfl ?_
    exact sm_rIW rfl rfl
def fn_266_82 : Nat → Nat → Int32 → Int32 → Int32 → Int32 → cm_W → Option (Int32 × cm_W)
  | 0, _, _, _, _, _, _ => none
  | n + 1, a0, i1, i2, i3, i4, w => (if cm_sh w a0 = some (.inl 11) then (if (cm_I w a0 58) ≤ i4 then fn_266_223  i1 i2 i3 w else (cm_R w a0 63).bind fun r47 => (cm_R w a0 59).bind fun r49 => (if cm_ga w .int r49 i4 = true then (if cm_ga w .int r47 (cm_I w r49 i4.toNatClampNeg) = true then (cm_R w a0 60).bind fun r53 => (if cm_ga w .int r53 i4 = true then (if (cm_I w r47 (cm_I w r49 i4.toNatClampNeg).toNatClampNeg) = (cm_I w r53 i4.toNatClampNeg) then fn_266_124  (fn_266_82 n) a0 i1 i2 i3 i4 w else (if ¬ i2 = (-1 : Int32) then fn_266_217  (fn_266_82 n) a0 i1 i2 i3 i4 w else fn_266_217  (fn_266_82 n) a0 i1 i4 i3 i4 w)) else none) else none) else none)) else none)
theorem jt_266_82 : ∀ (n : Nat) (a0 : Nat) (i1 : Int32) (i2 : Int32) (i3 : Int32) (i4 : Int32) (w : cm_W), sm cm_g 266 ck_266 kq_266 82 [(0, .ref a0), (1, .int i1), (2, .int i2), (3, .int i3), (4, .int i4)] [] w ((fn_266_82 n a0 i1 i2 i3 i4 w).map cm_gI) := by
  intro n
  induction n with
  | zero => intro a0 i1 i2 i3 i4 w; exact sm_no
  | succ n ih =>
    intro a0 i1 i2 i3 i4 w
    rw [fn_266_82]
    refine sm_seg 2 85 [(0, .ref a0), (1, .int i1), (2, .int i2), (3, .int i3), (4, .int i4)] [.ref a0, .int i4] rfl ?_
    refine sm_gd fun h45 => ?_
    refine sm_gI rfl h45 rfl ?_
    show sm _ _ _ _ 88 [(0, .ref a0), (1, .int i1), (2, .int i2), (3, .int i3), (4, .int i4)] [.int (cm_I w a0 58), .int i4] _ _
    refine sm_if (pc1 := 223) (lv1 := [(1, .int i1), (2, .int i2), (3, .int i3)]) (pc2 := 91) (lv2 := [(0, .ref a0), (1, .int i1), (2, .int i2), (3, .int i3), (4, .int i4)]) (st1 := []) rfl rfl rfl (fun h46 => ?_) (fun h46 => ?_)
    · exact jt_266_223  i1 i2 i3 w
    · refine sm_seg 1 92 [(0, .ref a0), (1, .int i1), (2, .int i2), (3, .int i3), (4, .int i4)] [.ref a0] rfl ?_
      refine sm_gR rfl h45 rfl rfl fun r47 h48 => ?_
      show sm _ _ _ _ 95 [(0, .ref a0), (1, .int i1), (2, .int i2), (3, .int i3), (4, .int i4)] [.ref r47] _ _
      refine sm_seg 1 96 [(0, .ref a0), (1, .int i1), (2, .int i2), (3, .int i3), (4, .int i4)] [.ref a0, .ref r47] rfl ?_
      refine sm_gR rfl h45 rfl rfl fun r49 h50 => ?_
      show sm _ _ _ _ 99 [(0, .ref a0), (1, .int i1), (2, .int i2), (3, .int i3), (4, .int i4)] [.ref r49, .ref r47] _ _
      refine sm_seg 1 101 [(0, .ref a0), (1, .int i1), (2, .int i2), (3, .int i3), (4, .int i4)] [.int i4, .ref r49, .ref r47] rfl ?_
      refine sm_gd fun h51 => ?_
      refine sm_ai rfl h51 rfl ?_
      show sm _ _ _ _ 102 [(0, .ref a0), (1, .int i1), (2, .int i2), (3, .int i3), (4, .int i4)] [.int (cm_I w r49 i4.toNatClampNeg), .ref r47] _ _
      refine sm_gd fun h52 => ?_
      refine sm_ai rfl h52 rfl ?_
      show sm _ _ _ _ 103 [(0, .ref a0), (1, .int i1), (2, .int i2), (3, .int i3), (4, .int i4)] [.int (cm_I w r47 (cm_I w r49 i4.toNatClampNeg).toNatClampNeg)] _ _
      refine sm_seg 1 104 [(0, .ref a0), (1, .int i1), (2, .int i2), (3, .int i3), (4, .int i4)] [.ref a0, .int (cm_I w r47 (cm_I w r49 i4.toNatClampNeg).toNatClampNeg)] rfl ?_
      refine sm_gR rfl h45 rfl rfl fun r53 h54 => ?_
      show sm _ _ _ _ 107 [(0, .ref a0), (1, .int i1), (2, .int i2), (3, .int i3), (4, .int i4)] [.ref r53, .int (cm_I w r47 (cm_I w r49 i4.toNatClampNeg).toNatClampNeg)] _ _
      refine sm_seg 1 109 [(0, .ref a0), (1, .int i1), (2, .int i2), (3, .int i3), (4, .int i4)] [.int i4, .ref r53, .int (cm_I w r47 (cm_I w r49 i4.toNatClampNeg).toNatClampNeg)] rfl ?_
      refine sm_gd fun h55 => ?_
      refine sm_ai rfl h55 rfl ?_
      show sm _ _ _ _ 110 [(0, .ref a0), (1, .int i1), (2, .int i2), (3, .int i3), (4, .int i4)] [.int (cm_I w r53 i4.toNatClampNeg), .int (cm_I w r47 (cm_I w r49 i4.toNatClampNeg).toNatClampNeg)] _ _
      refine sm_if (pc1 := 124) (lv1 := [(0, .ref a0), (1, .int i1), (2, .int i2), (3, .int i3), (4, .int i4)]) (pc2 := 113) (lv2 := [(0, .ref a0), (1, .int i1), (2, .int i2), (3, .int i3), (4, .int i4)]) (st1 := []) rfl rfl rfl (fun h56 => ?_) (fun h56 => ?_)
      · exact jt_266_124  (fn_266_82 n) ih a0 i1 i2 i3 i4 w
      · refine sm_seg 2 115 [(0, .ref a0), (1, .int i1), (2, .int i2), (3, .int i3), (4, .int i4)] [.int (-1 : Int32), .int i2] rfl ?_
        refine sm_if (pc1 := 217) (lv1 := [(0, .ref a0), (1, .int i1), (2, .int i2), (3, .int i3), (4, .int i4)]) (pc2 := 118) (lv2 := [(0, .ref a0), (1, .int i1), (2, .int i2), (3, .int i3), (4, .int i4)]) (st1 := []) rfl rfl rfl (fun h57 => ?_) (fun h57 => ?_)
        · exact jt_266_217  (fn_266_82 n) ih a0 i1 i2 i3 i4 w
        · refine sm_seg 3 217 [(0, .ref a0), (1, .int i1), (2, .int i4), (3, .int i3), (4, .int i4)] [] rfl ?_
          exact jt_266_217  (fn_266_82 n) ih a0 i1 i4 i3 i4 w
def fn_266_79 (a0 : Nat) (i1 : Int32) (i2 : Int32) (i3 : Int32) (w : cm_W) : Option (Int32 × cm_W) := fn_266_82  cm_N a0 i1 i2 i3 (0 : Int32) w
theorem jt_266_79 (a0 : Nat) (i1 : Int32) (i2 : Int32) (i3 : Int32) (w : cm_W) : sm cm_g 266 ck_266 kq_266 79 [(0, .ref a0), (1, .int i1), (2, .int i2), (3, .int i3)] [] w ((fn_266_79 a0 i1 i2 i3 w).map cm_gI) := by
  unfold fn_266_79
  refine sm_seg 2 82 [(0, .ref a0), (1, .int i1), (2, .int i2), (3, .int i3), (4, .int (0 : Int32))] [] rfl ?_
  exact jt_266_82  cm_N a0 i1 i2 i3 (0 : Int32) w
def fn_266_50 : Nat → Nat → Int32 → Int32 → Int32 → Int32 → cm_W → Option (Int32 × cm_W)
  | 0, _, _, _, _, _, _ => none
  | n + 1, a0, i1, i2, i3, i4, w => (if cm_sh w a0 = some (.inl 11) then (if (cm_I w a0 2) ≤ i4 then fn_266_79  a0 i1 i2 i3 w else (cm_R w a0 64).bind fun r60 => (cm_R w a0 33).bind fun r62 => (if cm_ga w .int r62 i4 = true then (if cm_ga w .int r60 i4 = true then (if cm_w2 96 143 r60 = true then fn_266_50 n a0 i1 i2 i3 (i4 + (1 : Int32)) (cm_sI w r60 i4.toNatClampNeg (cm_I w r62 i4.toNatClampNeg)) else none) else none) else none)) else none)
theorem jt_266_50 : ∀ (n : Nat) (a0 : Nat) (i1 : Int32) (i2 : Int32) (i3 : Int32) (i4 : Int32) (w : cm_W), sm cm_g 266 ck_266 kq_266 50 [(0, .ref a0), (1, .int i1), (2, .int i2), (3, .int i3), (4, .int i4)] [] w ((fn_266_50 n a0 i1 i2 i3 i4 w).map cm_gI) := by
  intro n
  induction n with
  | zero => intro a0 i1 i2 i3 i4 w; exact sm_no
  | succ n ih =>
    intro a0 i1 i2 i3 i4 w
    rw [fn_266_50]
    refine sm_seg 2 53 [(0, .ref a0), (1, .int i1), (2, .int i2), (3, .int i3), (4, .int i4)] [.ref a0, .int i4] rfl ?_
    refine sm_gd fun h58 => ?_
    refine sm_gI rfl h58 rfl ?_
    show sm _ _ _ _ 56 [(0, .ref a0), (1, .int i1), (2, .int i2), (3, .int i3), (4, .int i4)] [.int (cm_I w a0 2), .int i4] _ _
    refine sm_if (pc1 := 79) (lv1 := [(0, .ref a0), (1, .int i1), (2, .int i2), (3, .int i3)]) (pc2 := 59) (lv2 := [(0, .ref a0), (1, .int i1), (2, .int i2), (3, .int i3), (4, .int i4)]) (st1 := []) rfl rfl rfl (fun h59 => ?_) (fun h59 => ?_)
    · exact jt_266_79  a0 i1 i2 i3 w
    · refine sm_seg 1 60 [(0, .ref a0), (1, .int i1), (2, .int i2), (3, .int i3), (4, .int i4)] [.ref a0] rfl ?_
      refine sm_gR rfl h58 rfl rfl fun r60 h61 => ?_
      show sm _ _ _ _ 63 [(0, .ref a0), (1, .int i1), (2, .int i2), (3, .int i3), (4, .int i4)] [.ref r60] _ _
      refine sm_seg 2 66 [(0, .ref a0), (1, .int i1), (2, .int i2), (3, .int i3), (4, .int i4)] [.ref a0, .int i4, .ref r60] rfl ?_
      refine sm_gR rfl h58 rfl rfl fun r62 h63 => ?_
      show sm _ _ _ _ 69 [(0, .ref a0), (1, .int i1), (2, .int i2), (3, .int i3), (4, .int i4)] [.ref r62, .int i4, .ref r60] _ _
      refine sm_seg 1 71 [(0, .ref a0), (1, .int i1), (2, .int i2), (3, .int i3), (4, .int i4)] [.int i4, .ref r62, .int i4, .ref r60] rfl ?_
      refine sm_gd fun h64 => ?_
      refine sm_ai rfl h64 rfl ?_
      show sm _ _ _ _ 72 [(0, .ref a0), (1, .int i1), (2, .int i2), (3, .int i3), (4, .int i4)] [.int (cm_I w r62 i4.toNatClampNeg), .int i4, .ref r60] _ _
      refine sm_gd fun h65 => ?_
      refine sm_gd fun h66 => ?_
      refine sm_si rfl h65 h66 rfl rfl ?_
      show sm _ _ _ _ 73 [(0, .ref a0), (1, .int i1), (2, .int i2), (3, .int i3), (4, .int i4)] [] _ _
      refine sm_seg 2 50 [(0, .ref a0), (1, .int i1), (2, .int i2), (3, .int i3), (4, .int (i4 + (1 : Int32)))] [] rfl ?_
      exact ih a0 i1 i2 i3 (i4 + (1 : Int32)) (cm_sI w r60 i4.toNatClampNeg (cm_I w r62 i4.toNatClampNeg))
def fn_266_47 (a0 : Nat) (i1 : Int32) (i2 : Int32) (i3 : Int32) (w : cm_W) : Option (Int32 × cm_W) := fn_266_50  cm_N a0 i1 i2 i3 (0 : Int32) w
theorem jt_266_47 (a0 : Nat) (i1 : Int32) (i2 : Int32) (i3 : Int32) (w : cm_W) : sm cm_g 266 ck_266 kq_266 47 [(0, .ref a0), (1, .int i1), (2, .int i2), (3, .int i3)] [] w ((fn_266_47 a0 i1 i2 i3 w).map cm_gI) := by
  unfold fn_266_47
  refine sm_seg 2 50 [(0, .ref a0), (1, .int i1), (2, .int i2), (3, .int i3), (4, .int (0 : Int32))] [] rfl ?_
  exact jt_266_50  cm_N a0 i1 i2 i3 (0 : Int32) w
def fn_266_18 : Nat → Nat → Int32 → Int32 → Int32 → Int32 → cm_W → Option (Int32 × cm_W)
  | 0, _, _, _, _, _, _ => none
  | n + 1, a0, i1, i2, i3, i4, w => (if cm_sh w a0 = some (.inl 11) then (if (cm_I w a0 38) ≤ i4 then fn_266_47  a0 i1 i2 i3 w else (cm_R w a0 63).bind fun r69 => (cm_R w a0 40).bind fun r71 => (if cm_ga w .int r71 i4 = true then (if cm_ga w .int r69 i4 = true then (if cm_w2 96 143 r69 = true then fn_266_18 n a0 i1 i2 i3 (i4 + (1 : Int32)) (cm_sI w r69 i4.toNatClampNeg (cm_I w r71 i4.toNatClampNeg)) else none) else none) else none)) else none)
theorem jt_266_18 : ∀ (n : Nat) (a0 : Nat) (i1 : Int32) (i2 : Int32) (i3 : Int32) (i4 : Int32) (w : cm_W), sm cm_g 266 ck_266 kq_266 18 [(0, .ref a0), (1, .int i1), (2, .int i2), (3, .int i3), (4, .int i4)] [] w ((fn_266_18 n a0 i1 i2 i3 i4 w).map cm_gI) := by
  intro n
  induction n with
  | zero => intro a0 i1 i2 i3 i4 w; exact sm_no
  | succ n ih =>
    intro a0 i1 i2 i3 i4 w
    rw [fn_266_18]
    refine sm_seg 2 21 [(0, .ref a0), (1, .int i1), (2, .int i2), (3, .int i3), (4, .int i4)] [.ref a0, .int i4] rfl ?_
    refine sm_gd fun h67 => ?_
    refine sm_gI rfl h67 rfl ?_
    show sm _ _ _ _ 24 [(0, .ref a0), (1, .int i1), (2, .int i2), (3, .int i3), (4, .int i4)] [.int (cm_I w a0 38), .int i4] _ _
    refine sm_if (pc1 := 47) (lv1 := [(0, .ref a0), (1, .int i1), (2, .int i2), (3, .int i3)]) (pc2 := 27) (lv2 := [(0, .ref a0), (1, .int i1), (2, .int i2), (3, .int i3), (4, .int i4)]) (st1 := []) rfl rfl rfl (fun h68 => ?_) (fun h68 => ?_)
    · exact jt_266_47  a0 i1 i2 i3 w
    · refine sm_seg 1 28 [(0, .ref a0), (1, .int i1), (2, .int i2), (3, .int i3), (4, .int i4)] [.ref a0] rfl ?_
      refine sm_gR rfl h67 rfl rfl fun r69 h70 => ?_
      show sm _ _ _ _ 31 [(0, .ref a0), (1, .int i1), (2, .int i2), (3, .int i3), (4, .int i4)] [.ref r69] _ _
      refine sm_seg 2 34 [(0, .ref a0), (1, .int i1), (2, .int i2), (3, .int i3), (4, .int i4)] [.ref a0, .int i4, .ref r69] rfl ?_
      refine sm_gR rfl h67 rfl rfl fun r71 h72 => ?_
      show sm _ _ _ _ 37 [(0, .ref a0), (1, .int i1), (2, .int i2), (3, .int i3), (4, .int i4)] [.ref r71, .int i4, .ref r69] _ _
      refine sm_seg 1 39 [(0, .ref a0), (1, .int i1), (2, .int i2), (3, .int i3), (4, .int i4)] [.int i4, .ref r71, .int i4, .ref r69] rfl ?_
      refine sm_gd fun h73 => ?_
      refine sm_ai rfl h73 rfl ?_
      show sm _ _ _ _ 40 [(0, .ref a0), (1, .int i1), (2, .int i2), (3, .int i3), (4, .int i4)] [.int (cm_I w r71 i4.toNatClampNeg), .int i4, .ref r69] _ _
      refine sm_gd fun h74 => ?_
      refine sm_gd fun h75 => ?_
      refine sm_si rfl h74 h75 rfl rfl ?_
      show sm _ _ _ _ 41 [(0, .ref a0), (1, .int i1), (2, .int i2), (3, .int i3), (4, .int i4)] [] _ _
      refine sm_seg 2 18 [(0, .ref a0), (1, .int i1), (2, .int i2), (3, .int i3), (4, .int (i4 + (1 : Int32)))] [] rfl ?_
      exact ih a0 i1 i2 i3 (i4 + (1 : Int32)) (cm_sI w r69 i4.toNatClampNeg (cm_I w r71 i4.toNatClampNeg))
def fn_266_11 (a0 : Nat) (i1 : Int32) (w : cm_W) : Option (Int32 × cm_W) := fn_266_18  cm_N a0 i1 (-1 : Int32) (-1 : Int32) (0 : Int32) w
theorem jt_266_11 (a0 : Nat) (i1 : Int32) (w : cm_W) : sm cm_g 266 ck_266 kq_266 11 [(0, .ref a0), (1, .int i1)] [] w ((fn_266_11 a0 i1 w).map cm_gI) := by
  unfold fn_266_11
  refine sm_seg 6 18 [(0, .ref a0), (1, .int i1), (2, .int (-1 : Int32)), (3, .int (-1 : Int32)), (4, .int (0 : Int32))] [] rfl ?_
  exact jt_266_18  cm_N a0 i1 (-1 : Int32) (-1 : Int32) (0 : Int32) w
def fn_266 (a0 : Nat) (i1 : Int32) (w : cm_W) : Option (Int32 × cm_W) := (fn_194 w i1 (0 : Int32) (1 : Int32)).bind fun v76 => (if ¬ (cm_b v76) = 0 then fn_266_11  a0 i1 w else some ((-1 : Int32), w))
theorem jt_266_0 (a0 : Nat) (i1 : Int32) (w : cm_W) : sm cm_g 266 ck_266 kq_266 0 [(0, .ref a0), (1, .int i1)] [] w ((fn_266 a0 i1 w).map cm_gI) := by
  unfold fn_266
  refine sm_seg 3 3 [(0, .ref a0), (1, .int i1)] [.int (1 : Int32), .int (0 : Int32), .int i1] rfl ?_
  refine sm_cS (av := [.int i1, .int (0 : Int32), .int (1 : Int32)]) (rest := []) rfl rfl rfl rfl (Nat.le_of_ble_eq_true rfl) (ca_194 w i1 (0 : Int32) (1 : Int32)) fun v76 h77 => ?_
  show sm _ _ _ _ 6 [(0, .ref a0), (1, .int i1)] [.int (cm_b v76)] _ _
  refine sm_if (pc1 := 11) (lv1 := [(0, .ref a0), (1, .int i1)]) (pc2 := 9) (lv2 := [(0, .ref a0), (1, .int i1)]) (st1 := []) rfl rfl rfl (fun h78 => ?_) (fun h78 => ?_)
  · exact jt_266_11  a0 i1 w
  · refine sm_seg 1 10 [(0, .ref a0), (1, .int i1)] [.int (-1 : Int32)] rfl ?_
    exact sm_rIW rfl rfl
theorem ca_266 (a0 : Nat) (i1 : Int32) (w : cm_W) : cm_ca cm_g 266 [.ref a0, .int i1] w ((fn_266 a0 i1 w).map cm_gI) := cm_ca_of (cm_me_of rfl rfl) rfl (jt_266_0 a0 i1 w)
-- NailedBoxesModel.isLaw(I)Z
def fn_267 (w : cm_W) (i0 : Int32) : Option Bool := (fn_194 w i0 (0 : Int32) (3 : Int32)).bind fun v1 => some v1
theorem jt_267_0 (w : cm_W) (i0 : Int32) : sm cm_g 267 ck_267 kq_267 0 [(0, .int i0)] [] w ((fn_267 w i0).map (cm_fB w)) := by
  unfold fn_267
  refine sm_seg 3 3 [(0, .int i0)] [.int (3 : Int32), .int (0 : Int32), .int i0] rfl ?_
  refine sm_cS (av := [.int i0, .int (0 : Int32), .int (3 : Int32)]) (rest := []) rfl rfl rfl rfl (Nat.le_of_ble_eq_true rfl) (ca_194 w i0 (0 : Int32) (3 : Int32)) fun v1 h2 => ?_
  show sm _ _ _ _ 6 [(0, .int i0)] [.int (cm_b v1)] _ _
  exact sm_rB (b := v1) rfl rfl
theorem ca_267 (w : cm_W) (i0 : Int32) : cm_ca cm_g 267 [.int i0] w ((fn_267 w i0).map (cm_fB w)) := cm_ca_of (cm_me_of rfl rfl) rfl (jt_267_0 w i0)
-- NailedBoxesModel.millionthsOf(II)J
def fn_268 (w : cm_W) (a0 : Nat) (i1 : Int32) (i2 : Int32) : Option Int64 := (if cm_sh w a0 = some (.inl 11) then (fn_228 w a0 i1 i2).bind fun v2 => (fn_229 w a0 i1).bind fun v4 => (if ¬ (Int32.toInt64 v4) = 0 then some (((1000000 : Int64) * (Int32.toInt64 v2)) / (Int32.toInt64 v4)) else none) else none)
theorem jt_268_0 (w : cm_W) (a0 : Nat) (i1 : Int32) (i2 : Int32) : sm cm_g 268 ck_268 kq_268 0 [(0, .ref a0), (1, .int i1), (2, .int i2)] [] w ((fn_268 w a0 i1 i2).map (cm_fL w)) := by
  unfold fn_268
  refine sm_seg 4 6 [(0, .ref a0), (1, .int i1), (2, .int i2)] [.int i2, .int i1, .ref a0, .long (1000000 : Int64)] rfl ?_
  refine sm_gd fun h1 => ?_
  refine sm_cV (as := [.int i1, .int i2]) (rest := [.long (1000000 : Int64)]) rfl rfl rfl rfl h1 (Nat.le_of_ble_eq_true rfl) (ca_228 w a0 i1 i2) fun v2 h3 => ?_
  show sm _ _ _ _ 9 [(0, .ref a0), (1, .int i1), (2, .int i2)] [.int v2, .long (1000000 : Int64)] _ _
  refine sm_seg 4 13 [(0, .ref a0), (1, .int i1), (2, .int i2)] [.int i1, .ref a0, .long ((1000000 : Int64) * (Int32.toInt64 v2))] rfl ?_
  refine sm_cV (as := [.int i1]) (rest := [.long ((1000000 : Int64) * (Int32.toInt64 v2))]) rfl rfl rfl rfl h1 (Nat.le_of_ble_eq_true rfl) (ca_229 w a0 i1) fun v4 h5 => ?_
  show sm _ _ _ _ 16 [(0, .ref a0), (1, .int i1), (2, .int i2)] [.int v4, .long ((1000000 : Int64) * (Int32.toInt64 v2))] _ _
  refine sm_seg 1 17 [(0, .ref a0), (1, .int i1), (2, .int i2)] [.long (Int32.toInt64 v4), .long ((1000000 : Int64) * (Int32.toInt64 v2))] rfl ?_
  refine sm_gd fun h6 => ?_
  refine sm_ldiv rfl h6 rfl ?_
  show sm _ _ _ _ 18 [(0, .ref a0), (1, .int i1), (2, .int i2)] [.long (((1000000 : Int64) * (Int32.toInt64 v2)) / (Int32.toInt64 v4))] _ _
  exact sm_rL rfl rfl
theorem ca_268 (w : cm_W) (a0 : Nat) (i1 : Int32) (i2 : Int32) : cm_ca cm_g 268 [.ref a0, .int i1, .int i2] w ((fn_268 w a0 i1 i2).map (cm_fL w)) := cm_ca_of (cm_me_of rfl rfl) rfl (jt_268_0 w a0 i1 i2)
-- NailedBoxesModel.pools(III)V
def fn_269_118 (k_3 : Nat → Int32 → Int32 → Int32 → Int32 → cm_W → Option cm_W) (k_75 : Nat → Int32 → Int32 → Int32 → Int32 → Int32 → Int32 → cm_W → Option cm_W) (a0 : Nat) (i1 : Int32) (i2 : Int32) (i3 : Int32) (i4 : Int32) (i5 : Int32) (i6 : Int32) (w : cm_W) : Option cm_W := k_75 a0 i1 i2 i3 i4 i5 (i6 + (1 : Int32)) w
theorem jt_269_118 (k_3 : Nat → Int32 → Int32 → Int32 → Int32 → cm_W → Option cm_W) (k_75 : Nat → Int32 → Int32 → Int32 → Int32 → Int32 → Int32 → cm_W → Option cm_W) (hk_3 : ∀ (a0 : Nat) (i1 : Int32) (i2 : Int32) (i3 : Int32) (i4 : Int32) (w : cm_W), sm cm_g 269 ck_269 kq_269 3 [(0, .ref a0), (1, .int i1), (2, .int i2), (3, .int i3), (4, .int i4)] [] w ((k_3 a0 i1 i2 i3 i4 w).map cm_gV)) (hk_75 : ∀ (a0 : Nat) (i1 : Int32) (i2 : Int32) (i3 : Int32) (i4 : Int32) (i5 : Int32) (i6 : Int32) (w : cm_W), sm cm_g 269 ck_269 kq_269 75 [(0, .ref a0), (1, .int i1), (2, .int i2), (3, .int i3), (4, .int i4), (5, .int i5), (6, .int i6)] [] w ((k_75 a0 i1 i2 i3 i4 i5 i6 w).map cm_gV)) (a0 : Nat) (i1 : Int32) (i2 : Int32) (i3 : Int32) (i4 : Int32) (i5 : Int32) (i6 : Int32) (w : cm_W) : sm cm_g 269 ck_269 kq_269 118 [(0, .ref a0), (1, .int i1), (2, .int i2), (3, .int i3), (4, .int i4), (5, .int i5), (6, .int i6)] [] w ((fn_269_118 k_3 k_75 a0 i1 i2 i3 i4 i5 i6 w).map cm_gV) := by
  unfold fn_269_118
  refine sm_seg 2 75 [(0, .ref a0), (1, .int i1), (2, .int i2), (3, .int i3), (4, .int i4), (5, .int i5), (6, .int (i6 + (1 : Int32)))] [] rfl ?_
  exact hk_75 a0 i1 i2 i3 i4 i5 (i6 + (1 : Int32)) w
def fn_269_100 (k_3 : Nat → Int32 → Int32 → Int32 → Int32 → cm_W → Option cm_W) (k_75 : Nat → Int32 → Int32 → Int32 → Int32 → Int32 → Int32 → cm_W → Option cm_W) (a0 : Nat) (i1 : Int32) (i2 : Int32) (i3 : Int32) (i4 : Int32) (i5 : Int32) (i6 : Int32) (w : cm_W) : Option cm_W := (if cm_sh w a0 = some (.inl 11) then (cm_R w a0 65).bind fun r2 => (if cm_ga w .long r2 i4 = true then (fn_268 w a0 i6 i4).bind fun v5 => (if cm_w2 96 143 r2 = true then fn_269_118  k_3 k_75 a0 i1 i2 i3 i4 i5 i6 (cm_sL w r2 i4.toNatClampNeg ((cm_L w r2 i4.toNatClampNeg) + v5)) else none) else none) else none)
theorem jt_269_100 (k_3 : Nat → Int32 → Int32 → Int32 → Int32 → cm_W → Option cm_W) (k_75 : Nat → Int32 → Int32 → Int32 → Int32 → Int32 → Int32 → cm_W → Option cm_W) (hk_3 : ∀ (a0 : Nat) (i1 : Int32) (i2 : Int32) (i3 : Int32) (i4 : Int32) (w : cm_W), sm cm_g 269 ck_269 kq_269 3 [(0, .ref a0), (1, .int i1), (2, .int i2), (3, .int i3), (4, .int i4)] [] w ((k_3 a0 i1 i2 i3 i4 w).map cm_gV)) (hk_75 : ∀ (a0 : Nat) (i1 : Int32) (i2 : Int32) (i3 : Int32) (i4 : Int32) (i5 : Int32) (i6 : Int32) (w : cm_W), sm cm_g 269 ck_269 kq_269 75 [(0, .ref a0), (1, .int i1), (2, .int i2), (3, .int i3), (4, .int i4), (5, .int i5), (6, .int i6)] [] w ((k_75 a0 i1 i2 i3 i4 i5 i6 w).map cm_gV)) (a0 : Nat) (i1 : Int32) (i2 : Int32) (i3 : Int32) (i4 : Int32) (i5 : Int32) (i6 : Int32) (w : cm_W) : sm cm_g 269 ck_269 kq_269 100 [(0, .ref a0), (1, .int i1), (2, .int i2), (3, .int i3), (4, .int i4), (5, .int i5), (6, .int i6)] [] w ((fn_269_100 k_3 k_75 a0 i1 i2 i3 i4 i5 i6 w).map cm_gV) := by
  unfold fn_269_100
  refine sm_seg 1 101 [(0, .ref a0), (1, .int i1), (2, .int i2), (3, .int i3), (4, .int i4), (5, .int i5), (6, .int i6)] [.ref a0] rfl ?_
  refine sm_gd fun h1 => ?_
  refine sm_gR rfl h1 rfl rfl fun r2 h3 => ?_
  show sm _ _ _ _ 104 [(0, .ref a0), (1, .int i1), (2, .int i2), (3, .int i3), (4, .int i4), (5, .int i5), (6, .int i6)] [.ref r2] _ _
  refine sm_seg 2 107 [(0, .ref a0), (1, .int i1), (2, .int i2), (3, .int i3), (4, .int i4), (5, .int i5), (6, .int i6)] [.int i4, .ref r2, .int i4, .ref r2] rfl ?_
  refine sm_gd fun h4 => ?_
  refine sm_al rfl h4 rfl ?_
  show sm _ _ _ _ 108 [(0, .ref a0), (1, .int i1), (2, .int i2), (3, .int i3), (4, .int i4), (5, .int i5), (6, .int i6)] [.long (cm_L w r2 i4.toNatClampNeg), .int i4, .ref r2] _ _
  refine sm_seg 3 113 [(0, .ref a0), (1, .int i1), (2, .int i2), (3, .int i3), (4, .int i4), (5, .int i5), (6, .int i6)] [.int i4, .int i6, .ref a0, .long (cm_L w r2 i4.toNatClampNeg), .int i4, .ref r2] rfl ?_
  refine sm_cV (as := [.int i6, .int i4]) (rest := [.long (cm_L w r2 i4.toNatClampNeg), .int i4, .ref r2]) rfl rfl rfl rfl h1 (Nat.le_of_ble_eq_true rfl) (ca_268 w a0 i6 i4) fun v5 h6 => ?_
  show sm _ _ _ _ 116 [(0, .ref a0), (1, .int i1), (2, .int i2), (3, .int i3), (4, .int i4), (5, .int i5), (6, .int i6)] [.long v5, .long (cm_L w r2 i4.toNatClampNeg), .int i4, .ref r2] _ _
  refine sm_seg 1 117 [(0, .ref a0), (1, .int i1), (2, .int i2), (3, .int i3), (4, .int i4), (5, .int i5), (6, .int i6)] [.long ((cm_L w r2 i4.toNatClampNeg) + v5), .int i4, .ref r2] rfl ?_
  refine sm_gd fun h7 => ?_
  refine sm_sl rfl h4 h7 rfl rfl ?_
  show sm _ _ _ _ 118 [(0, .ref a0), (1, .int i1), (2, .int i2), (3, .int i3), (4, .int i4), (5, .int i5), (6, .int i6)] [] _ _
  exact jt_269_118  k_3 k_75 hk_3 hk_75 a0 i1 i2 i3 i4 i5 i6 (cm_sL w r2 i4.toNatClampNeg ((cm_L w r2 i4.toNatClampNeg) + v5))
def fn_269_124 (k_3 : Nat → Int32 → Int32 → Int32 → Int32 → cm_W → Option cm_W) (a0 : Nat) (i1 : Int32) (i2 : Int32) (i3 : Int32) (i4 : Int32) (w : cm_W) : Option cm_W := k_3 a0 i1 i2 i3 (i4 + (1 : Int32)) w
theorem jt_269_124 (k_3 : Nat → Int32 → Int32 → Int32 → Int32 → cm_W → Option cm_W) (hk_3 : ∀ (a0 : Nat) (i1 : Int32) (i2 : Int32) (i3 : Int32) (i4 : Int32) (w : cm_W), sm cm_g 269 ck_269 kq_269 3 [(0, .ref a0), (1, .int i1), (2, .int i2), (3, .int i3), (4, .int i4)] [] w ((k_3 a0 i1 i2 i3 i4 w).map cm_gV)) (a0 : Nat) (i1 : Int32) (i2 : Int32) (i3 : Int32) (i4 : Int32) (w : cm_W) : sm cm_g 269 ck_269 kq_269 124 [(0, .ref a0), (1, .int i1), (2, .int i2), (3, .int i3), (4, .int i4)] [] w ((fn_269_124 k_3 a0 i1 i2 i3 i4 w).map cm_gV) := by
  unfold fn_269_124
  refine sm_seg 2 3 [(0, .ref a0), (1, .int i1), (2, .int i2), (3, .int i3), (4, .int (i4 + (1 : Int32)))] [] rfl ?_
  exact hk_3 a0 i1 i2 i3 (i4 + (1 : Int32)) w
def fn_269_75 (k_3 : Nat → Int32 → Int32 → Int32 → Int32 → cm_W → Option cm_W) : Nat → Nat → Int32 → Int32 → Int32 → Int32 → Int32 → Int32 → cm_W → Option cm_W
  | 0, _, _, _, _, _, _, _, _ => none
  | n + 1, a0, i1, i2, i3, i4, i5, i6, w => (if cm_sh w a0 = some (.inl 11) then (if (cm_I w a0 2) ≤ i6 then fn_269_124  k_3 a0 i1 i2 i3 i4 w else (if i5 = 0 then fn_269_124  k_3 a0 i1 i2 i3 i4 w else (if ¬ i1 = (1 : Int32) then fn_269_100  k_3 (fn_269_75 k_3 n) a0 i1 i2 i3 i4 i5 i6 w else (if ¬ i6 = i2 then fn_269_118  k_3 (fn_269_75 k_3 n) a0 i1 i2 i3 i4 i5 i6 w else fn_269_100  k_3 (fn_269_75 k_3 n) a0 i1 i2 i3 i4 i5 i6 w)))) else none)
theorem jt_269_75 (k_3 : Nat → Int32 → Int32 → Int32 → Int32 → cm_W → Option cm_W) (hk_3 : ∀ (a0 : Nat) (i1 : Int32) (i2 : Int32) (i3 : Int32) (i4 : Int32) (w : cm_W), sm cm_g 269 ck_269 kq_269 3 [(0, .ref a0), (1, .int i1), (2, .int i2), (3, .int i3), (4, .int i4)] [] w ((k_3 a0 i1 i2 i3 i4 w).map cm_gV)) : ∀ (n : Nat) (a0 : Nat) (i1 : Int32) (i2 : Int32) (i3 : Int32) (i4 : Int32) (i5 : Int32) (i6 : Int32) (w : cm_W), sm cm_g 269 ck_269 kq_269 75 [(0, .ref a0), (1, .int i1), (2, .int i2), (3, .int i3), (4, .int i4), (5, .int i5), (6, .int i6)] [] w ((fn_269_75 k_3 n a0 i1 i2 i3 i4 i5 i6 w).map cm_gV) := by
  intro n
  induction n with
  | zero => intro a0 i1 i2 i3 i4 i5 i6 w; exact sm_no
  | succ n ih =>
    intro a0 i1 i2 i3 i4 i5 i6 w
    rw [fn_269_75]
    refine sm_seg 2 78 [(0, .ref a0), (1, .int i1), (2, .int i2), (3, .int i3), (4, .int i4), (5, .int i5), (6, .int i6)] [.ref a0, .int i6] rfl ?_
    refine sm_gd fun h8 => ?_
    refine sm_gI rfl h8 rfl ?_
    show sm _ _ _ _ 81 [(0, .ref a0), (1, .int i1), (2, .int i2), (3, .int i3), (4, .int i4), (5, .int i5), (6, .int i6)] [.int (cm_I w a0 2), .int i6] _ _
    refine sm_if (pc1 := 124) (lv1 := [(0, .ref a0), (1, .int i1), (2, .int i2), (3, .int i3), (4, .int i4)]) (pc2 := 84) (lv2 := [(0, .ref a0), (1, .int i1), (2, .int i2), (3, .int i3), (4, .int i4), (5, .int i5), (6, .int i6)]) (st1 := []) rfl rfl rfl (fun h9 => ?_) (fun h9 => ?_)
    · exact jt_269_124  k_3 hk_3 a0 i1 i2 i3 i4 w
    · refine sm_seg 1 86 [(0, .ref a0), (1, .int i1), (2, .int i2), (3, .int i3), (4, .int i4), (5, .int i5), (6, .int i6)] [.int i5] rfl ?_
      refine sm_if (pc1 := 124) (lv1 := [(0, .ref a0), (1, .int i1), (2, .int i2), (3, .int i3), (4, .int i4)]) (pc2 := 89) (lv2 := [(0, .ref a0), (1, .int i1), (2, .int i2), (3, .int i3), (4, .int i4), (5, .int i5), (6, .int i6)]) (st1 := []) rfl rfl rfl (fun h10 => ?_) (fun h10 => ?_)
      · exact jt_269_124  k_3 hk_3 a0 i1 i2 i3 i4 w
      · refine sm_seg 2 91 [(0, .ref a0), (1, .int i1), (2, .int i2), (3, .int i3), (4, .int i4), (5, .int i5), (6, .int i6)] [.int (1 : Int32), .int i1] rfl ?_
        refine sm_if (pc1 := 100) (lv1 := [(0, .ref a0), (1, .int i1), (2, .int i2), (3, .int i3), (4, .int i4), (5, .int i5), (6, .int i6)]) (pc2 := 94) (lv2 := [(0, .ref a0), (1, .int i1), (2, .int i2), (3, .int i3), (4, .int i4), (5, .int i5), (6, .int i6)]) (st1 := []) rfl rfl rfl (fun h11 => ?_) (fun h11 => ?_)
        · exact jt_269_100  k_3 (fn_269_75 k_3 n) hk_3 ih a0 i1 i2 i3 i4 i5 i6 w
        · refine sm_seg 2 97 [(0, .ref a0), (1, .int i1), (2, .int i2), (3, .int i3), (4, .int i4), (5, .int i5), (6, .int i6)] [.int i2, .int i6] rfl ?_
          refine sm_if (pc1 := 118) (lv1 := [(0, .ref a0), (1, .int i1), (2, .int i2), (3, .int i3), (4, .int i4), (5, .int i5), (6, .int i6)]) (pc2 := 100) (lv2 := [(0, .ref a0), (1, .int i1), (2, .int i2), (3, .int i3), (4, .int i4), (5, .int i5), (6, .int i6)]) (st1 := []) rfl rfl rfl (fun h12 => ?_) (fun h12 => ?_)
          · exact jt_269_118  k_3 (fn_269_75 k_3 n) hk_3 ih a0 i1 i2 i3 i4 i5 i6 w
          · exact jt_269_100  k_3 (fn_269_75 k_3 n) hk_3 ih a0 i1 i2 i3 i4 i5 i6 w
def fn_269_57 (k_3 : Nat → Int32 → Int32 → Int32 → Int32 → cm_W → Option cm_W) (a0 : Nat) (i1 : Int32) (i2 : Int32) (i3 : Int32) (i4 : Int32) (w : cm_W) : Option cm_W := (if cm_sh w a0 = some (.inl 11) then (cm_R w a0 65).bind fun r14 => (if cm_ga w .long r14 i4 = true then (if cm_w2 96 143 r14 = true then fn_269_75  k_3 cm_N a0 i1 i2 i3 i4 (1 : Int32) (0 : Int32) (cm_sL w r14 i4.toNatClampNeg (0 : Int64)) else none) else none) else none)
theorem jt_269_57 (k_3 : Nat → Int32 → Int32 → Int32 → Int32 → cm_W → Option cm_W) (hk_3 : ∀ (a0 : Nat) (i1 : Int32) (i2 : Int32) (i3 : Int32) (i4 : Int32) (w : cm_W), sm cm_g 269 ck_269 kq_269 3 [(0, .ref a0), (1, .int i1), (2, .int i2), (3, .int i3), (4, .int i4)] [] w ((k_3 a0 i1 i2 i3 i4 w).map cm_gV)) (a0 : Nat) (i1 : Int32) (i2 : Int32) (i3 : Int32) (i4 : Int32) (w : cm_W) : sm cm_g 269 ck_269 kq_269 57 [(0, .ref a0), (1, .int i1), (2, .int i2), (3, .int i3), (4, .int i4)] [] w ((fn_269_57 k_3 a0 i1 i2 i3 i4 w).map cm_gV) := by
  unfold fn_269_57
  refine sm_seg 4 65 [(5, .int (1 : Int32)), (0, .ref a0), (1, .int i1), (2, .int i2), (3, .int i3), (4, .int i4)] [.ref a0] rfl ?_
  refine sm_gd fun h13 => ?_
  refine sm_gR rfl h13 rfl rfl fun r14 h15 => ?_
  show sm _ _ _ _ 68 [(5, .int (1 : Int32)), (0, .ref a0), (1, .int i1), (2, .int i2), (3, .int i3), (4, .int i4)] [.ref r14] _ _
  refine sm_seg 2 71 [(5, .int (1 : Int32)), (0, .ref a0), (1, .int i1), (2, .int i2), (3, .int i3), (4, .int i4)] [.long (0 : Int64), .int i4, .ref r14] rfl ?_
  refine sm_gd fun h16 => ?_
  refine sm_gd fun h17 => ?_
  refine sm_sl rfl h16 h17 rfl rfl ?_
  show sm _ _ _ _ 72 [(5, .int (1 : Int32)), (0, .ref a0), (1, .int i1), (2, .int i2), (3, .int i3), (4, .int i4)] [] _ _
  refine sm_seg 2 75 [(0, .ref a0), (1, .int i1), (2, .int i2), (3, .int i3), (4, .int i4), (5, .int (1 : Int32)), (6, .int (0 : Int32))] [] rfl ?_
  exact jt_269_75  k_3 hk_3 cm_N a0 i1 i2 i3 i4 (1 : Int32) (0 : Int32) (cm_sL w r14 i4.toNatClampNeg (0 : Int64))
def fn_269_61 (k_3 : Nat → Int32 → Int32 → Int32 → Int32 → cm_W → Option cm_W) (a0 : Nat) (i1 : Int32) (i2 : Int32) (i3 : Int32) (i4 : Int32) (w : cm_W) : Option cm_W := (if cm_sh w a0 = some (.inl 11) then (cm_R w a0 65).bind fun r19 => (if cm_ga w .long r19 i4 = true then (if cm_w2 96 143 r19 = true then fn_269_75  k_3 cm_N a0 i1 i2 i3 i4 (0 : Int32) (0 : Int32) (cm_sL w r19 i4.toNatClampNeg (0 : Int64)) else none) else none) else none)
theorem jt_269_61 (k_3 : Nat → Int32 → Int32 → Int32 → Int32 → cm_W → Option cm_W) (hk_3 : ∀ (a0 : Nat) (i1 : Int32) (i2 : Int32) (i3 : Int32) (i4 : Int32) (w : cm_W), sm cm_g 269 ck_269 kq_269 3 [(0, .ref a0), (1, .int i1), (2, .int i2), (3, .int i3), (4, .int i4)] [] w ((k_3 a0 i1 i2 i3 i4 w).map cm_gV)) (a0 : Nat) (i1 : Int32) (i2 : Int32) (i3 : Int32) (i4 : Int32) (w : cm_W) : sm cm_g 269 ck_269 kq_269 61 [(0, .ref a0), (1, .int i1), (2, .int i2), (3, .int i3), (4, .int i4)] [] w ((fn_269_61 k_3 a0 i1 i2 i3 i4 w).map cm_gV) := by
  unfold fn_269_61
  refine sm_seg 3 65 [(5, .int (0 : Int32)), (0, .ref a0), (1, .int i1), (2, .int i2), (3, .int i3), (4, .int i4)] [.ref a0] rfl ?_
  refine sm_gd fun h18 => ?_
  refine sm_gR rfl h18 rfl rfl fun r19 h20 => ?_
  show sm _ _ _ _ 68 [(5, .int (0 : Int32)), (0, .ref a0), (1, .int i1), (2, .int i2), (3, .int i3), (4, .int i4)] [.ref r19] _ _
  refine sm_seg 2 71 [(5, .int (0 : Int32)), (0, .ref a0), (1, .int i1), (2, .int i2), (3, .int i3), (4, .int i4)] [.long (0 : Int64), .int i4, .ref r19] rfl ?_
  refine sm_gd fun h21 => ?_
  refine sm_gd fun h22 => ?_
  refine sm_sl rfl h21 h22 rfl rfl ?_
  show sm _ _ _ _ 72 [(5, .int (0 : Int32)), (0, .ref a0), (1, .int i1), (2, .int i2), (3, .int i3), (4, .int i4)] [] _ _
  refine sm_seg 2 75 [(0, .ref a0), (1, .int i1), (2, .int i2), (3, .int i3), (4, .int i4), (5, .int (0 : Int32)), (6, .int (0 : Int32))] [] rfl ?_
  exact jt_269_75  k_3 hk_3 cm_N a0 i1 i2 i3 i4 (0 : Int32) (0 : Int32) (cm_sL w r19 i4.toNatClampNeg (0 : Int64))
def fn_269_41 (k_3 : Nat → Int32 → Int32 → Int32 → Int32 → cm_W → Option cm_W) (a0 : Nat) (i1 : Int32) (i2 : Int32) (i3 : Int32) (i4 : Int32) (w : cm_W) : Option cm_W := (if cm_sh w a0 = some (.inl 11) then (cm_R w a0 23).bind fun r24 => (if cm_ga w .int r24 i4 = true then (cm_R w a0 23).bind fun r27 => (if cm_ga w .int r27 i3 = true then (if ¬ (cm_I w r24 i4.toNatClampNeg) = (cm_I w r27 i3.toNatClampNeg) then fn_269_61  k_3 a0 i1 i2 i3 i4 w else fn_269_57  k_3 a0 i1 i2 i3 i4 w) else none) else none) else none)
theorem jt_269_41 (k_3 : Nat → Int32 → Int32 → Int32 → Int32 → cm_W → Option cm_W) (hk_3 : ∀ (a0 : Nat) (i1 : Int32) (i2 : Int32) (i3 : Int32) (i4 : Int32) (w : cm_W), sm cm_g 269 ck_269 kq_269 3 [(0, .ref a0), (1, .int i1), (2, .int i2), (3, .int i3), (4, .int i4)] [] w ((k_3 a0 i1 i2 i3 i4 w).map cm_gV)) (a0 : Nat) (i1 : Int32) (i2 : Int32) (i3 : Int32) (i4 : Int32) (w : cm_W) : sm cm_g 269 ck_269 kq_269 41 [(0, .ref a0), (1, .int i1), (2, .int i2), (3, .int i3), (4, .int i4)] [] w ((fn_269_41 k_3 a0 i1 i2 i3 i4 w).map cm_gV) := by
  unfold fn_269_41
  refine sm_seg 1 42 [(0, .ref a0), (1, .int i1), (2, .int i2), (3, .int i3), (4, .int i4)] [.ref a0] rfl ?_
  refine sm_gd fun h23 => ?_
  refine sm_gR rfl h23 rfl rfl fun r24 h25 => ?_
  show sm _ _ _ _ 45 [(0, .ref a0), (1, .int i1), (2, .int i2), (3, .int i3), (4, .int i4)] [.ref r24] _ _
  refine sm_seg 1 47 [(0, .ref a0), (1, .int i1), (2, .int i2), (3, .int i3), (4, .int i4)] [.int i4, .ref r24] rfl ?_
  refine sm_gd fun h26 => ?_
  refine sm_ai rfl h26 rfl ?_
  show sm _ _ _ _ 48 [(0, .ref a0), (1, .int i1), (2, .int i2), (3, .int i3), (4, .int i4)] [.int (cm_I w r24 i4.toNatClampNeg)] _ _
  refine sm_seg 1 49 [(0, .ref a0), (1, .int i1), (2, .int i2), (3, .int i3), (4, .int i4)] [.ref a0, .int (cm_I w r24 i4.toNatClampNeg)] rfl ?_
  refine sm_gR rfl h23 rfl rfl fun r27 h28 => ?_
  show sm _ _ _ _ 52 [(0, .ref a0), (1, .int i1), (2, .int i2), (3, .int i3), (4, .int i4)] [.ref r27, .int (cm_I w r24 i4.toNatClampNeg)] _ _
  refine sm_seg 1 53 [(0, .ref a0), (1, .int i1), (2, .int i2), (3, .int i3), (4, .int i4)] [.int i3, .ref r27, .int (cm_I w r24 i4.toNatClampNeg)] rfl ?_
  refine sm_gd fun h29 => ?_
  refine sm_ai rfl h29 rfl ?_
  show sm _ _ _ _ 54 [(0, .ref a0), (1, .int i1), (2, .int i2), (3, .int i3), (4, .int i4)] [.int (cm_I w r27 i3.toNatClampNeg), .int (cm_I w r24 i4.toNatClampNeg)] _ _
  refine sm_if (pc1 := 61) (lv1 := [(0, .ref a0), (1, .int i1), (2, .int i2), (3, .int i3), (4, .int i4)]) (pc2 := 57) (lv2 := [(0, .ref a0), (1, .int i1), (2, .int i2), (3, .int i3), (4, .int i4)]) (st1 := []) rfl rfl rfl (fun h30 => ?_) (fun h30 => ?_)
  · exact jt_269_61  k_3 hk_3 a0 i1 i2 i3 i4 w
  · exact jt_269_57  k_3 hk_3 a0 i1 i2 i3 i4 w
def fn_269_3 : Nat → Nat → Int32 → Int32 → Int32 → Int32 → cm_W → Option cm_W
  | 0, _, _, _, _, _, _ => none
  | n + 1, a0, i1, i2, i3, i4, w => (if cm_sh w a0 = some (.inl 11) then (if (cm_I w a0 1) ≤ i4 then some w else (if i1 < (2 : Int32) then fn_269_57  (fn_269_3 n) a0 i1 i2 i3 i4 w else (if ¬ i1 = (2 : Int32) then fn_269_41  (fn_269_3 n) a0 i1 i2 i3 i4 w else (cm_R w a0 24).bind fun r35 => (if cm_ga w .int r35 i4 = true then (cm_R w a0 24).bind fun r38 => (if cm_ga w .int r38 i3 = true then (if ¬ (cm_I w r35 i4.toNatClampNeg) = (cm_I w r38 i3.toNatClampNeg) then fn_269_61  (fn_269_3 n) a0 i1 i2 i3 i4 w else fn_269_57  (fn_269_3 n) a0 i1 i2 i3 i4 w) else none) else none)))) else none)
theorem jt_269_3 : ∀ (n : Nat) (a0 : Nat) (i1 : Int32) (i2 : Int32) (i3 : Int32) (i4 : Int32) (w : cm_W), sm cm_g 269 ck_269 kq_269 3 [(0, .ref a0), (1, .int i1), (2, .int i2), (3, .int i3), (4, .int i4)] [] w ((fn_269_3 n a0 i1 i2 i3 i4 w).map cm_gV) := by
  intro n
  induction n with
  | zero => intro a0 i1 i2 i3 i4 w; exact sm_no
  | succ n ih =>
    intro a0 i1 i2 i3 i4 w
    rw [fn_269_3]
    refine sm_seg 2 6 [(0, .ref a0), (1, .int i1), (2, .int i2), (3, .int i3), (4, .int i4)] [.ref a0, .int i4] rfl ?_
    refine sm_gd fun h31 => ?_
    refine sm_gI rfl h31 rfl ?_
    show sm _ _ _ _ 9 [(0, .ref a0), (1, .int i1), (2, .int i2), (3, .int i3), (4, .int i4)] [.int (cm_I w a0 1), .int i4] _ _
    refine sm_if (pc1 := 130) (lv1 := []) (pc2 := 12) (lv2 := [(0, .ref a0), (1, .int i1), (2, .int i2), (3, .int i3), (4, .int i4)]) (st1 := []) rfl rfl rfl (fun h32 => ?_) (fun h32 => ?_)
    · exact sm_rV rfl rfl
    · refine sm_seg 2 14 [(0, .ref a0), (1, .int i1), (2, .int i2), (3, .int i3), (4, .int i4)] [.int (2 : Int32), .int i1] rfl ?_
      refine sm_if (pc1 := 57) (lv1 := [(0, .ref a0), (1, .int i1), (2, .int i2), (3, .int i3), (4, .int i4)]) (pc2 := 17) (lv2 := [(0, .ref a0), (1, .int i1), (2, .int i2), (3, .int i3), (4, .int i4)]) (st1 := []) rfl rfl rfl (fun h33 => ?_) (fun h33 => ?_)
      · exact jt_269_57  (fn_269_3 n) ih a0 i1 i2 i3 i4 w
      · refine sm_seg 2 19 [(0, .ref a0), (1, .int i1), (2, .int i2), (3, .int i3), (4, .int i4)] [.int (2 : Int32), .int i1] rfl ?_
        refine sm_if (pc1 := 41) (lv1 := [(0, .ref a0), (1, .int i1), (2, .int i2), (3, .int i3), (4, .int i4)]) (pc2 := 22) (lv2 := [(0, .ref a0), (1, .int i1), (2, .int i2), (3, .int i3), (4, .int i4)]) (st1 := []) rfl rfl rfl (fun h34 => ?_) (fun h34 => ?_)
        · exact jt_269_41  (fn_269_3 n) ih a0 i1 i2 i3 i4 w
        · refine sm_seg 1 23 [(0, .ref a0), (1, .int i1), (2, .int i2), (3, .int i3), (4, .int i4)] [.ref a0] rfl ?_
          refine sm_gR rfl h31 rfl rfl fun r35 h36 => ?_
          show sm _ _ _ _ 26 [(0, .ref a0), (1, .int i1), (2, .int i2), (3, .int i3), (4, .int i4)] [.ref r35] _ _
          refine sm_seg 1 28 [(0, .ref a0), (1, .int i1), (2, .int i2), (3, .int i3), (4, .int i4)] [.int i4, .ref r35] rfl ?_
          refine sm_gd fun h37 => ?_
          refine sm_ai rfl h37 rfl ?_
          show sm _ _ _ _ 29 [(0, .ref a0), (1, .int i1), (2, .int i2), (3, .int i3), (4, .int i4)] [.int (cm_I w r35 i4.toNatClampNeg)] _ _
          refine sm_seg 1 30 [(0, .ref a0), (1, .int i1), (2, .int i2), (3, .int i3), (4, .int i4)] [.ref a0, .int (cm_I w r35 i4.toNatClampNeg)] rfl ?_
          refine sm_gR rfl h31 rfl rfl fun r38 h39 => ?_
          show sm _ _ _ _ 33 [(0, .ref a0), (1, .int i1), (2, .int i2), (3, .int i3), (4, .int i4)] [.ref r38, .int (cm_I w r35 i4.toNatClampNeg)] _ _
          refine sm_seg 1 34 [(0, .ref a0), (1, .int i1), (2, .int i2), (3, .int i3), (4, .int i4)] [.int i3, .ref r38, .int (cm_I w r35 i4.toNatClampNeg)] rfl ?_
          refine sm_gd fun h40 => ?_
          refine sm_ai rfl h40 rfl ?_
          show sm _ _ _ _ 35 [(0, .ref a0), (1, .int i1), (2, .int i2), (3, .int i3), (4, .int i4)] [.int (cm_I w r38 i3.toNatClampNeg), .int (cm_I w r35 i4.toNatClampNeg)] _ _
          refine sm_if (pc1 := 61) (lv1 := [(0, .ref a0), (1, .int i1), (2, .int i2), (3, .int i3), (4, .int i4)]) (pc2 := 38) (lv2 := [(0, .ref a0), (1, .int i1), (2, .int i2), (3, .int i3), (4, .int i4)]) (st1 := []) rfl rfl rfl (fun h41 => ?_) (fun h41 => ?_)
          · exact jt_269_61  (fn_269_3 n) ih a0 i1 i2 i3 i4 w
          · refine sm_seg 1 57 [(0, .ref a0), (1, .int i1), (2, .int i2), (3, .int i3), (4, .int i4)] [] rfl ?_
            exact jt_269_57  (fn_269_3 n) ih a0 i1 i2 i3 i4 w
def fn_269 (a0 : Nat) (i1 : Int32) (i2 : Int32) (i3 : Int32) (w : cm_W) : Option cm_W := fn_269_3  cm_N a0 i1 i2 i3 (0 : Int32) w
theorem jt_269_0 (a0 : Nat) (i1 : Int32) (i2 : Int32) (i3 : Int32) (w : cm_W) : sm cm_g 269 ck_269 kq_269 0 [(0, .ref a0), (1, .int i1), (2, .int i2), (3, .int i3)] [] w ((fn_269 a0 i1 i2 i3 w).map cm_gV) := by
  unfold fn_269
  refine sm_seg 2 3 [(0, .ref a0), (1, .int i1), (2, .int i2), (3, .int i3), (4, .int (0 : Int32))] [] rfl ?_
  exact jt_269_3  cm_N a0 i1 i2 i3 (0 : Int32) w
theorem ca_269 (a0 : Nat) (i1 : Int32) (i2 : Int32) (i3 : Int32) (w : cm_W) : cm_ca cm_g 269 [.ref a0, .int i1, .int i2, .int i3] w ((fn_269 a0 i1 i2 i3 w).map cm_gV) := cm_ca_of (cm_me_of rfl rfl) rfl (jt_269_0 a0 i1 i2 i3 w)
-- NailedBoxesModel.soldAt(II)I
def fn_270_5 (w : cm_W) : Nat → Nat → Int32 → Int32 → Int32 → Int32 → Option Int32
  | 0, _, _, _, _, _ => none
  | n + 1, a0, i1, i2, i3, i4 => (if cm_sh w a0 = some (.inl 11) then (if (cm_I w a0 1) ≤ i4 then some i3 else (cm_R w a0 65).bind fun r3 => (if cm_ga w .long r3 i4 = true then (if (lg_cmp (cm_L w r3 i4.toNatClampNeg) (0 : Int64)) ≤ 0 then (fn_195 w (0 : Int32)).bind fun v7 => fn_270_5 w n a0 i1 i2 (i3 ||| (v7 <<< (i4 &&& 31))) (i4 + (1 : Int32)) else (fn_223 w a0 i4 i1).bind fun v9 => (if i2 < v9 then (fn_195 w (0 : Int32)).bind fun v12 => fn_270_5 w n a0 i1 i2 (i3 ||| (v12 <<< (i4 &&& 31))) (i4 + (1 : Int32)) else (fn_195 w (1 : Int32)).bind fun v14 => fn_270_5 w n a0 i1 i2 (i3 ||| (v14 <<< (i4 &&& 31))) (i4 + (1 : Int32)))) else none)) else none)
theorem jt_270_5 (w : cm_W) : ∀ (n : Nat) (a0 : Nat) (i1 : Int32) (i2 : Int32) (i3 : Int32) (i4 : Int32), sm cm_g 270 ck_270 kq_270 5 [(0, .ref a0), (1, .int i1), (2, .int i2), (3, .int i3), (4, .int i4)] [] w ((fn_270_5 w n a0 i1 i2 i3 i4).map (cm_fI w)) := by
  intro n
  induction n with
  | zero => intro a0 i1 i2 i3 i4; exact sm_no
  | succ n ih =>
    intro a0 i1 i2 i3 i4
    rw [fn_270_5]
    refine sm_seg 2 8 [(0, .ref a0), (1, .int i1), (2, .int i2), (3, .int i3), (4, .int i4)] [.ref a0, .int i4] rfl ?_
    refine sm_gd fun h1 => ?_
    refine sm_gI rfl h1 rfl ?_
    show sm _ _ _ _ 11 [(0, .ref a0), (1, .int i1), (2, .int i2), (3, .int i3), (4, .int i4)] [.int (cm_I w a0 1), .int i4] _ _
    refine sm_if (pc1 := 57) (lv1 := [(3, .int i3)]) (pc2 := 14) (lv2 := [(0, .ref a0), (1, .int i1), (2, .int i2), (3, .int i3), (4, .int i4)]) (st1 := []) rfl rfl rfl (fun h2 => ?_) (fun h2 => ?_)
    · refine sm_seg 1 58 [(3, .int i3)] [.int i3] rfl ?_
      exact sm_rI rfl rfl
    · refine sm_seg 2 16 [(0, .ref a0), (1, .int i1), (2, .int i2), (3, .int i3), (4, .int i4)] [.ref a0, .int i3] rfl ?_
      refine sm_gR rfl h1 rfl rfl fun r3 h4 => ?_
      show sm _ _ _ _ 19 [(0, .ref a0), (1, .int i1), (2, .int i2), (3, .int i3), (4, .int i4)] [.ref r3, .int i3] _ _
      refine sm_seg 1 21 [(0, .ref a0), (1, .int i1), (2, .int i2), (3, .int i3), (4, .int i4)] [.int i4, .ref r3, .int i3] rfl ?_
      refine sm_gd fun h5 => ?_
      refine sm_al rfl h5 rfl ?_
      show sm _ _ _ _ 22 [(0, .ref a0), (1, .int i1), (2, .int i2), (3, .int i3), (4, .int i4)] [.long (cm_L w r3 i4.toNatClampNeg), .int i3] _ _
      refine sm_seg 2 24 [(0, .ref a0), (1, .int i1), (2, .int i2), (3, .int i3), (4, .int i4)] [.int (lg_cmp (cm_L w r3 i4.toNatClampNeg) (0 : Int64)), .int i3] rfl ?_
      refine sm_if (pc1 := 42) (lv1 := [(0, .ref a0), (1, .int i1), (2, .int i2), (4, .int i4)]) (pc2 := 27) (lv2 := [(0, .ref a0), (1, .int i1), (2, .int i2), (3, .int i3), (4, .int i4)]) (st1 := [.int i3]) rfl rfl rfl (fun h6 => ?_) (fun h6 => ?_)
      · refine sm_seg 1 43 [(0, .ref a0), (1, .int i1), (2, .int i2), (4, .int i4)] [.int (0 : Int32), .int i3] rfl ?_
        refine sm_cS (av := [.int (0 : Int32)]) (rest := [.int i3]) rfl rfl rfl rfl (Nat.le_of_ble_eq_true rfl) (ca_195 w (0 : Int32)) fun v7 h8 => ?_
        show sm _ _ _ _ 46 [(0, .ref a0), (1, .int i1), (2, .int i2), (4, .int i4)] [.int v7, .int i3] _ _
        refine sm_seg 6 5 [(0, .ref a0), (1, .int i1), (2, .int i2), (3, .int (i3 ||| (v7 <<< (i4 &&& 31)))), (4, .int (i4 + (1 : Int32)))] [] rfl ?_
        exact ih a0 i1 i2 (i3 ||| (v7 <<< (i4 &&& 31))) (i4 + (1 : Int32))
      · refine sm_seg 3 31 [(0, .ref a0), (1, .int i1), (2, .int i2), (3, .int i3), (4, .int i4)] [.int i1, .int i4, .ref a0, .int i3] rfl ?_
        refine sm_cV (as := [.int i4, .int i1]) (rest := [.int i3]) rfl rfl rfl rfl h1 (Nat.le_of_ble_eq_true rfl) (ca_223 w a0 i4 i1) fun v9 h10 => ?_
        show sm _ _ _ _ 34 [(0, .ref a0), (1, .int i1), (2, .int i2), (3, .int i3), (4, .int i4)] [.int v9, .int i3] _ _
        refine sm_seg 1 35 [(0, .ref a0), (1, .int i1), (2, .int i2), (3, .int i3), (4, .int i4)] [.int i2, .int v9, .int i3] rfl ?_
        refine sm_if (pc1 := 42) (lv1 := [(0, .ref a0), (1, .int i1), (2, .int i2), (4, .int i4)]) (pc2 := 38) (lv2 := [(0, .ref a0), (1, .int i1), (2, .int i2), (3, .int i3), (4, .int i4)]) (st1 := [.int i3]) rfl rfl rfl (fun h11 => ?_) (fun h11 => ?_)
        · refine sm_seg 1 43 [(0, .ref a0), (1, .int i1), (2, .int i2), (4, .int i4)] [.int (0 : Int32), .int i3] rfl ?_
          refine sm_cS (av := [.int (0 : Int32)]) (rest := [.int i3]) rfl rfl rfl rfl (Nat.le_of_ble_eq_true rfl) (ca_195 w (0 : Int32)) fun v12 h13 => ?_
          show sm _ _ _ _ 46 [(0, .ref a0), (1, .int i1), (2, .int i2), (4, .int i4)] [.int v12, .int i3] _ _
          refine sm_seg 6 5 [(0, .ref a0), (1, .int i1), (2, .int i2), (3, .int (i3 ||| (v12 <<< (i4 &&& 31)))), (4, .int (i4 + (1 : Int32)))] [] rfl ?_
          exact ih a0 i1 i2 (i3 ||| (v12 <<< (i4 &&& 31))) (i4 + (1 : Int32))
        · refine sm_seg 2 43 [(0, .ref a0), (1, .int i1), (2, .int i2), (4, .int i4)] [.int (1 : Int32), .int i3] rfl ?_
          refine sm_cS (av := [.int (1 : Int32)]) (rest := [.int i3]) rfl rfl rfl rfl (Nat.le_of_ble_eq_true rfl) (ca_195 w (1 : Int32)) fun v14 h15 => ?_
          show sm _ _ _ _ 46 [(0, .ref a0), (1, .int i1), (2, .int i2), (4, .int i4)] [.int v14, .int i3] _ _
          refine sm_seg 6 5 [(0, .ref a0), (1, .int i1), (2, .int i2), (3, .int (i3 ||| (v14 <<< (i4 &&& 31)))), (4, .int (i4 + (1 : Int32)))] [] rfl ?_
          exact ih a0 i1 i2 (i3 ||| (v14 <<< (i4 &&& 31))) (i4 + (1 : Int32))
def fn_270 (w : cm_W) (a0 : Nat) (i1 : Int32) (i2 : Int32) : Option Int32 := fn_270_5 w cm_N a0 i1 i2 (0 : Int32) (0 : Int32)
theorem jt_270_0 (w : cm_W) (a0 : Nat) (i1 : Int32) (i2 : Int32) : sm cm_g 270 ck_270 kq_270 0 [(0, .ref a0), (1, .int i1), (2, .int i2)] [] w ((fn_270 w a0 i1 i2).map (cm_fI w)) := by
  unfold fn_270
  refine sm_seg 4 5 [(0, .ref a0), (1, .int i1), (2, .int i2), (3, .int (0 : Int32)), (4, .int (0 : Int32))] [] rfl ?_
  exact jt_270_5 w cm_N a0 i1 i2 (0 : Int32) (0 : Int32)
theorem ca_270 (w : cm_W) (a0 : Nat) (i1 : Int32) (i2 : Int32) : cm_ca cm_g 270 [.ref a0, .int i1, .int i2] w ((fn_270 w a0 i1 i2).map (cm_fI w)) := cm_ca_of (cm_me_of rfl rfl) rfl (jt_270_0 w a0 i1 i2)
-- NailedBoxesModel.meanOf(II)J
def fn_271_60 (w : cm_W) (k_8 : Nat → Int32 → Int32 → Int64 → Int64 → Int32 → Option Int64) (a0 : Nat) (i1 : Int32) (i2 : Int32) (j3 : Int64) (j5 : Int64) (i7 : Int32) : Option Int64 := k_8 a0 i1 i2 j3 j5 (i7 + (1 : Int32))
theorem jt_271_60 (w : cm_W) (k_8 : Nat → Int32 → Int32 → Int64 → Int64 → Int32 → Option Int64) (hk_8 : ∀ (a0 : Nat) (i1 : Int32) (i2 : Int32) (j3 : Int64) (j5 : Int64) (i7 : Int32), sm cm_g 271 ck_271 kq_271 8 [(0, .ref a0), (1, .int i1), (2, .int i2), (3, .long j3), (5, .long j5), (7, .int i7)] [] w ((k_8 a0 i1 i2 j3 j5 i7).map (cm_fL w))) (a0 : Nat) (i1 : Int32) (i2 : Int32) (j3 : Int64) (j5 : Int64) (i7 : Int32) : sm cm_g 271 ck_271 kq_271 60 [(0, .ref a0), (1, .int i1), (2, .int i2), (3, .long j3), (5, .long j5), (7, .int i7)] [] w ((fn_271_60 w k_8 a0 i1 i2 j3 j5 i7).map (cm_fL w)) := by
  unfold fn_271_60
  refine sm_seg 2 8 [(0, .ref a0), (1, .int i1), (2, .int i2), (3, .long j3), (5, .long j5), (7, .int (i7 + (1 : Int32)))] [] rfl ?_
  exact hk_8 a0 i1 i2 j3 j5 (i7 + (1 : Int32))
def fn_271_29 (w : cm_W) (k_8 : Nat → Int32 → Int32 → Int64 → Int64 → Int32 → Option Int64) (a0 : Nat) (i1 : Int32) (i2 : Int32) (j3 : Int64) (j5 : Int64) (i7 : Int32) : Option Int64 := (if cm_sh w a0 = some (.inl 11) then (cm_R w a0 65).bind fun r2 => (if cm_ga w .long r2 i7 = true then (fn_222 w a0 i7 i2).bind fun v5 => (cm_R w a0 65).bind fun r7 => (if cm_ga w .long r7 i7 = true then fn_271_60 w k_8 a0 i1 i2 (j3 + ((cm_L w r2 i7.toNatClampNeg) * (Int32.toInt64 v5))) (j5 + (cm_L w r7 i7.toNatClampNeg)) i7 else none) else none) else none)
theorem jt_271_29 (w : cm_W) (k_8 : Nat → Int32 → Int32 → Int64 → Int64 → Int32 → Option Int64) (hk_8 : ∀ (a0 : Nat) (i1 : Int32) (i2 : Int32) (j3 : Int64) (j5 : Int64) (i7 : Int32), sm cm_g 271 ck_271 kq_271 8 [(0, .ref a0), (1, .int i1), (2, .int i2), (3, .long j3), (5, .long j5), (7, .int i7)] [] w ((k_8 a0 i1 i2 j3 j5 i7).map (cm_fL w))) (a0 : Nat) (i1 : Int32) (i2 : Int32) (j3 : Int64) (j5 : Int64) (i7 : Int32) : sm cm_g 271 ck_271 kq_271 29 [(0, .ref a0), (1, .int i1), (2, .int i2), (3, .long j3), (5, .long j5), (7, .int i7)] [] w ((fn_271_29 w k_8 a0 i1 i2 j3 j5 i7).map (cm_fL w)) := by
  unfold fn_271_29
  refine sm_seg 2 31 [(0, .ref a0), (1, .int i1), (2, .int i2), (3, .long j3), (5, .long j5), (7, .int i7)] [.ref a0, .long j3] rfl ?_
  refine sm_gd fun h1 => ?_
  refine sm_gR rfl h1 rfl rfl fun r2 h3 => ?_
  show sm _ _ _ _ 34 [(0, .ref a0), (1, .int i1), (2, .int i2), (3, .long j3), (5, .long j5), (7, .int i7)] [.ref r2, .long j3] _ _
  refine sm_seg 1 36 [(0, .ref a0), (1, .int i1), (2, .int i2), (3, .long j3), (5, .long j5), (7, .int i7)] [.int i7, .ref r2, .long j3] rfl ?_
  refine sm_gd fun h4 => ?_
  refine sm_al rfl h4 rfl ?_
  show sm _ _ _ _ 37 [(0, .ref a0), (1, .int i1), (2, .int i2), (3, .long j3), (5, .long j5), (7, .int i7)] [.long (cm_L w r2 i7.toNatClampNeg), .long j3] _ _
  refine sm_seg 3 41 [(0, .ref a0), (1, .int i1), (2, .int i2), (3, .long j3), (5, .long j5), (7, .int i7)] [.int i2, .int i7, .ref a0, .long (cm_L w r2 i7.toNatClampNeg), .long j3] rfl ?_
  refine sm_cV (as := [.int i7, .int i2]) (rest := [.long (cm_L w r2 i7.toNatClampNeg), .long j3]) rfl rfl rfl rfl h1 (Nat.le_of_ble_eq_true rfl) (ca_222 w a0 i7 i2) fun v5 h6 => ?_
  show sm _ _ _ _ 44 [(0, .ref a0), (1, .int i1), (2, .int i2), (3, .long j3), (5, .long j5), (7, .int i7)] [.int v5, .long (cm_L w r2 i7.toNatClampNeg), .long j3] _ _
  refine sm_seg 6 51 [(3, .long (j3 + ((cm_L w r2 i7.toNatClampNeg) * (Int32.toInt64 v5)))), (0, .ref a0), (1, .int i1), (2, .int i2), (5, .long j5), (7, .int i7)] [.ref a0, .long j5] rfl ?_
  refine sm_gR rfl h1 rfl rfl fun r7 h8 => ?_
  show sm _ _ _ _ 54 [(3, .long (j3 + ((cm_L w r2 i7.toNatClampNeg) * (Int32.toInt64 v5)))), (0, .ref a0), (1, .int i1), (2, .int i2), (5, .long j5), (7, .int i7)] [.ref r7, .long j5] _ _
  refine sm_seg 1 56 [(3, .long (j3 + ((cm_L w r2 i7.toNatClampNeg) * (Int32.toInt64 v5)))), (0, .ref a0), (1, .int i1), (2, .int i2), (5, .long j5), (7, .int i7)] [.int i7, .ref r7, .long j5] rfl ?_
  refine sm_gd fun h9 => ?_
  refine sm_al rfl h9 rfl ?_
  show sm _ _ _ _ 57 [(3, .long (j3 + ((cm_L w r2 i7.toNatClampNeg) * (Int32.toInt64 v5)))), (0, .ref a0), (1, .int i1), (2, .int i2), (5, .long j5), (7, .int i7)] [.long (cm_L w r7 i7.toNatClampNeg), .long j5] _ _
  refine sm_seg 2 60 [(0, .ref a0), (1, .int i1), (2, .int i2), (3, .long (j3 + ((cm_L w r2 i7.toNatClampNeg) * (Int32.toInt64 v5)))), (5, .long (j5 + (cm_L w r7 i7.toNatClampNeg))), (7, .int i7)] [] rfl ?_
  exact jt_271_60 w k_8 hk_8 a0 i1 i2 (j3 + ((cm_L w r2 i7.toNatClampNeg) * (Int32.toInt64 v5))) (j5 + (cm_L w r7 i7.toNatClampNeg)) i7
def fn_271_79 (w : cm_W) (j3 : Int64) (j5 : Int64) : Option Int64 := (if ¬ j5 = 0 then some (j3 / j5) else none)
theorem jt_271_79 (w : cm_W) (j3 : Int64) (j5 : Int64) : sm cm_g 271 ck_271 kq_271 79 [(3, .long j3), (5, .long j5)] [] w ((fn_271_79 w j3 j5).map (cm_fL w)) := by
  unfold fn_271_79
  refine sm_seg 2 82 [(3, .long j3), (5, .long j5)] [.long j5, .long j3] rfl ?_
  refine sm_gd fun h10 => ?_
  refine sm_ldiv rfl h10 rfl ?_
  show sm _ _ _ _ 83 [] [.long (j3 / j5)] _ _
  exact sm_rL rfl rfl
def fn_271_66 (w : cm_W) (j3 : Int64) (j5 : Int64) : Option Int64 := (if ¬ (lg_cmp j5 (0 : Int64)) = 0 then fn_271_79 w j3 j5 else some (-1 : Int64))
theorem jt_271_66 (w : cm_W) (j3 : Int64) (j5 : Int64) : sm cm_g 271 ck_271 kq_271 66 [(3, .long j3), (5, .long j5)] [] w ((fn_271_66 w j3 j5).map (cm_fL w)) := by
  unfold fn_271_66
  refine sm_seg 3 70 [(3, .long j3), (5, .long j5)] [.int (lg_cmp j5 (0 : Int64))] rfl ?_
  refine sm_if (pc1 := 79) (lv1 := [(3, .long j3), (5, .long j5)]) (pc2 := 73) (lv2 := [(3, .long j3), (5, .long j5)]) (st1 := []) rfl rfl rfl (fun h11 => ?_) (fun h11 => ?_)
  · exact jt_271_79 w j3 j5
  · refine sm_seg 2 83 [] [.long (-1 : Int64)] rfl ?_
    exact sm_rL rfl rfl
def fn_271_8 (w : cm_W) : Nat → Nat → Int32 → Int32 → Int64 → Int64 → Int32 → Option Int64
  | 0, _, _, _, _, _, _ => none
  | n + 1, a0, i1, i2, j3, j5, i7 => (if cm_sh w a0 = some (.inl 11) then (if (cm_I w a0 1) ≤ i7 then fn_271_66 w j3 j5 else (fn_196 w i1 i7).bind fun v14 => (if ¬ (cm_b v14) = 0 then fn_271_29 w (fn_271_8 w n) a0 i1 i2 j3 j5 i7 else fn_271_60 w (fn_271_8 w n) a0 i1 i2 j3 j5 i7)) else none)
theorem jt_271_8 (w : cm_W) : ∀ (n : Nat) (a0 : Nat) (i1 : Int32) (i2 : Int32) (j3 : Int64) (j5 : Int64) (i7 : Int32), sm cm_g 271 ck_271 kq_271 8 [(0, .ref a0), (1, .int i1), (2, .int i2), (3, .long j3), (5, .long j5), (7, .int i7)] [] w ((fn_271_8 w n a0 i1 i2 j3 j5 i7).map (cm_fL w)) := by
  intro n
  induction n with
  | zero => intro a0 i1 i2 j3 j5 i7; exact sm_no
  | succ n ih =>
    intro a0 i1 i2 j3 j5 i7
    rw [fn_271_8]
    refine sm_seg 2 11 [(0, .ref a0), (1, .int i1), (2, .int i2), (3, .long j3), (5, .long j5), (7, .int i7)] [.ref a0, .int i7] rfl ?_
    refine sm_gd fun h12 => ?_
    refine sm_gI rfl h12 rfl ?_
    show sm _ _ _ _ 14 [(0, .ref a0), (1, .int i1), (2, .int i2), (3, .long j3), (5, .long j5), (7, .int i7)] [.int (cm_I w a0 1), .int i7] _ _
    refine sm_if (pc1 := 66) (lv1 := [(3, .long j3), (5, .long j5)]) (pc2 := 17) (lv2 := [(0, .ref a0), (1, .int i1), (2, .int i2), (3, .long j3), (5, .long j5), (7, .int i7)]) (st1 := []) rfl rfl rfl (fun h13 => ?_) (fun h13 => ?_)
    · exact jt_271_66 w j3 j5
    · refine sm_seg 2 20 [(0, .ref a0), (1, .int i1), (2, .int i2), (3, .long j3), (5, .long j5), (7, .int i7)] [.int i7, .int i1] rfl ?_
      refine sm_cS (av := [.int i1, .int i7]) (rest := []) rfl rfl rfl rfl (Nat.le_of_ble_eq_true rfl) (ca_196 w i1 i7) fun v14 h15 => ?_
      show sm _ _ _ _ 23 [(0, .ref a0), (1, .int i1), (2, .int i2), (3, .long j3), (5, .long j5), (7, .int i7)] [.int (cm_b v14)] _ _
      refine sm_if (pc1 := 29) (lv1 := [(0, .ref a0), (1, .int i1), (2, .int i2), (3, .long j3), (5, .long j5), (7, .int i7)]) (pc2 := 26) (lv2 := [(0, .ref a0), (1, .int i1), (2, .int i2), (3, .long j3), (5, .long j5), (7, .int i7)]) (st1 := []) rfl rfl rfl (fun h16 => ?_) (fun h16 => ?_)
      · exact jt_271_29 w (fn_271_8 w n) ih a0 i1 i2 j3 j5 i7
      · refine sm_seg 1 60 [(0, .ref a0), (1, .int i1), (2, .int i2), (3, .long j3), (5, .long j5), (7, .int i7)] [] rfl ?_
        exact jt_271_60 w (fn_271_8 w n) ih a0 i1 i2 j3 j5 i7
def fn_271 (w : cm_W) (a0 : Nat) (i1 : Int32) (i2 : Int32) : Option Int64 := fn_271_8 w cm_N a0 i1 i2 (0 : Int64) (0 : Int64) (0 : Int32)
theorem jt_271_0 (w : cm_W) (a0 : Nat) (i1 : Int32) (i2 : Int32) : sm cm_g 271 ck_271 kq_271 0 [(0, .ref a0), (1, .int i1), (2, .int i2)] [] w ((fn_271 w a0 i1 i2).map (cm_fL w)) := by
  unfold fn_271
  refine sm_seg 6 8 [(0, .ref a0), (1, .int i1), (2, .int i2), (3, .long (0 : Int64)), (5, .long (0 : Int64)), (7, .int (0 : Int32))] [] rfl ?_
  exact jt_271_8 w cm_N a0 i1 i2 (0 : Int64) (0 : Int64) (0 : Int32)
theorem ca_271 (w : cm_W) (a0 : Nat) (i1 : Int32) (i2 : Int32) : cm_ca cm_g 271 [.ref a0, .int i1, .int i2] w ((fn_271 w a0 i1 i2).map (cm_fL w)) := cm_ca_of (cm_me_of rfl rfl) rfl (jt_271_0 w a0 i1 i2)
-- NailedBoxesModel.restNow(I)I
def fn_272_42 (k_4 : Nat → Int32 → Int32 → cm_W → Option (Int32 × cm_W)) (a0 : Nat) (i1 : Int32) (i2 : Int32) (w : cm_W) : Option (Int32 × cm_W) := k_4 a0 i1 (i2 + (-1 : Int32)) w
theorem jt_272_42 (k_4 : Nat → Int32 → Int32 → cm_W → Option (Int32 × cm_W)) (hk_4 : ∀ (a0 : Nat) (i1 : Int32) (i2 : Int32) (w : cm_W), sm cm_g 272 ck_272 kq_272 4 [(0, .ref a0), (1, .int i1), (2, .int i2)] [] w ((k_4 a0 i1 i2 w).map cm_gI)) (a0 : Nat) (i1 : Int32) (i2 : Int32) (w : cm_W) : sm cm_g 272 ck_272 kq_272 42 [(0, .ref a0), (1, .int i1), (2, .int i2)] [] w ((fn_272_42 k_4 a0 i1 i2 w).map cm_gI) := by
  unfold fn_272_42
  refine sm_seg 2 4 [(0, .ref a0), (1, .int i1), (2, .int (i2 + (-1 : Int32)))] [] rfl ?_
  exact hk_4 a0 i1 (i2 + (-1 : Int32)) w
def fn_272_48 (a0 : Nat) (w : cm_W) : Option (Int32 × cm_W) := (if cm_sh w a0 = some (.inl 11) then (if cm_w2 96 143 a0 = true then some ((-1 : Int32), (cm_sI w a0 66 (0 : Int32))) else none) else none)
theorem jt_272_48 (a0 : Nat) (w : cm_W) : sm cm_g 272 ck_272 kq_272 48 [(0, .ref a0)] [] w ((fn_272_48 a0 w).map cm_gI) := by
  unfold fn_272_48
  refine sm_seg 2 50 [(0, .ref a0)] [.int (0 : Int32), .ref a0] rfl ?_
  refine sm_gd fun h1 => ?_
  refine sm_gd fun h2 => ?_
  refine sm_pI rfl h1 rfl h2 rfl ?_
  show sm _ _ _ _ 53 [(0, .ref a0)] [] _ _
  refine sm_seg 1 54 [(0, .ref a0)] [.int (-1 : Int32)] rfl ?_
  exact sm_rIW rfl rfl
def fn_272_4 : Nat → Nat → Int32 → Int32 → cm_W → Option (Int32 × cm_W)
  | 0, _, _, _, _ => none
  | n + 1, a0, i1, i2, w => (if i2 < 0 then fn_272_48  a0 w else (if cm_sh w a0 = some (.inl 11) then (fn_270 w a0 i1 i2).bind fun v5 => (if cm_w2 96 143 a0 = true then (if (cm_I (cm_sI w a0 66 v5) a0 66) = 0 then fn_272_42  (fn_272_4 n) a0 i1 i2 (cm_sI w a0 66 v5) else (fn_271 (cm_sI w a0 66 v5) a0 (cm_I (cm_sI w a0 66 v5) a0 66) i1).bind fun v9 => (if 0 < (lg_cmp (Int32.toInt64 i2) v9) then fn_272_42  (fn_272_4 n) a0 i1 i2 (cm_sI w a0 66 v5) else some (i2, (cm_sI w a0 66 v5)))) else none) else none))
theorem jt_272_4 : ∀ (n : Nat) (a0 : Nat) (i1 : Int32) (i2 : Int32) (w : cm_W), sm cm_g 272 ck_272 kq_272 4 [(0, .ref a0), (1, .int i1), (2, .int i2)] [] w ((fn_272_4 n a0 i1 i2 w).map cm_gI) := by
  intro n
  induction n with
  | zero => intro a0 i1 i2 w; exact sm_no
  | succ n ih =>
    intro a0 i1 i2 w
    rw [fn_272_4]
    refine sm_seg 1 5 [(0, .ref a0), (1, .int i1), (2, .int i2)] [.int i2] rfl ?_
    refine sm_if (pc1 := 48) (lv1 := [(0, .ref a0)]) (pc2 := 8) (lv2 := [(0, .ref a0), (1, .int i1), (2, .int i2)]) (st1 := []) rfl rfl rfl (fun h3 => ?_) (fun h3 => ?_)
    · exact jt_272_48  a0 w
    · refine sm_seg 4 12 [(0, .ref a0), (1, .int i1), (2, .int i2)] [.int i2, .int i1, .ref a0, .ref a0] rfl ?_
      refine sm_gd fun h4 => ?_
      refine sm_cV (as := [.int i1, .int i2]) (rest := [.ref a0]) rfl rfl rfl rfl h4 (Nat.le_of_ble_eq_true rfl) (ca_270 w a0 i1 i2) fun v5 h6 => ?_
      show sm _ _ _ _ 15 [(0, .ref a0), (1, .int i1), (2, .int i2)] [.int v5, .ref a0] _ _
      refine sm_gd fun h7 => ?_
      refine sm_pI rfl h4 rfl h7 rfl ?_
      show sm _ _ _ _ 18 [(0, .ref a0), (1, .int i1), (2, .int i2)] [] _ _
      refine sm_seg 1 19 [(0, .ref a0), (1, .int i1), (2, .int i2)] [.ref a0] rfl ?_
      refine sm_gI rfl h4 rfl ?_
      show sm _ _ _ _ 22 [(0, .ref a0), (1, .int i1), (2, .int i2)] [.int (cm_I (cm_sI w a0 66 v5) a0 66)] _ _
      refine sm_if (pc1 := 42) (lv1 := [(0, .ref a0), (1, .int i1), (2, .int i2)]) (pc2 := 25) (lv2 := [(0, .ref a0), (1, .int i1), (2, .int i2)]) (st1 := []) rfl rfl rfl (fun h8 => ?_) (fun h8 => ?_)
      · exact jt_272_42  (fn_272_4 n) ih a0 i1 i2 (cm_sI w a0 66 v5)
      · refine sm_seg 4 29 [(0, .ref a0), (1, .int i1), (2, .int i2)] [.ref a0, .ref a0, .long (Int32.toInt64 i2)] rfl ?_
        refine sm_gI rfl h4 rfl ?_
        show sm _ _ _ _ 32 [(0, .ref a0), (1, .int i1), (2, .int i2)] [.int (cm_I (cm_sI w a0 66 v5) a0 66), .ref a0, .long (Int32.toInt64 i2)] _ _
        refine sm_seg 1 33 [(0, .ref a0), (1, .int i1), (2, .int i2)] [.int i1, .int (cm_I (cm_sI w a0 66 v5) a0 66), .ref a0, .long (Int32.toInt64 i2)] rfl ?_
        refine sm_cV (as := [.int (cm_I (cm_sI w a0 66 v5) a0 66), .int i1]) (rest := [.long (Int32.toInt64 i2)]) rfl rfl rfl rfl h4 (Nat.le_of_ble_eq_true rfl) (ca_271 (cm_sI w a0 66 v5) a0 (cm_I (cm_sI w a0 66 v5) a0 66) i1) fun v9 h10 => ?_
        show sm _ _ _ _ 36 [(0, .ref a0), (1, .int i1), (2, .int i2)] [.long v9, .long (Int32.toInt64 i2)] _ _
        refine sm_seg 1 37 [(0, .ref a0), (1, .int i1), (2, .int i2)] [.int (lg_cmp (Int32.toInt64 i2) v9)] rfl ?_
        refine sm_if (pc1 := 42) (lv1 := [(0, .ref a0), (1, .int i1), (2, .int i2)]) (pc2 := 40) (lv2 := [(0, .ref a0), (1, .int i1), (2, .int i2)]) (st1 := []) rfl rfl rfl (fun h11 => ?_) (fun h11 => ?_)
        · exact jt_272_42  (fn_272_4 n) ih a0 i1 i2 (cm_sI w a0 66 v5)
        · refine sm_seg 1 41 [(0, .ref a0), (1, .int i1), (2, .int i2)] [.int i2] rfl ?_
          exact sm_rIW rfl rfl
def fn_272 (a0 : Nat) (i1 : Int32) (w : cm_W) : Option (Int32 × cm_W) := fn_272_4  cm_N a0 i1 (999 : Int32) w
theorem jt_272_0 (a0 : Nat) (i1 : Int32) (w : cm_W) : sm cm_g 272 ck_272 kq_272 0 [(0, .ref a0), (1, .int i1)] [] w ((fn_272 a0 i1 w).map cm_gI) := by
  unfold fn_272
  refine sm_seg 2 4 [(0, .ref a0), (1, .int i1), (2, .int (999 : Int32))] [] rfl ?_
  exact jt_272_4  cm_N a0 i1 (999 : Int32) w
theorem ca_272 (a0 : Nat) (i1 : Int32) (w : cm_W) : cm_ca cm_g 272 [.ref a0, .int i1] w ((fn_272 a0 i1 w).map cm_gI) := cm_ca_of (cm_me_of rfl rfl) rfl (jt_272_0 a0 i1 w)
-- NailedBoxesModel.rest(IIIII)I
def fn_273_83 (a0 : Nat) (w : cm_W) : Option (Int32 × cm_W) := (if cm_sh w a0 = some (.inl 11) then some ((cm_I w a0 66), w) else none)
theorem jt_273_83 (a0 : Nat) (w : cm_W) : sm cm_g 273 ck_273 kq_273 83 [(0, .ref a0)] [] w ((fn_273_83 a0 w).map cm_gI) := by
  unfold fn_273_83
  refine sm_seg 1 84 [(0, .ref a0)] [.ref a0] rfl ?_
  refine sm_gd fun h1 => ?_
  refine sm_gI rfl h1 rfl ?_
  show sm _ _ _ _ 87 [] [.int (cm_I w a0 66)] _ _
  exact sm_rIW rfl rfl
def fn_273_52 (a0 : Nat) (i1 : Int32) (i2 : Int32) (i3 : Int32) (i4 : Int32) (i5 : Int32) (w : cm_W) : Option (Int32 × cm_W) := (if cm_sh w a0 = some (.inl 11) then (fn_269 a0 i1 i2 i3 w).bind fun w3 => (if cm_sh w3 a0 = some (.inl 11) then (fn_272 a0 i4 w3).bind fun v6 => (if v6.1 = (-1 : Int32) then some (v6.1, v6.2) else (if ¬ i5 = 0 then fn_273_83  a0 v6.2 else some (v6.1, v6.2))) else none) else none)
theorem jt_273_52 (a0 : Nat) (i1 : Int32) (i2 : Int32) (i3 : Int32) (i4 : Int32) (i5 : Int32) (w : cm_W) : sm cm_g 273 ck_273 kq_273 52 [(0, .ref a0), (1, .int i1), (2, .int i2), (3, .int i3), (4, .int i4), (5, .int i5)] [] w ((fn_273_52 a0 i1 i2 i3 i4 i5 w).map cm_gI) := by
  unfold fn_273_52
  refine sm_seg 4 56 [(0, .ref a0), (1, .int i1), (2, .int i2), (3, .int i3), (4, .int i4), (5, .int i5)] [.int i3, .int i2, .int i1, .ref a0] rfl ?_
  refine sm_gd fun h2 => ?_
  refine sm_cV (as := [.int i1, .int i2, .int i3]) (rest := []) rfl rfl rfl rfl h2 (Nat.le_of_ble_eq_true rfl) (ca_269  a0 i1 i2 i3 w) fun w3 h4 => ?_
  show sm _ _ _ _ 59 [(0, .ref a0), (1, .int i1), (2, .int i2), (3, .int i3), (4, .int i4), (5, .int i5)] [] _ _
  refine sm_seg 2 62 [(0, .ref a0), (1, .int i1), (2, .int i2), (3, .int i3), (4, .int i4), (5, .int i5)] [.int i4, .ref a0] rfl ?_
  refine sm_gd fun h5 => ?_
  refine sm_cV (as := [.int i4]) (rest := []) rfl rfl rfl rfl h5 (Nat.le_of_ble_eq_true rfl) (ca_272  a0 i4 w3) fun v6 h7 => ?_
  show sm _ _ _ _ 65 [(0, .ref a0), (1, .int i1), (2, .int i2), (3, .int i3), (4, .int i4), (5, .int i5)] [.int v6.1] _ _
  refine sm_seg 3 70 [(6, .int v6.1), (0, .ref a0), (1, .int i1), (2, .int i2), (3, .int i3), (4, .int i4), (5, .int i5)] [.int (-1 : Int32), .int v6.1] rfl ?_
  refine sm_if (pc1 := 78) (lv1 := [(6, .int v6.1)]) (pc2 := 73) (lv2 := [(6, .int v6.1), (0, .ref a0), (1, .int i1), (2, .int i2), (3, .int i3), (4, .int i4), (5, .int i5)]) (st1 := []) rfl rfl rfl (fun h8 => ?_) (fun h8 => ?_)
  · refine sm_seg 2 87 [] [.int v6.1] rfl ?_
    exact sm_rIW rfl rfl
  · refine sm_seg 1 75 [(6, .int v6.1), (0, .ref a0), (1, .int i1), (2, .int i2), (3, .int i3), (4, .int i4), (5, .int i5)] [.int i5] rfl ?_
    refine sm_if (pc1 := 83) (lv1 := [(0, .ref a0)]) (pc2 := 78) (lv2 := [(6, .int v6.1)]) (st1 := []) rfl rfl rfl (fun h9 => ?_) (fun h9 => ?_)
    · exact jt_273_83  a0 v6.2
    · refine sm_seg 2 87 [] [.int v6.1] rfl ?_
      exact sm_rIW rfl rfl
def fn_273 (a0 : Nat) (i1 : Int32) (i2 : Int32) (i3 : Int32) (i4 : Int32) (i5 : Int32) (w : cm_W) : Option (Int32 × cm_W) := (fn_267 w i1).bind fun v10 => (if (cm_b v10) = 0 then some ((-1 : Int32), w) else (if cm_sh w a0 = some (.inl 11) then (fn_225 w a0 i2).bind fun v14 => (if (cm_b v14) = 0 then some ((-1 : Int32), w) else (fn_224 w a0 i3).bind fun v17 => (if (cm_b v17) = 0 then some ((-1 : Int32), w) else (fn_226 w i4).bind fun v20 => (if (cm_b v20) = 0 then some ((-1 : Int32), w) else (fn_194 w i5 (0 : Int32) (1 : Int32)).bind fun v23 => (if (cm_b v23) = 0 then some ((-1 : Int32), w) else (fn_228 w a0 i2 i3).bind fun v26 => (if ¬ v26 = 0 then fn_273_52  a0 i1 i2 i3 i4 i5 w else some ((-1 : Int32), w)))))) else none))
theorem jt_273_0 (a0 : Nat) (i1 : Int32) (i2 : Int32) (i3 : Int32) (i4 : Int32) (i5 : Int32) (w : cm_W) : sm cm_g 273 ck_273 kq_273 0 [(0, .ref a0), (1, .int i1), (2, .int i2), (3, .int i3), (4, .int i4), (5, .int i5)] [] w ((fn_273 a0 i1 i2 i3 i4 i5 w).map cm_gI) := by
  unfold fn_273
  refine sm_seg 1 1 [(0, .ref a0), (1, .int i1), (2, .int i2), (3, .int i3), (4, .int i4), (5, .int i5)] [.int i1] rfl ?_
  refine sm_cS (av := [.int i1]) (rest := []) rfl rfl rfl rfl (Nat.le_of_ble_eq_true rfl) (ca_267 w i1) fun v10 h11 => ?_
  show sm _ _ _ _ 4 [(0, .ref a0), (1, .int i1), (2, .int i2), (3, .int i3), (4, .int i4), (5, .int i5)] [.int (cm_b v10)] _ _
  refine sm_if (pc1 := 50) (lv1 := []) (pc2 := 7) (lv2 := [(0, .ref a0), (1, .int i1), (2, .int i2), (3, .int i3), (4, .int i4), (5, .int i5)]) (st1 := []) rfl rfl rfl (fun h12 => ?_) (fun h12 => ?_)
  · refine sm_seg 1 51 [] [.int (-1 : Int32)] rfl ?_
    exact sm_rIW rfl rfl
  · refine sm_seg 2 9 [(0, .ref a0), (1, .int i1), (2, .int i2), (3, .int i3), (4, .int i4), (5, .int i5)] [.int i2, .ref a0] rfl ?_
    refine sm_gd fun h13 => ?_
    refine sm_cV (as := [.int i2]) (rest := []) rfl rfl rfl rfl h13 (Nat.le_of_ble_eq_true rfl) (ca_225 w a0 i2) fun v14 h15 => ?_
    show sm _ _ _ _ 12 [(0, .ref a0), (1, .int i1), (2, .int i2), (3, .int i3), (4, .int i4), (5, .int i5)] [.int (cm_b v14)] _ _
    refine sm_if (pc1 := 50) (lv1 := []) (pc2 := 15) (lv2 := [(0, .ref a0), (1, .int i1), (2, .int i2), (3, .int i3), (4, .int i4), (5, .int i5)]) (st1 := []) rfl rfl rfl (fun h16 => ?_) (fun h16 => ?_)
    · refine sm_seg 1 51 [] [.int (-1 : Int32)] rfl ?_
      exact sm_rIW rfl rfl
    · refine sm_seg 2 17 [(0, .ref a0), (1, .int i1), (2, .int i2), (3, .int i3), (4, .int i4), (5, .int i5)] [.int i3, .ref a0] rfl ?_
      refine sm_cV (as := [.int i3]) (rest := []) rfl rfl rfl rfl h13 (Nat.le_of_ble_eq_true rfl) (ca_224 w a0 i3) fun v17 h18 => ?_
      show sm _ _ _ _ 20 [(0, .ref a0), (1, .int i1), (2, .int i2), (3, .int i3), (4, .int i4), (5, .int i5)] [.int (cm_b v17)] _ _
      refine sm_if (pc1 := 50) (lv1 := []) (pc2 := 23) (lv2 := [(0, .ref a0), (1, .int i1), (2, .int i2), (3, .int i3), (4, .int i4), (5, .int i5)]) (st1 := []) rfl rfl rfl (fun h19 => ?_) (fun h19 => ?_)
      · refine sm_seg 1 51 [] [.int (-1 : Int32)] rfl ?_
        exact sm_rIW rfl rfl
      · refine sm_seg 1 25 [(0, .ref a0), (1, .int i1), (2, .int i2), (3, .int i3), (4, .int i4), (5, .int i5)] [.int i4] rfl ?_
        refine sm_cS (av := [.int i4]) (rest := []) rfl rfl rfl rfl (Nat.le_of_ble_eq_true rfl) (ca_226 w i4) fun v20 h21 => ?_
        show sm _ _ _ _ 28 [(0, .ref a0), (1, .int i1), (2, .int i2), (3, .int i3), (4, .int i4), (5, .int i5)] [.int (cm_b v20)] _ _
        refine sm_if (pc1 := 50) (lv1 := []) (pc2 := 31) (lv2 := [(0, .ref a0), (1, .int i1), (2, .int i2), (3, .int i3), (4, .int i4), (5, .int i5)]) (st1 := []) rfl rfl rfl (fun h22 => ?_) (fun h22 => ?_)
        · refine sm_seg 1 51 [] [.int (-1 : Int32)] rfl ?_
          exact sm_rIW rfl rfl
        · refine sm_seg 3 35 [(0, .ref a0), (1, .int i1), (2, .int i2), (3, .int i3), (4, .int i4), (5, .int i5)] [.int (1 : Int32), .int (0 : Int32), .int i5] rfl ?_
          refine sm_cS (av := [.int i5, .int (0 : Int32), .int (1 : Int32)]) (rest := []) rfl rfl rfl rfl (Nat.le_of_ble_eq_true rfl) (ca_194 w i5 (0 : Int32) (1 : Int32)) fun v23 h24 => ?_
          show sm _ _ _ _ 38 [(0, .ref a0), (1, .int i1), (2, .int i2), (3, .int i3), (4, .int i4), (5, .int i5)] [.int (cm_b v23)] _ _
          refine sm_if (pc1 := 50) (lv1 := []) (pc2 := 41) (lv2 := [(0, .ref a0), (1, .int i1), (2, .int i2), (3, .int i3), (4, .int i4), (5, .int i5)]) (st1 := []) rfl rfl rfl (fun h25 => ?_) (fun h25 => ?_)
          · refine sm_seg 1 51 [] [.int (-1 : Int32)] rfl ?_
            exact sm_rIW rfl rfl
          · refine sm_seg 3 44 [(0, .ref a0), (1, .int i1), (2, .int i2), (3, .int i3), (4, .int i4), (5, .int i5)] [.int i3, .int i2, .ref a0] rfl ?_
            refine sm_cV (as := [.int i2, .int i3]) (rest := []) rfl rfl rfl rfl h13 (Nat.le_of_ble_eq_true rfl) (ca_228 w a0 i2 i3) fun v26 h27 => ?_
            show sm _ _ _ _ 47 [(0, .ref a0), (1, .int i1), (2, .int i2), (3, .int i3), (4, .int i4), (5, .int i5)] [.int v26] _ _
            refine sm_if (pc1 := 52) (lv1 := [(0, .ref a0), (1, .int i1), (2, .int i2), (3, .int i3), (4, .int i4), (5, .int i5)]) (pc2 := 50) (lv2 := []) (st1 := []) rfl rfl rfl (fun h28 => ?_) (fun h28 => ?_)
            · exact jt_273_52  a0 i1 i2 i3 i4 i5 w
            · refine sm_seg 1 51 [] [.int (-1 : Int32)] rfl ?_
              exact sm_rIW rfl rfl
theorem ca_273 (a0 : Nat) (i1 : Int32) (i2 : Int32) (i3 : Int32) (i4 : Int32) (i5 : Int32) (w : cm_W) : cm_ca cm_g 273 [.ref a0, .int i1, .int i2, .int i3, .int i4, .int i5] w ((fn_273 a0 i1 i2 i3 i4 i5 w).map cm_gI) := cm_ca_of (cm_me_of rfl rfl) rfl (jt_273_0 a0 i1 i2 i3 i4 i5 w)
-- NailedBoxesModel.loses(I)V
def fn_274_77 (k_8 : Nat → Int32 → Int32 → Int32 → cm_W → Option cm_W) (a0 : Nat) (i1 : Int32) (i2 : Int32) (i3 : Int32) (w : cm_W) : Option cm_W := k_8 a0 i1 i2 (i3 + (1 : Int32)) w
theorem jt_274_77 (k_8 : Nat → Int32 → Int32 → Int32 → cm_W → Option cm_W) (hk_8 : ∀ (a0 : Nat) (i1 : Int32) (i2 : Int32) (i3 : Int32) (w : cm_W), sm cm_g 274 ck_274 kq_274 8 [(0, .ref a0), (1, .int i1), (2, .int i2), (3, .int i3)] [] w ((k_8 a0 i1 i2 i3 w).map cm_gV)) (a0 : Nat) (i1 : Int32) (i2 : Int32) (i3 : Int32) (w : cm_W) : sm cm_g 274 ck_274 kq_274 77 [(0, .ref a0), (1, .int i1), (2, .int i2), (3, .int i3)] [] w ((fn_274_77 k_8 a0 i1 i2 i3 w).map cm_gV) := by
  unfold fn_274_77
  refine sm_seg 2 8 [(0, .ref a0), (1, .int i1), (2, .int i2), (3, .int (i3 + (1 : Int32)))] [] rfl ?_
  exact hk_8 a0 i1 i2 (i3 + (1 : Int32)) w
def fn_274_47 (k_8 : Nat → Int32 → Int32 → Int32 → cm_W → Option cm_W) (a0 : Nat) (i1 : Int32) (i2 : Int32) (i3 : Int32) (w : cm_W) : Option cm_W := (if cm_sh w a0 = some (.inl 11) then (cm_R w a0 65).bind fun r2 => (if cm_ga w .long r2 i3 = true then (fn_222 w a0 i3 i1).bind fun v5 => (fn_223 w a0 i3 i1).bind fun v7 => (if cm_w2 96 143 a0 = true then fn_274_77  k_8 a0 i1 i2 i3 (cm_sL w a0 67 ((cm_L w a0 67) + ((cm_L w r2 i3.toNatClampNeg) * (Int32.toInt64 (v5 - v7))))) else none) else none) else none)
theorem jt_274_47 (k_8 : Nat → Int32 → Int32 → Int32 → cm_W → Option cm_W) (hk_8 : ∀ (a0 : Nat) (i1 : Int32) (i2 : Int32) (i3 : Int32) (w : cm_W), sm cm_g 274 ck_274 kq_274 8 [(0, .ref a0), (1, .int i1), (2, .int i2), (3, .int i3)] [] w ((k_8 a0 i1 i2 i3 w).map cm_gV)) (a0 : Nat) (i1 : Int32) (i2 : Int32) (i3 : Int32) (w : cm_W) : sm cm_g 274 ck_274 kq_274 47 [(0, .ref a0), (1, .int i1), (2, .int i2), (3, .int i3)] [] w ((fn_274_47 k_8 a0 i1 i2 i3 w).map cm_gV) := by
  unfold fn_274_47
  refine sm_seg 2 49 [(0, .ref a0), (1, .int i1), (2, .int i2), (3, .int i3)] [.ref a0, .ref a0] rfl ?_
  refine sm_gd fun h1 => ?_
  refine sm_gL rfl h1 rfl ?_
  show sm _ _ _ _ 52 [(0, .ref a0), (1, .int i1), (2, .int i2), (3, .int i3)] [.long (cm_L w a0 67), .ref a0] _ _
  refine sm_seg 1 53 [(0, .ref a0), (1, .int i1), (2, .int i2), (3, .int i3)] [.ref a0, .long (cm_L w a0 67), .ref a0] rfl ?_
  refine sm_gR rfl h1 rfl rfl fun r2 h3 => ?_
  show sm _ _ _ _ 56 [(0, .ref a0), (1, .int i1), (2, .int i2), (3, .int i3)] [.ref r2, .long (cm_L w a0 67), .ref a0] _ _
  refine sm_seg 1 57 [(0, .ref a0), (1, .int i1), (2, .int i2), (3, .int i3)] [.int i3, .ref r2, .long (cm_L w a0 67), .ref a0] rfl ?_
  refine sm_gd fun h4 => ?_
  refine sm_al rfl h4 rfl ?_
  show sm _ _ _ _ 58 [(0, .ref a0), (1, .int i1), (2, .int i2), (3, .int i3)] [.long (cm_L w r2 i3.toNatClampNeg), .long (cm_L w a0 67), .ref a0] _ _
  refine sm_seg 3 61 [(0, .ref a0), (1, .int i1), (2, .int i2), (3, .int i3)] [.int i1, .int i3, .ref a0, .long (cm_L w r2 i3.toNatClampNeg), .long (cm_L w a0 67), .ref a0] rfl ?_
  refine sm_cV (as := [.int i3, .int i1]) (rest := [.long (cm_L w r2 i3.toNatClampNeg), .long (cm_L w a0 67), .ref a0]) rfl rfl rfl rfl h1 (Nat.le_of_ble_eq_true rfl) (ca_222 w a0 i3 i1) fun v5 h6 => ?_
  show sm _ _ _ _ 64 [(0, .ref a0), (1, .int i1), (2, .int i2), (3, .int i3)] [.int v5, .long (cm_L w r2 i3.toNatClampNeg), .long (cm_L w a0 67), .ref a0] _ _
  refine sm_seg 3 67 [(0, .ref a0), (1, .int i1), (2, .int i2), (3, .int i3)] [.int i1, .int i3, .ref a0, .int v5, .long (cm_L w r2 i3.toNatClampNeg), .long (cm_L w a0 67), .ref a0] rfl ?_
  refine sm_cV (as := [.int i3, .int i1]) (rest := [.int v5, .long (cm_L w r2 i3.toNatClampNeg), .long (cm_L w a0 67), .ref a0]) rfl rfl rfl rfl h1 (Nat.le_of_ble_eq_true rfl) (ca_223 w a0 i3 i1) fun v7 h8 => ?_
  show sm _ _ _ _ 70 [(0, .ref a0), (1, .int i1), (2, .int i2), (3, .int i3)] [.int v7, .int v5, .long (cm_L w r2 i3.toNatClampNeg), .long (cm_L w a0 67), .ref a0] _ _
  refine sm_seg 4 74 [(0, .ref a0), (1, .int i1), (2, .int i2), (3, .int i3)] [.long ((cm_L w a0 67) + ((cm_L w r2 i3.toNatClampNeg) * (Int32.toInt64 (v5 - v7)))), .ref a0] rfl ?_
  refine sm_gd fun h9 => ?_
  refine sm_pL rfl h1 rfl h9 rfl ?_
  show sm _ _ _ _ 77 [(0, .ref a0), (1, .int i1), (2, .int i2), (3, .int i3)] [] _ _
  exact jt_274_77  k_8 hk_8 a0 i1 i2 i3 (cm_sL w a0 67 ((cm_L w a0 67) + ((cm_L w r2 i3.toNatClampNeg) * (Int32.toInt64 (v5 - v7)))))
def fn_274_8 : Nat → Nat → Int32 → Int32 → Int32 → cm_W → Option cm_W
  | 0, _, _, _, _, _ => none
  | n + 1, a0, i1, i2, i3, w => (if cm_sh w a0 = some (.inl 11) then (if (cm_I w a0 1) ≤ i3 then some w else (cm_R w a0 65).bind fun r12 => (if cm_ga w .long r12 i3 = true then (if cm_w2 96 143 a0 = true then (if i2 = (-1 : Int32) then fn_274_47  (fn_274_8 n) a0 i1 i2 i3 (cm_sL w a0 68 ((cm_L w a0 68) + (cm_L w r12 i3.toNatClampNeg))) else (fn_196 (cm_sL w a0 68 ((cm_L w a0 68) + (cm_L w r12 i3.toNatClampNeg))) (cm_I (cm_sL w a0 68 ((cm_L w a0 68) + (cm_L w r12 i3.toNatClampNeg))) a0 66) i3).bind fun v17 => (if ¬ (cm_b v17) = 0 then fn_274_77  (fn_274_8 n) a0 i1 i2 i3 (cm_sL w a0 68 ((cm_L w a0 68) + (cm_L w r12 i3.toNatClampNeg))) else fn_274_47  (fn_274_8 n) a0 i1 i2 i3 (cm_sL w a0 68 ((cm_L w a0 68) + (cm_L w r12 i3.toNatClampNeg))))) else none) else none)) else none)
theorem jt_274_8 : ∀ (n : Nat) (a0 : Nat) (i1 : Int32) (i2 : Int32) (i3 : Int32) (w : cm_W), sm cm_g 274 ck_274 kq_274 8 [(0, .ref a0), (1, .int i1), (2, .int i2), (3, .int i3)] [] w ((fn_274_8 n a0 i1 i2 i3 w).map cm_gV) := by
  intro n
  induction n with
  | zero => intro a0 i1 i2 i3 w; exact sm_no
  | succ n ih =>
    intro a0 i1 i2 i3 w
    rw [fn_274_8]
    refine sm_seg 2 10 [(0, .ref a0), (1, .int i1), (2, .int i2), (3, .int i3)] [.ref a0, .int i3] rfl ?_
    refine sm_gd fun h10 => ?_
    refine sm_gI rfl h10 rfl ?_
    show sm _ _ _ _ 13 [(0, .ref a0), (1, .int i1), (2, .int i2), (3, .int i3)] [.int (cm_I w a0 1), .int i3] _ _
    refine sm_if (pc1 := 83) (lv1 := []) (pc2 := 16) (lv2 := [(0, .ref a0), (1, .int i1), (2, .int i2), (3, .int i3)]) (st1 := []) rfl rfl rfl (fun h11 => ?_) (fun h11 => ?_)
    · exact sm_rV rfl rfl
    · refine sm_seg 2 18 [(0, .ref a0), (1, .int i1), (2, .int i2), (3, .int i3)] [.ref a0, .ref a0] rfl ?_
      refine sm_gL rfl h10 rfl ?_
      show sm _ _ _ _ 21 [(0, .ref a0), (1, .int i1), (2, .int i2), (3, .int i3)] [.long (cm_L w a0 68), .ref a0] _ _
      refine sm_seg 1 22 [(0, .ref a0), (1, .int i1), (2, .int i2), (3, .int i3)] [.ref a0, .long (cm_L w a0 68), .ref a0] rfl ?_
      refine sm_gR rfl h10 rfl rfl fun r12 h13 => ?_
      show sm _ _ _ _ 25 [(0, .ref a0), (1, .int i1), (2, .int i2), (3, .int i3)] [.ref r12, .long (cm_L w a0 68), .ref a0] _ _
      refine sm_seg 1 26 [(0, .ref a0), (1, .int i1), (2, .int i2), (3, .int i3)] [.int i3, .ref r12, .long (cm_L w a0 68), .ref a0] rfl ?_
      refine sm_gd fun h14 => ?_
      refine sm_al rfl h14 rfl ?_
      show sm _ _ _ _ 27 [(0, .ref a0), (1, .int i1), (2, .int i2), (3, .int i3)] [.long (cm_L w r12 i3.toNatClampNeg), .long (cm_L w a0 68), .ref a0] _ _
      refine sm_seg 1 28 [(0, .ref a0), (1, .int i1), (2, .int i2), (3, .int i3)] [.long ((cm_L w a0 68) + (cm_L w r12 i3.toNatClampNeg)), .ref a0] rfl ?_
      refine sm_gd fun h15 => ?_
      refine sm_pL rfl h10 rfl h15 rfl ?_
      show sm _ _ _ _ 31 [(0, .ref a0), (1, .int i1), (2, .int i2), (3, .int i3)] [] _ _
      refine sm_seg 2 33 [(0, .ref a0), (1, .int i1), (2, .int i2), (3, .int i3)] [.int (-1 : Int32), .int i2] rfl ?_
      refine sm_if (pc1 := 47) (lv1 := [(0, .ref a0), (1, .int i1), (2, .int i2), (3, .int i3)]) (pc2 := 36) (lv2 := [(0, .ref a0), (1, .int i1), (2, .int i2), (3, .int i3)]) (st1 := []) rfl rfl rfl (fun h16 => ?_) (fun h16 => ?_)
      · exact jt_274_47  (fn_274_8 n) ih a0 i1 i2 i3 (cm_sL w a0 68 ((cm_L w a0 68) + (cm_L w r12 i3.toNatClampNeg)))
      · refine sm_seg 1 37 [(0, .ref a0), (1, .int i1), (2, .int i2), (3, .int i3)] [.ref a0] rfl ?_
        refine sm_gI rfl h10 rfl ?_
        show sm _ _ _ _ 40 [(0, .ref a0), (1, .int i1), (2, .int i2), (3, .int i3)] [.int (cm_I (cm_sL w a0 68 ((cm_L w a0 68) + (cm_L w r12 i3.toNatClampNeg))) a0 66)] _ _
        refine sm_seg 1 41 [(0, .ref a0), (1, .int i1), (2, .int i2), (3, .int i3)] [.int i3, .int (cm_I (cm_sL w a0 68 ((cm_L w a0 68) + (cm_L w r12 i3.toNatClampNeg))) a0 66)] rfl ?_
        refine sm_cS (av := [.int (cm_I (cm_sL w a0 68 ((cm_L w a0 68) + (cm_L w r12 i3.toNatClampNeg))) a0 66), .int i3]) (rest := []) rfl rfl rfl rfl (Nat.le_of_ble_eq_true rfl) (ca_196 (cm_sL w a0 68 ((cm_L w a0 68) + (cm_L w r12 i3.toNatClampNeg))) (cm_I (cm_sL w a0 68 ((cm_L w a0 68) + (cm_L w r12 i3.toNatClampNeg))) a0 66) i3) fun v17 h18 => ?_
        show sm _ _ _ _ 44 [(0, .ref a0), (1, .int i1), (2, .int i2), (3, .int i3)] [.int (cm_b v17)] _ _
        refine sm_if (pc1 := 77) (lv1 := [(0, .ref a0), (1, .int i1), (2, .int i2), (3, .int i3)]) (pc2 := 47) (lv2 := [(0, .ref a0), (1, .int i1), (2, .int i2), (3, .int i3)]) (st1 := []) rfl rfl rfl (fun h19 => ?_) (fun h19 => ?_)
        · exact jt_274_77  (fn_274_8 n) ih a0 i1 i2 i3 (cm_sL w a0 68 ((cm_L w a0 68) + (cm_L w r12 i3.toNatClampNeg)))
        · exact jt_274_47  (fn_274_8 n) ih a0 i1 i2 i3 (cm_sL w a0 68 ((cm_L w a0 68) + (cm_L w r12 i3.toNatClampNeg)))
def fn_274 (a0 : Nat) (i1 : Int32) (w : cm_W) : Option cm_W := (if cm_sh w a0 = some (.inl 11) then (fn_272 a0 i1 w).bind fun v21 => fn_274_8  cm_N a0 i1 v21.1 (0 : Int32) v21.2 else none)
theorem jt_274_0 (a0 : Nat) (i1 : Int32) (w : cm_W) : sm cm_g 274 ck_274 kq_274 0 [(0, .ref a0), (1, .int i1)] [] w ((fn_274 a0 i1 w).map cm_gV) := by
  unfold fn_274
  refine sm_seg 2 2 [(0, .ref a0), (1, .int i1)] [.int i1, .ref a0] rfl ?_
  refine sm_gd fun h20 => ?_
  refine sm_cV (as := [.int i1]) (rest := []) rfl rfl rfl rfl h20 (Nat.le_of_ble_eq_true rfl) (ca_272  a0 i1 w) fun v21 h22 => ?_
  show sm _ _ _ _ 5 [(0, .ref a0), (1, .int i1)] [.int v21.1] _ _
  refine sm_seg 3 8 [(0, .ref a0), (1, .int i1), (2, .int v21.1), (3, .int (0 : Int32))] [] rfl ?_
  exact jt_274_8  cm_N a0 i1 v21.1 (0 : Int32) v21.2
theorem ca_274 (a0 : Nat) (i1 : Int32) (w : cm_W) : cm_ca cm_g 274 [.ref a0, .int i1] w ((fn_274 a0 i1 w).map cm_gV) := cm_ca_of (cm_me_of rfl rfl) rfl (jt_274_0 a0 i1 w)
-- NailedBoxesModel.isFirst(II)Z
def fn_275_55 (w : cm_W) (k_5 : Nat → Int32 → Int32 → Int32 → Int32 → Option Bool) (a0 : Nat) (i1 : Int32) (i2 : Int32) (i4 : Int32) : Option Bool := k_5 a0 i1 i2 (1 : Int32) (i4 + (1 : Int32))
theorem jt_275_55 (w : cm_W) (k_5 : Nat → Int32 → Int32 → Int32 → Int32 → Option Bool) (hk_5 : ∀ (a0 : Nat) (i1 : Int32) (i2 : Int32) (i3 : Int32) (i4 : Int32), sm cm_g 275 ck_275 kq_275 5 [(0, .ref a0), (1, .int i1), (2, .int i2), (3, .int i3), (4, .int i4)] [] w ((k_5 a0 i1 i2 i3 i4).map (cm_fB w))) (a0 : Nat) (i1 : Int32) (i2 : Int32) (i4 : Int32) : sm cm_g 275 ck_275 kq_275 55 [(0, .ref a0), (1, .int i1), (2, .int i2), (4, .int i4)] [] w ((fn_275_55 w k_5 a0 i1 i2 i4).map (cm_fB w)) := by
  unfold fn_275_55
  refine sm_seg 5 5 [(0, .ref a0), (1, .int i1), (2, .int i2), (3, .int (1 : Int32)), (4, .int (i4 + (1 : Int32)))] [] rfl ?_
  exact hk_5 a0 i1 i2 (1 : Int32) (i4 + (1 : Int32))
def fn_275_59 (w : cm_W) (k_5 : Nat → Int32 → Int32 → Int32 → Int32 → Option Bool) (a0 : Nat) (i1 : Int32) (i2 : Int32) (i4 : Int32) : Option Bool := k_5 a0 i1 i2 (0 : Int32) (i4 + (1 : Int32))
theorem jt_275_59 (w : cm_W) (k_5 : Nat → Int32 → Int32 → Int32 → Int32 → Option Bool) (hk_5 : ∀ (a0 : Nat) (i1 : Int32) (i2 : Int32) (i3 : Int32) (i4 : Int32), sm cm_g 275 ck_275 kq_275 5 [(0, .ref a0), (1, .int i1), (2, .int i2), (3, .int i3), (4, .int i4)] [] w ((k_5 a0 i1 i2 i3 i4).map (cm_fB w))) (a0 : Nat) (i1 : Int32) (i2 : Int32) (i4 : Int32) : sm cm_g 275 ck_275 kq_275 59 [(0, .ref a0), (1, .int i1), (2, .int i2), (4, .int i4)] [] w ((fn_275_59 w k_5 a0 i1 i2 i4).map (cm_fB w)) := by
  unfold fn_275_59
  refine sm_seg 4 5 [(0, .ref a0), (1, .int i1), (2, .int i2), (3, .int (0 : Int32)), (4, .int (i4 + (1 : Int32)))] [] rfl ?_
  exact hk_5 a0 i1 i2 (0 : Int32) (i4 + (1 : Int32))
def fn_275_39 (w : cm_W) (k_5 : Nat → Int32 → Int32 → Int32 → Int32 → Option Bool) (a0 : Nat) (i1 : Int32) (i2 : Int32) (i4 : Int32) : Option Bool := (if cm_sh w a0 = some (.inl 11) then (cm_R w a0 23).bind fun r2 => (if cm_ga w .int r2 i4 = true then (cm_R w a0 23).bind fun r5 => (if cm_ga w .int r5 i2 = true then (if (cm_I w r2 i4.toNatClampNeg) = (cm_I w r5 i2.toNatClampNeg) then fn_275_59 w k_5 a0 i1 i2 i4 else fn_275_55 w k_5 a0 i1 i2 i4) else none) else none) else none)
theorem jt_275_39 (w : cm_W) (k_5 : Nat → Int32 → Int32 → Int32 → Int32 → Option Bool) (hk_5 : ∀ (a0 : Nat) (i1 : Int32) (i2 : Int32) (i3 : Int32) (i4 : Int32), sm cm_g 275 ck_275 kq_275 5 [(0, .ref a0), (1, .int i1), (2, .int i2), (3, .int i3), (4, .int i4)] [] w ((k_5 a0 i1 i2 i3 i4).map (cm_fB w))) (a0 : Nat) (i1 : Int32) (i2 : Int32) (i4 : Int32) : sm cm_g 275 ck_275 kq_275 39 [(0, .ref a0), (1, .int i1), (2, .int i2), (4, .int i4)] [] w ((fn_275_39 w k_5 a0 i1 i2 i4).map (cm_fB w)) := by
  unfold fn_275_39
  refine sm_seg 1 40 [(0, .ref a0), (1, .int i1), (2, .int i2), (4, .int i4)] [.ref a0] rfl ?_
  refine sm_gd fun h1 => ?_
  refine sm_gR rfl h1 rfl rfl fun r2 h3 => ?_
  show sm _ _ _ _ 43 [(0, .ref a0), (1, .int i1), (2, .int i2), (4, .int i4)] [.ref r2] _ _
  refine sm_seg 1 45 [(0, .ref a0), (1, .int i1), (2, .int i2), (4, .int i4)] [.int i4, .ref r2] rfl ?_
  refine sm_gd fun h4 => ?_
  refine sm_ai rfl h4 rfl ?_
  show sm _ _ _ _ 46 [(0, .ref a0), (1, .int i1), (2, .int i2), (4, .int i4)] [.int (cm_I w r2 i4.toNatClampNeg)] _ _
  refine sm_seg 1 47 [(0, .ref a0), (1, .int i1), (2, .int i2), (4, .int i4)] [.ref a0, .int (cm_I w r2 i4.toNatClampNeg)] rfl ?_
  refine sm_gR rfl h1 rfl rfl fun r5 h6 => ?_
  show sm _ _ _ _ 50 [(0, .ref a0), (1, .int i1), (2, .int i2), (4, .int i4)] [.ref r5, .int (cm_I w r2 i4.toNatClampNeg)] _ _
  refine sm_seg 1 51 [(0, .ref a0), (1, .int i1), (2, .int i2), (4, .int i4)] [.int i2, .ref r5, .int (cm_I w r2 i4.toNatClampNeg)] rfl ?_
  refine sm_gd fun h7 => ?_
  refine sm_ai rfl h7 rfl ?_
  show sm _ _ _ _ 52 [(0, .ref a0), (1, .int i1), (2, .int i2), (4, .int i4)] [.int (cm_I w r5 i2.toNatClampNeg), .int (cm_I w r2 i4.toNatClampNeg)] _ _
  refine sm_if (pc1 := 59) (lv1 := [(0, .ref a0), (1, .int i1), (2, .int i2), (4, .int i4)]) (pc2 := 55) (lv2 := [(0, .ref a0), (1, .int i1), (2, .int i2), (4, .int i4)]) (st1 := []) rfl rfl rfl (fun h8 => ?_) (fun h8 => ?_)
  · exact jt_275_59 w k_5 hk_5 a0 i1 i2 i4
  · exact jt_275_55 w k_5 hk_5 a0 i1 i2 i4
def fn_275_5 (w : cm_W) : Nat → Nat → Int32 → Int32 → Int32 → Int32 → Option Bool
  | 0, _, _, _, _, _ => none
  | n + 1, a0, i1, i2, i3, i4 => (if i2 ≤ i4 then (if i3 = 0 ∨ i3 = 1 then some (decide (i3 = 1)) else none) else (if i3 = 0 then fn_275_59 w (fn_275_5 w n) a0 i1 i2 i4 else (if ¬ i1 = (2 : Int32) then fn_275_39 w (fn_275_5 w n) a0 i1 i2 i4 else (if cm_sh w a0 = some (.inl 11) then (cm_R w a0 24).bind fun r14 => (if cm_ga w .int r14 i4 = true then (cm_R w a0 24).bind fun r17 => (if cm_ga w .int r17 i2 = true then (if (cm_I w r14 i4.toNatClampNeg) = (cm_I w r17 i2.toNatClampNeg) then fn_275_59 w (fn_275_5 w n) a0 i1 i2 i4 else fn_275_55 w (fn_275_5 w n) a0 i1 i2 i4) else none) else none) else none))))
theorem jt_275_5 (w : cm_W) : ∀ (n : Nat) (a0 : Nat) (i1 : Int32) (i2 : Int32) (i3 : Int32) (i4 : Int32), sm cm_g 275 ck_275 kq_275 5 [(0, .ref a0), (1, .int i1), (2, .int i2), (3, .int i3), (4, .int i4)] [] w ((fn_275_5 w n a0 i1 i2 i3 i4).map (cm_fB w)) := by
  intro n
  induction n with
  | zero => intro a0 i1 i2 i3 i4; exact sm_no
  | succ n ih =>
    intro a0 i1 i2 i3 i4
    rw [fn_275_5]
    refine sm_seg 2 8 [(0, .ref a0), (1, .int i1), (2, .int i2), (3, .int i3), (4, .int i4)] [.int i2, .int i4] rfl ?_
    refine sm_if (pc1 := 67) (lv1 := [(3, .int i3)]) (pc2 := 11) (lv2 := [(0, .ref a0), (1, .int i1), (2, .int i2), (3, .int i3), (4, .int i4)]) (st1 := []) rfl rfl rfl (fun h9 => ?_) (fun h9 => ?_)
    · refine sm_seg 1 68 [(3, .int i3)] [.int i3] rfl ?_
      refine sm_gd fun h10 => ?_
      exact sm_rY rfl rfl h10
    · refine sm_seg 1 12 [(0, .ref a0), (1, .int i1), (2, .int i2), (3, .int i3), (4, .int i4)] [.int i3] rfl ?_
      refine sm_if (pc1 := 59) (lv1 := [(0, .ref a0), (1, .int i1), (2, .int i2), (4, .int i4)]) (pc2 := 15) (lv2 := [(0, .ref a0), (1, .int i1), (2, .int i2), (3, .int i3), (4, .int i4)]) (st1 := []) rfl rfl rfl (fun h11 => ?_) (fun h11 => ?_)
      · exact jt_275_59 w (fn_275_5 w n) ih a0 i1 i2 i4
      · refine sm_seg 2 17 [(0, .ref a0), (1, .int i1), (2, .int i2), (3, .int i3), (4, .int i4)] [.int (2 : Int32), .int i1] rfl ?_
        refine sm_if (pc1 := 39) (lv1 := [(0, .ref a0), (1, .int i1), (2, .int i2), (4, .int i4)]) (pc2 := 20) (lv2 := [(0, .ref a0), (1, .int i1), (2, .int i2), (3, .int i3), (4, .int i4)]) (st1 := []) rfl rfl rfl (fun h12 => ?_) (fun h12 => ?_)
        · exact jt_275_39 w (fn_275_5 w n) ih a0 i1 i2 i4
        · refine sm_seg 1 21 [(0, .ref a0), (1, .int i1), (2, .int i2), (3, .int i3), (4, .int i4)] [.ref a0] rfl ?_
          refine sm_gd fun h13 => ?_
          refine sm_gR rfl h13 rfl rfl fun r14 h15 => ?_
          show sm _ _ _ _ 24 [(0, .ref a0), (1, .int i1), (2, .int i2), (3, .int i3), (4, .int i4)] [.ref r14] _ _
          refine sm_seg 1 26 [(0, .ref a0), (1, .int i1), (2, .int i2), (3, .int i3), (4, .int i4)] [.int i4, .ref r14] rfl ?_
          refine sm_gd fun h16 => ?_
          refine sm_ai rfl h16 rfl ?_
          show sm _ _ _ _ 27 [(0, .ref a0), (1, .int i1), (2, .int i2), (3, .int i3), (4, .int i4)] [.int (cm_I w r14 i4.toNatClampNeg)] _ _
          refine sm_seg 1 28 [(0, .ref a0), (1, .int i1), (2, .int i2), (3, .int i3), (4, .int i4)] [.ref a0, .int (cm_I w r14 i4.toNatClampNeg)] rfl ?_
          refine sm_gR rfl h13 rfl rfl fun r17 h18 => ?_
          show sm _ _ _ _ 31 [(0, .ref a0), (1, .int i1), (2, .int i2), (3, .int i3), (4, .int i4)] [.ref r17, .int (cm_I w r14 i4.toNatClampNeg)] _ _
          refine sm_seg 1 32 [(0, .ref a0), (1, .int i1), (2, .int i2), (3, .int i3), (4, .int i4)] [.int i2, .ref r17, .int (cm_I w r14 i4.toNatClampNeg)] rfl ?_
          refine sm_gd fun h19 => ?_
          refine sm_ai rfl h19 rfl ?_
          show sm _ _ _ _ 33 [(0, .ref a0), (1, .int i1), (2, .int i2), (3, .int i3), (4, .int i4)] [.int (cm_I w r17 i2.toNatClampNeg), .int (cm_I w r14 i4.toNatClampNeg)] _ _
          refine sm_if (pc1 := 59) (lv1 := [(0, .ref a0), (1, .int i1), (2, .int i2), (4, .int i4)]) (pc2 := 36) (lv2 := [(0, .ref a0), (1, .int i1), (2, .int i2), (3, .int i3), (4, .int i4)]) (st1 := []) rfl rfl rfl (fun h20 => ?_) (fun h20 => ?_)
          · exact jt_275_59 w (fn_275_5 w n) ih a0 i1 i2 i4
          · refine sm_seg 1 55 [(0, .ref a0), (1, .int i1), (2, .int i2), (4, .int i4)] [] rfl ?_
            exact jt_275_55 w (fn_275_5 w n) ih a0 i1 i2 i4
def fn_275 (w : cm_W) (a0 : Nat) (i1 : Int32) (i2 : Int32) : Option Bool := fn_275_5 w cm_N a0 i1 i2 (1 : Int32) (0 : Int32)
theorem jt_275_0 (w : cm_W) (a0 : Nat) (i1 : Int32) (i2 : Int32) : sm cm_g 275 ck_275 kq_275 0 [(0, .ref a0), (1, .int i1), (2, .int i2)] [] w ((fn_275 w a0 i1 i2).map (cm_fB w)) := by
  unfold fn_275
  refine sm_seg 4 5 [(0, .ref a0), (1, .int i1), (2, .int i2), (3, .int (1 : Int32)), (4, .int (0 : Int32))] [] rfl ?_
  exact jt_275_5 w cm_N a0 i1 i2 (1 : Int32) (0 : Int32)
theorem ca_275 (w : cm_W) (a0 : Nat) (i1 : Int32) (i2 : Int32) : cm_ca cm_g 275 [.ref a0, .int i1, .int i2] w ((fn_275 w a0 i1 i2).map (cm_fB w)) := cm_ca_of (cm_me_of rfl rfl) rfl (jt_275_0 w a0 i1 i2)
-- NailedBoxesModel.lostBy(II)I
def fn_276_94 (k_38 : Nat → Int32 → Int32 → Int32 → Int32 → cm_W → Option (Int32 × cm_W)) (a0 : Nat) (i1 : Int32) (i2 : Int32) (i3 : Int32) (i4 : Int32) (w : cm_W) : Option (Int32 × cm_W) := k_38 a0 i1 i2 i3 (i4 + (1 : Int32)) w
theorem jt_276_94 (k_38 : Nat → Int32 → Int32 → Int32 → Int32 → cm_W → Option (Int32 × cm_W)) (hk_38 : ∀ (a0 : Nat) (i1 : Int32) (i2 : Int32) (i3 : Int32) (i4 : Int32) (w : cm_W), sm cm_g 276 ck_276 kq_276 38 [(0, .ref a0), (1, .int i1), (2, .int i2), (3, .int i3), (4, .int i4)] [] w ((k_38 a0 i1 i2 i3 i4 w).map cm_gI)) (a0 : Nat) (i1 : Int32) (i2 : Int32) (i3 : Int32) (i4 : Int32) (w : cm_W) : sm cm_g 276 ck_276 kq_276 94 [(0, .ref a0), (1, .int i1), (2, .int i2), (3, .int i3), (4, .int i4)] [] w ((fn_276_94 k_38 a0 i1 i2 i3 i4 w).map cm_gI) := by
  unfold fn_276_94
  refine sm_seg 2 38 [(0, .ref a0), (1, .int i1), (2, .int i2), (3, .int i3), (4, .int (i4 + (1 : Int32)))] [] rfl ?_
  exact hk_38 a0 i1 i2 i3 (i4 + (1 : Int32)) w
def fn_276_62 (k_38 : Nat → Int32 → Int32 → Int32 → Int32 → cm_W → Option (Int32 × cm_W)) (a0 : Nat) (i1 : Int32) (i2 : Int32) (i3 : Int32) (i4 : Int32) (w : cm_W) : Option (Int32 × cm_W) := (if ¬ i1 = (1 : Int32) then (if i1 ≤ (1 : Int32) then (if cm_sh w a0 = some (.inl 11) then (fn_269 a0 i1 (0 : Int32) (0 : Int32) w).bind fun w4 => (if cm_sh w4 a0 = some (.inl 11) then (fn_274 a0 i2 w4).bind fun w7 => fn_276_94  k_38 a0 i1 i2 i3 i4 w7 else none) else none) else (if cm_sh w a0 = some (.inl 11) then (fn_269 a0 i1 (0 : Int32) i4 w).bind fun w10 => (if cm_sh w10 a0 = some (.inl 11) then (fn_274 a0 i2 w10).bind fun w13 => fn_276_94  k_38 a0 i1 i2 i3 i4 w13 else none) else none)) else (if i1 ≤ (1 : Int32) then (if cm_sh w a0 = some (.inl 11) then (fn_269 a0 i1 i4 (0 : Int32) w).bind fun w17 => (if cm_sh w17 a0 = some (.inl 11) then (fn_274 a0 i2 w17).bind fun w20 => fn_276_94  k_38 a0 i1 i2 i3 i4 w20 else none) else none) else (if cm_sh w a0 = some (.inl 11) then (fn_269 a0 i1 i4 i4 w).bind fun w23 => (if cm_sh w23 a0 = some (.inl 11) then (fn_274 a0 i2 w23).bind fun w26 => fn_276_94  k_38 a0 i1 i2 i3 i4 w26 else none) else none)))
theorem jt_276_62 (k_38 : Nat → Int32 → Int32 → Int32 → Int32 → cm_W → Option (Int32 × cm_W)) (hk_38 : ∀ (a0 : Nat) (i1 : Int32) (i2 : Int32) (i3 : Int32) (i4 : Int32) (w : cm_W), sm cm_g 276 ck_276 kq_276 38 [(0, .ref a0), (1, .int i1), (2, .int i2), (3, .int i3), (4, .int i4)] [] w ((k_38 a0 i1 i2 i3 i4 w).map cm_gI)) (a0 : Nat) (i1 : Int32) (i2 : Int32) (i3 : Int32) (i4 : Int32) (w : cm_W) : sm cm_g 276 ck_276 kq_276 62 [(0, .ref a0), (1, .int i1), (2, .int i2), (3, .int i3), (4, .int i4)] [] w ((fn_276_62 k_38 a0 i1 i2 i3 i4 w).map cm_gI) := by
  unfold fn_276_62
  refine sm_seg 4 66 [(0, .ref a0), (1, .int i1), (2, .int i2), (3, .int i3), (4, .int i4)] [.int (1 : Int32), .int i1, .int i1, .ref a0] rfl ?_
  refine sm_if (pc1 := 74) (lv1 := [(0, .ref a0), (1, .int i1), (2, .int i2), (3, .int i3), (4, .int i4)]) (pc2 := 69) (lv2 := [(0, .ref a0), (1, .int i1), (2, .int i2), (3, .int i3), (4, .int i4)]) (st1 := [.int i1, .ref a0]) rfl rfl rfl (fun h1 => ?_) (fun h1 => ?_)
  · refine sm_seg 3 77 [(0, .ref a0), (1, .int i1), (2, .int i2), (3, .int i3), (4, .int i4)] [.int (1 : Int32), .int i1, .int (0 : Int32), .int i1, .ref a0] rfl ?_
    refine sm_if (pc1 := 85) (lv1 := [(0, .ref a0), (1, .int i1), (2, .int i2), (3, .int i3), (4, .int i4)]) (pc2 := 80) (lv2 := [(0, .ref a0), (1, .int i1), (2, .int i2), (3, .int i3), (4, .int i4)]) (st1 := [.int (0 : Int32), .int i1, .ref a0]) rfl rfl rfl (fun h2 => ?_) (fun h2 => ?_)
    · refine sm_seg 1 86 [(0, .ref a0), (1, .int i1), (2, .int i2), (3, .int i3), (4, .int i4)] [.int (0 : Int32), .int (0 : Int32), .int i1, .ref a0] rfl ?_
      refine sm_gd fun h3 => ?_
      refine sm_cV (as := [.int i1, .int (0 : Int32), .int (0 : Int32)]) (rest := []) rfl rfl rfl rfl h3 (Nat.le_of_ble_eq_true rfl) (ca_269  a0 i1 (0 : Int32) (0 : Int32) w) fun w4 h5 => ?_
      show sm _ _ _ _ 89 [(0, .ref a0), (1, .int i1), (2, .int i2), (3, .int i3), (4, .int i4)] [] _ _
      refine sm_seg 2 91 [(0, .ref a0), (1, .int i1), (2, .int i2), (3, .int i3), (4, .int i4)] [.int i2, .ref a0] rfl ?_
      refine sm_gd fun h6 => ?_
      refine sm_cV (as := [.int i2]) (rest := []) rfl rfl rfl rfl h6 (Nat.le_of_ble_eq_true rfl) (ca_274  a0 i2 w4) fun w7 h8 => ?_
      show sm _ _ _ _ 94 [(0, .ref a0), (1, .int i1), (2, .int i2), (3, .int i3), (4, .int i4)] [] _ _
      exact jt_276_94  k_38 hk_38 a0 i1 i2 i3 i4 w7
    · refine sm_seg 2 86 [(0, .ref a0), (1, .int i1), (2, .int i2), (3, .int i3), (4, .int i4)] [.int i4, .int (0 : Int32), .int i1, .ref a0] rfl ?_
      refine sm_gd fun h9 => ?_
      refine sm_cV (as := [.int i1, .int (0 : Int32), .int i4]) (rest := []) rfl rfl rfl rfl h9 (Nat.le_of_ble_eq_true rfl) (ca_269  a0 i1 (0 : Int32) i4 w) fun w10 h11 => ?_
      show sm _ _ _ _ 89 [(0, .ref a0), (1, .int i1), (2, .int i2), (3, .int i3), (4, .int i4)] [] _ _
      refine sm_seg 2 91 [(0, .ref a0), (1, .int i1), (2, .int i2), (3, .int i3), (4, .int i4)] [.int i2, .ref a0] rfl ?_
      refine sm_gd fun h12 => ?_
      refine sm_cV (as := [.int i2]) (rest := []) rfl rfl rfl rfl h12 (Nat.le_of_ble_eq_true rfl) (ca_274  a0 i2 w10) fun w13 h14 => ?_
      show sm _ _ _ _ 94 [(0, .ref a0), (1, .int i1), (2, .int i2), (3, .int i3), (4, .int i4)] [] _ _
      exact jt_276_94  k_38 hk_38 a0 i1 i2 i3 i4 w13
  · refine sm_seg 4 77 [(0, .ref a0), (1, .int i1), (2, .int i2), (3, .int i3), (4, .int i4)] [.int (1 : Int32), .int i1, .int i4, .int i1, .ref a0] rfl ?_
    refine sm_if (pc1 := 85) (lv1 := [(0, .ref a0), (1, .int i1), (2, .int i2), (3, .int i3), (4, .int i4)]) (pc2 := 80) (lv2 := [(0, .ref a0), (1, .int i1), (2, .int i2), (3, .int i3), (4, .int i4)]) (st1 := [.int i4, .int i1, .ref a0]) rfl rfl rfl (fun h15 => ?_) (fun h15 => ?_)
    · refine sm_seg 1 86 [(0, .ref a0), (1, .int i1), (2, .int i2), (3, .int i3), (4, .int i4)] [.int (0 : Int32), .int i4, .int i1, .ref a0] rfl ?_
      refine sm_gd fun h16 => ?_
      refine sm_cV (as := [.int i1, .int i4, .int (0 : Int32)]) (rest := []) rfl rfl rfl rfl h16 (Nat.le_of_ble_eq_true rfl) (ca_269  a0 i1 i4 (0 : Int32) w) fun w17 h18 => ?_
      show sm _ _ _ _ 89 [(0, .ref a0), (1, .int i1), (2, .int i2), (3, .int i3), (4, .int i4)] [] _ _
      refine sm_seg 2 91 [(0, .ref a0), (1, .int i1), (2, .int i2), (3, .int i3), (4, .int i4)] [.int i2, .ref a0] rfl ?_
      refine sm_gd fun h19 => ?_
      refine sm_cV (as := [.int i2]) (rest := []) rfl rfl rfl rfl h19 (Nat.le_of_ble_eq_true rfl) (ca_274  a0 i2 w17) fun w20 h21 => ?_
      show sm _ _ _ _ 94 [(0, .ref a0), (1, .int i1), (2, .int i2), (3, .int i3), (4, .int i4)] [] _ _
      exact jt_276_94  k_38 hk_38 a0 i1 i2 i3 i4 w20
    · refine sm_seg 2 86 [(0, .ref a0), (1, .int i1), (2, .int i2), (3, .int i3), (4, .int i4)] [.int i4, .int i4, .int i1, .ref a0] rfl ?_
      refine sm_gd fun h22 => ?_
      refine sm_cV (as := [.int i1, .int i4, .int i4]) (rest := []) rfl rfl rfl rfl h22 (Nat.le_of_ble_eq_true rfl) (ca_269  a0 i1 i4 i4 w) fun w23 h24 => ?_
      show sm _ _ _ _ 89 [(0, .ref a0), (1, .int i1), (2, .int i2), (3, .int i3), (4, .int i4)] [] _ _
      refine sm_seg 2 91 [(0, .ref a0), (1, .int i1), (2, .int i2), (3, .int i3), (4, .int i4)] [.int i2, .ref a0] rfl ?_
      refine sm_gd fun h25 => ?_
      refine sm_cV (as := [.int i2]) (rest := []) rfl rfl rfl rfl h25 (Nat.le_of_ble_eq_true rfl) (ca_274  a0 i2 w23) fun w26 h27 => ?_
      show sm _ _ _ _ 94 [(0, .ref a0), (1, .int i1), (2, .int i2), (3, .int i3), (4, .int i4)] [] _ _
      exact jt_276_94  k_38 hk_38 a0 i1 i2 i3 i4 w26
def fn_276_113 (a0 : Nat) (w : cm_W) : Option (Int32 × cm_W) := (if cm_sh w a0 = some (.inl 11) then (if ¬ (cm_L w a0 68) = 0 then some ((Int64.toInt32 (((100 : Int64) * (cm_L w a0 67)) / (cm_L w a0 68))), w) else none) else none)
theorem jt_276_113 (a0 : Nat) (w : cm_W) : sm cm_g 276 ck_276 kq_276 113 [(0, .ref a0)] [] w ((fn_276_113 a0 w).map cm_gI) := by
  unfold fn_276_113
  refine sm_seg 2 117 [(0, .ref a0)] [.ref a0, .long (100 : Int64)] rfl ?_
  refine sm_gd fun h28 => ?_
  refine sm_gL rfl h28 rfl ?_
  show sm _ _ _ _ 120 [(0, .ref a0)] [.long (cm_L w a0 67), .long (100 : Int64)] _ _
  refine sm_seg 2 122 [(0, .ref a0)] [.ref a0, .long ((100 : Int64) * (cm_L w a0 67))] rfl ?_
  refine sm_gL rfl h28 rfl ?_
  show sm _ _ _ _ 125 [(0, .ref a0)] [.long (cm_L w a0 68), .long ((100 : Int64) * (cm_L w a0 67))] _ _
  refine sm_gd fun h29 => ?_
  refine sm_ldiv rfl h29 rfl ?_
  show sm _ _ _ _ 126 [(0, .ref a0)] [.long (((100 : Int64) * (cm_L w a0 67)) / (cm_L w a0 68))] _ _
  refine sm_seg 1 127 [] [.int (Int64.toInt32 (((100 : Int64) * (cm_L w a0 67)) / (cm_L w a0 68)))] rfl ?_
  exact sm_rIW rfl rfl
def fn_276_100 (a0 : Nat) (w : cm_W) : Option (Int32 × cm_W) := (if cm_sh w a0 = some (.inl 11) then (if ¬ (lg_cmp (cm_L w a0 68) (0 : Int64)) = 0 then fn_276_113  a0 w else some ((-1 : Int32), w)) else none)
theorem jt_276_100 (a0 : Nat) (w : cm_W) : sm cm_g 276 ck_276 kq_276 100 [(0, .ref a0)] [] w ((fn_276_100 a0 w).map cm_gI) := by
  unfold fn_276_100
  refine sm_seg 1 101 [(0, .ref a0)] [.ref a0] rfl ?_
  refine sm_gd fun h30 => ?_
  refine sm_gL rfl h30 rfl ?_
  show sm _ _ _ _ 104 [(0, .ref a0)] [.long (cm_L w a0 68)] _ _
  refine sm_seg 2 106 [(0, .ref a0)] [.int (lg_cmp (cm_L w a0 68) (0 : Int64))] rfl ?_
  refine sm_if (pc1 := 113) (lv1 := [(0, .ref a0)]) (pc2 := 109) (lv2 := [(0, .ref a0)]) (st1 := []) rfl rfl rfl (fun h31 => ?_) (fun h31 => ?_)
  · exact jt_276_113  a0 w
  · refine sm_seg 2 127 [] [.int (-1 : Int32)] rfl ?_
    exact sm_rIW rfl rfl
def fn_276_38 : Nat → Nat → Int32 → Int32 → Int32 → Int32 → cm_W → Option (Int32 × cm_W)
  | 0, _, _, _, _, _, _ => none
  | n + 1, a0, i1, i2, i3, i4, w => (if i3 ≤ i4 then fn_276_100  a0 w else (if i1 ≤ (1 : Int32) then fn_276_62  (fn_276_38 n) a0 i1 i2 i3 i4 w else (if cm_sh w a0 = some (.inl 11) then (fn_275 w a0 i1 i4).bind fun v35 => (if ¬ (cm_b v35) = 0 then fn_276_62  (fn_276_38 n) a0 i1 i2 i3 i4 w else fn_276_94  (fn_276_38 n) a0 i1 i2 i3 i4 w) else none)))
theorem jt_276_38 : ∀ (n : Nat) (a0 : Nat) (i1 : Int32) (i2 : Int32) (i3 : Int32) (i4 : Int32) (w : cm_W), sm cm_g 276 ck_276 kq_276 38 [(0, .ref a0), (1, .int i1), (2, .int i2), (3, .int i3), (4, .int i4)] [] w ((fn_276_38 n a0 i1 i2 i3 i4 w).map cm_gI) := by
  intro n
  induction n with
  | zero => intro a0 i1 i2 i3 i4 w; exact sm_no
  | succ n ih =>
    intro a0 i1 i2 i3 i4 w
    rw [fn_276_38]
    refine sm_seg 2 41 [(0, .ref a0), (1, .int i1), (2, .int i2), (3, .int i3), (4, .int i4)] [.int i3, .int i4] rfl ?_
    refine sm_if (pc1 := 100) (lv1 := [(0, .ref a0)]) (pc2 := 44) (lv2 := [(0, .ref a0), (1, .int i1), (2, .int i2), (3, .int i3), (4, .int i4)]) (st1 := []) rfl rfl rfl (fun h32 => ?_) (fun h32 => ?_)
    · exact jt_276_100  a0 w
    · refine sm_seg 2 46 [(0, .ref a0), (1, .int i1), (2, .int i2), (3, .int i3), (4, .int i4)] [.int (1 : Int32), .int i1] rfl ?_
      refine sm_if (pc1 := 62) (lv1 := [(0, .ref a0), (1, .int i1), (2, .int i2), (3, .int i3), (4, .int i4)]) (pc2 := 49) (lv2 := [(0, .ref a0), (1, .int i1), (2, .int i2), (3, .int i3), (4, .int i4)]) (st1 := []) rfl rfl rfl (fun h33 => ?_) (fun h33 => ?_)
      · exact jt_276_62  (fn_276_38 n) ih a0 i1 i2 i3 i4 w
      · refine sm_seg 3 53 [(0, .ref a0), (1, .int i1), (2, .int i2), (3, .int i3), (4, .int i4)] [.int i4, .int i1, .ref a0] rfl ?_
        refine sm_gd fun h34 => ?_
        refine sm_cV (as := [.int i1, .int i4]) (rest := []) rfl rfl rfl rfl h34 (Nat.le_of_ble_eq_true rfl) (ca_275 w a0 i1 i4) fun v35 h36 => ?_
        show sm _ _ _ _ 56 [(0, .ref a0), (1, .int i1), (2, .int i2), (3, .int i3), (4, .int i4)] [.int (cm_b v35)] _ _
        refine sm_if (pc1 := 62) (lv1 := [(0, .ref a0), (1, .int i1), (2, .int i2), (3, .int i3), (4, .int i4)]) (pc2 := 59) (lv2 := [(0, .ref a0), (1, .int i1), (2, .int i2), (3, .int i3), (4, .int i4)]) (st1 := []) rfl rfl rfl (fun h37 => ?_) (fun h37 => ?_)
        · exact jt_276_62  (fn_276_38 n) ih a0 i1 i2 i3 i4 w
        · refine sm_seg 1 94 [(0, .ref a0), (1, .int i1), (2, .int i2), (3, .int i3), (4, .int i4)] [] rfl ?_
          exact jt_276_94  (fn_276_38 n) ih a0 i1 i2 i3 i4 w
def fn_276_30 (a0 : Nat) (i1 : Int32) (i2 : Int32) (w : cm_W) : Option (Int32 × cm_W) := (if cm_sh w a0 = some (.inl 11) then fn_276_38  cm_N a0 i1 i2 (cm_I w a0 1) (0 : Int32) w else none)
theorem jt_276_30 (a0 : Nat) (i1 : Int32) (i2 : Int32) (w : cm_W) : sm cm_g 276 ck_276 kq_276 30 [(0, .ref a0), (1, .int i1), (2, .int i2)] [] w ((fn_276_30 a0 i1 i2 w).map cm_gI) := by
  unfold fn_276_30
  refine sm_seg 1 31 [(0, .ref a0), (1, .int i1), (2, .int i2)] [.ref a0] rfl ?_
  refine sm_gd fun h38 => ?_
  refine sm_gI rfl h38 rfl ?_
  show sm _ _ _ _ 34 [(0, .ref a0), (1, .int i1), (2, .int i2)] [.int (cm_I w a0 1)] _ _
  refine sm_seg 3 38 [(0, .ref a0), (1, .int i1), (2, .int i2), (3, .int (cm_I w a0 1)), (4, .int (0 : Int32))] [] rfl ?_
  exact jt_276_38  cm_N a0 i1 i2 (cm_I w a0 1) (0 : Int32) w
def fn_276_18 (a0 : Nat) (i1 : Int32) (i2 : Int32) (w : cm_W) : Option (Int32 × cm_W) := (if ¬ i1 = (1 : Int32) then fn_276_30  a0 i1 i2 w else (if cm_sh w a0 = some (.inl 11) then fn_276_38  cm_N a0 i1 i2 (cm_I w a0 2) (0 : Int32) w else none))
theorem jt_276_18 (a0 : Nat) (i1 : Int32) (i2 : Int32) (w : cm_W) : sm cm_g 276 ck_276 kq_276 18 [(0, .ref a0), (1, .int i1), (2, .int i2)] [] w ((fn_276_18 a0 i1 i2 w).map cm_gI) := by
  unfold fn_276_18
  refine sm_seg 2 20 [(0, .ref a0), (1, .int i1), (2, .int i2)] [.int (1 : Int32), .int i1] rfl ?_
  refine sm_if (pc1 := 30) (lv1 := [(0, .ref a0), (1, .int i1), (2, .int i2)]) (pc2 := 23) (lv2 := [(0, .ref a0), (1, .int i1), (2, .int i2)]) (st1 := []) rfl rfl rfl (fun h39 => ?_) (fun h39 => ?_)
  · exact jt_276_30  a0 i1 i2 w
  · refine sm_seg 1 24 [(0, .ref a0), (1, .int i1), (2, .int i2)] [.ref a0] rfl ?_
    refine sm_gd fun h40 => ?_
    refine sm_gI rfl h40 rfl ?_
    show sm _ _ _ _ 27 [(0, .ref a0), (1, .int i1), (2, .int i2)] [.int (cm_I w a0 2)] _ _
    refine sm_seg 4 38 [(0, .ref a0), (1, .int i1), (2, .int i2), (3, .int (cm_I w a0 2)), (4, .int (0 : Int32))] [] rfl ?_
    exact jt_276_38  cm_N a0 i1 i2 (cm_I w a0 2) (0 : Int32) w
def fn_276 (a0 : Nat) (i1 : Int32) (i2 : Int32) (w : cm_W) : Option (Int32 × cm_W) := (if cm_sh w a0 = some (.inl 11) then (if cm_w2 96 143 a0 = true then (if ¬ i1 = 0 then fn_276_18  a0 i1 i2 (cm_sL (cm_sL w a0 67 (0 : Int64)) a0 68 (0 : Int64)) else fn_276_38  cm_N a0 i1 i2 (1 : Int32) (0 : Int32) (cm_sL (cm_sL w a0 67 (0 : Int64)) a0 68 (0 : Int64))) else none) else none)
theorem jt_276_0 (a0 : Nat) (i1 : Int32) (i2 : Int32) (w : cm_W) : sm cm_g 276 ck_276 kq_276 0 [(0, .ref a0), (1, .int i1), (2, .int i2)] [] w ((fn_276 a0 i1 i2 w).map cm_gI) := by
  unfold fn_276
  refine sm_seg 2 2 [(0, .ref a0), (1, .int i1), (2, .int i2)] [.long (0 : Int64), .ref a0] rfl ?_
  refine sm_gd fun h41 => ?_
  refine sm_gd fun h42 => ?_
  refine sm_pL rfl h41 rfl h42 rfl ?_
  show sm _ _ _ _ 5 [(0, .ref a0), (1, .int i1), (2, .int i2)] [] _ _
  refine sm_seg 2 7 [(0, .ref a0), (1, .int i1), (2, .int i2)] [.long (0 : Int64), .ref a0] rfl ?_
  refine sm_pL rfl h41 rfl h42 rfl ?_
  show sm _ _ _ _ 10 [(0, .ref a0), (1, .int i1), (2, .int i2)] [] _ _
  refine sm_seg 1 11 [(0, .ref a0), (1, .int i1), (2, .int i2)] [.int i1] rfl ?_
  refine sm_if (pc1 := 18) (lv1 := [(0, .ref a0), (1, .int i1), (2, .int i2)]) (pc2 := 14) (lv2 := [(0, .ref a0), (1, .int i1), (2, .int i2)]) (st1 := []) rfl rfl rfl (fun h43 => ?_) (fun h43 => ?_)
  · exact jt_276_18  a0 i1 i2 (cm_sL (cm_sL w a0 67 (0 : Int64)) a0 68 (0 : Int64))
  · refine sm_seg 5 38 [(0, .ref a0), (1, .int i1), (2, .int i2), (3, .int (1 : Int32)), (4, .int (0 : Int32))] [] rfl ?_
    exact jt_276_38  cm_N a0 i1 i2 (1 : Int32) (0 : Int32) (cm_sL (cm_sL w a0 67 (0 : Int64)) a0 68 (0 : Int64))
theorem ca_276 (a0 : Nat) (i1 : Int32) (i2 : Int32) (w : cm_W) : cm_ca cm_g 276 [.ref a0, .int i1, .int i2] w ((fn_276 a0 i1 i2 w).map cm_gI) := cm_ca_of (cm_me_of rfl rfl) rfl (jt_276_0 a0 i1 i2 w)
-- NailedBoxesModel.isVillage()Z
def fn_277 (w : cm_W) (a0 : Nat) : Option Bool := (if cm_sh w a0 = some (.inl 11) then (if (cm_I w a0 1) ≤ 0 then some false else (if (cm_I w a0 2) ≤ 0 then some false else some true)) else none)
theorem jt_277_0 (w : cm_W) (a0 : Nat) : sm cm_g 277 ck_277 kq_277 0 [(0, .ref a0)] [] w ((fn_277 w a0).map (cm_fB w)) := by
  unfold fn_277
  refine sm_seg 1 1 [(0, .ref a0)] [.ref a0] rfl ?_
  refine sm_gd fun h1 => ?_
  refine sm_gI rfl h1 rfl ?_
  show sm _ _ _ _ 4 [(0, .ref a0)] [.int (cm_I w a0 1)] _ _
  refine sm_if (pc1 := 18) (lv1 := []) (pc2 := 7) (lv2 := [(0, .ref a0)]) (st1 := []) rfl rfl rfl (fun h2 => ?_) (fun h2 => ?_)
  · refine sm_seg 1 19 [] [.int (0 : Int32)] rfl ?_
    exact sm_rB (b := false) rfl rfl
  · refine sm_seg 1 8 [(0, .ref a0)] [.ref a0] rfl ?_
    refine sm_gI rfl h1 rfl ?_
    show sm _ _ _ _ 11 [(0, .ref a0)] [.int (cm_I w a0 2)] _ _
    refine sm_if (pc1 := 18) (lv1 := []) (pc2 := 14) (lv2 := [(0, .ref a0)]) (st1 := []) rfl rfl rfl (fun h3 => ?_) (fun h3 => ?_)
    · refine sm_seg 1 19 [] [.int (0 : Int32)] rfl ?_
      exact sm_rB (b := false) rfl rfl
    · refine sm_seg 2 19 [] [.int (1 : Int32)] rfl ?_
      exact sm_rB (b := true) rfl rfl
theorem ca_277 (w : cm_W) (a0 : Nat) : cm_ca cm_g 277 [.ref a0] w ((fn_277 w a0).map (cm_fB w)) := cm_ca_of (cm_me_of rfl rfl) rfl (jt_277_0 w a0)
-- NailedBoxesModel.lost(II)I
def fn_278 (a0 : Nat) (i1 : Int32) (i2 : Int32) (w : cm_W) : Option (Int32 × cm_W) := (fn_267 w i1).bind fun v1 => (if (cm_b v1) = 0 then some ((-1 : Int32), w) else (fn_226 w i2).bind fun v4 => (if (cm_b v4) = 0 then some ((-1 : Int32), w) else (if cm_sh w a0 = some (.inl 11) then (fn_277 w a0).bind fun v8 => (if (cm_b v8) = 0 then some ((-1 : Int32), w) else (fn_276 a0 i1 i2 w).bind fun v11 => some (v11.1, v11.2)) else none)))
theorem jt_278_0 (a0 : Nat) (i1 : Int32) (i2 : Int32) (w : cm_W) : sm cm_g 278 ck_278 kq_278 0 [(0, .ref a0), (1, .int i1), (2, .int i2)] [] w ((fn_278 a0 i1 i2 w).map cm_gI) := by
  unfold fn_278
  refine sm_seg 1 1 [(0, .ref a0), (1, .int i1), (2, .int i2)] [.int i1] rfl ?_
  refine sm_cS (av := [.int i1]) (rest := []) rfl rfl rfl rfl (Nat.le_of_ble_eq_true rfl) (ca_267 w i1) fun v1 h2 => ?_
  show sm _ _ _ _ 4 [(0, .ref a0), (1, .int i1), (2, .int i2)] [.int (cm_b v1)] _ _
  refine sm_if (pc1 := 30) (lv1 := []) (pc2 := 7) (lv2 := [(0, .ref a0), (1, .int i1), (2, .int i2)]) (st1 := []) rfl rfl rfl (fun h3 => ?_) (fun h3 => ?_)
  · refine sm_seg 1 31 [] [.int (-1 : Int32)] rfl ?_
    exact sm_rIW rfl rfl
  · refine sm_seg 1 8 [(0, .ref a0), (1, .int i1), (2, .int i2)] [.int i2] rfl ?_
    refine sm_cS (av := [.int i2]) (rest := []) rfl rfl rfl rfl (Nat.le_of_ble_eq_true rfl) (ca_226 w i2) fun v4 h5 => ?_
    show sm _ _ _ _ 11 [(0, .ref a0), (1, .int i1), (2, .int i2)] [.int (cm_b v4)] _ _
    refine sm_if (pc1 := 30) (lv1 := []) (pc2 := 14) (lv2 := [(0, .ref a0), (1, .int i1), (2, .int i2)]) (st1 := []) rfl rfl rfl (fun h6 => ?_) (fun h6 => ?_)
    · refine sm_seg 1 31 [] [.int (-1 : Int32)] rfl ?_
      exact sm_rIW rfl rfl
    · refine sm_seg 1 15 [(0, .ref a0), (1, .int i1), (2, .int i2)] [.ref a0] rfl ?_
      refine sm_gd fun h7 => ?_
      refine sm_cV (as := []) (rest := []) rfl rfl rfl rfl h7 (Nat.le_of_ble_eq_true rfl) (ca_277 w a0) fun v8 h9 => ?_
      show sm _ _ _ _ 18 [(0, .ref a0), (1, .int i1), (2, .int i2)] [.int (cm_b v8)] _ _
      refine sm_if (pc1 := 30) (lv1 := []) (pc2 := 21) (lv2 := [(0, .ref a0), (1, .int i1), (2, .int i2)]) (st1 := []) rfl rfl rfl (fun h10 => ?_) (fun h10 => ?_)
      · refine sm_seg 1 31 [] [.int (-1 : Int32)] rfl ?_
        exact sm_rIW rfl rfl
      · refine sm_seg 3 24 [(0, .ref a0), (1, .int i1), (2, .int i2)] [.int i2, .int i1, .ref a0] rfl ?_
        refine sm_cV (as := [.int i1, .int i2]) (rest := []) rfl rfl rfl rfl h7 (Nat.le_of_ble_eq_true rfl) (ca_276  a0 i1 i2 w) fun v11 h12 => ?_
        show sm _ _ _ _ 27 [(0, .ref a0), (1, .int i1), (2, .int i2)] [.int v11.1] _ _
        refine sm_seg 1 31 [] [.int v11.1] rfl ?_
        exact sm_rIW rfl rfl
theorem ca_278 (a0 : Nat) (i1 : Int32) (i2 : Int32) (w : cm_W) : cm_ca cm_g 278 [.ref a0, .int i1, .int i2] w ((fn_278 a0 i1 i2 w).map cm_gI) := cm_ca_of (cm_me_of rfl rfl) rfl (jt_278_0 a0 i1 i2 w)
-- NailedBoxesModel.law(I)I
def fn_279_42 (k_20 : Nat → Int32 → Int32 → Int32 → cm_W → Option (Int32 × cm_W)) (a0 : Nat) (i1 : Int32) (i2 : Int32) (i3 : Int32) (w : cm_W) : Option (Int32 × cm_W) := k_20 a0 i1 i2 (i3 + (1 : Int32)) w
theorem jt_279_42 (k_20 : Nat → Int32 → Int32 → Int32 → cm_W → Option (Int32 × cm_W)) (hk_20 : ∀ (a0 : Nat) (i1 : Int32) (i2 : Int32) (i3 : Int32) (w : cm_W), sm cm_g 279 ck_279 kq_279 20 [(0, .ref a0), (1, .int i1), (2, .int i2), (3, .int i3)] [] w ((k_20 a0 i1 i2 i3 w).map cm_gI)) (a0 : Nat) (i1 : Int32) (i2 : Int32) (i3 : Int32) (w : cm_W) : sm cm_g 279 ck_279 kq_279 42 [(0, .ref a0), (1, .int i1), (2, .int i2), (3, .int i3)] [] w ((fn_279_42 k_20 a0 i1 i2 i3 w).map cm_gI) := by
  unfold fn_279_42
  refine sm_seg 2 20 [(0, .ref a0), (1, .int i1), (2, .int i2), (3, .int (i3 + (1 : Int32)))] [] rfl ?_
  exact hk_20 a0 i1 i2 (i3 + (1 : Int32)) w
def fn_279_20 : Nat → Nat → Int32 → Int32 → Int32 → cm_W → Option (Int32 × cm_W)
  | 0, _, _, _, _, _ => none
  | n + 1, a0, i1, i2, i3, w => (if (4 : Int32) ≤ i3 then some (i2, w) else (if cm_sh w a0 = some (.inl 11) then (fn_276 a0 i3 i1 w).bind fun v3 => (if cm_sh v3.2 a0 = some (.inl 11) then (fn_276 a0 i2 i1 v3.2).bind fun v6 => (if v6.1 ≤ v3.1 then fn_279_42  (fn_279_20 n) a0 i1 i2 i3 v6.2 else fn_279_42  (fn_279_20 n) a0 i1 i3 i3 v6.2) else none) else none))
theorem jt_279_20 : ∀ (n : Nat) (a0 : Nat) (i1 : Int32) (i2 : Int32) (i3 : Int32) (w : cm_W), sm cm_g 279 ck_279 kq_279 20 [(0, .ref a0), (1, .int i1), (2, .int i2), (3, .int i3)] [] w ((fn_279_20 n a0 i1 i2 i3 w).map cm_gI) := by
  intro n
  induction n with
  | zero => intro a0 i1 i2 i3 w; exact sm_no
  | succ n ih =>
    intro a0 i1 i2 i3 w
    rw [fn_279_20]
    refine sm_seg 2 22 [(0, .ref a0), (1, .int i1), (2, .int i2), (3, .int i3)] [.int (4 : Int32), .int i3] rfl ?_
    refine sm_if (pc1 := 48) (lv1 := [(2, .int i2)]) (pc2 := 25) (lv2 := [(0, .ref a0), (1, .int i1), (2, .int i2), (3, .int i3)]) (st1 := []) rfl rfl rfl (fun h1 => ?_) (fun h1 => ?_)
    · refine sm_seg 1 49 [(2, .int i2)] [.int i2] rfl ?_
      exact sm_rIW rfl rfl
    · refine sm_seg 3 28 [(0, .ref a0), (1, .int i1), (2, .int i2), (3, .int i3)] [.int i1, .int i3, .ref a0] rfl ?_
      refine sm_gd fun h2 => ?_
      refine sm_cV (as := [.int i3, .int i1]) (rest := []) rfl rfl rfl rfl h2 (Nat.le_of_ble_eq_true rfl) (ca_276  a0 i3 i1 w) fun v3 h4 => ?_
      show sm _ _ _ _ 31 [(0, .ref a0), (1, .int i1), (2, .int i2), (3, .int i3)] [.int v3.1] _ _
      refine sm_seg 3 34 [(0, .ref a0), (1, .int i1), (2, .int i2), (3, .int i3)] [.int i1, .int i2, .ref a0, .int v3.1] rfl ?_
      refine sm_gd fun h5 => ?_
      refine sm_cV (as := [.int i2, .int i1]) (rest := [.int v3.1]) rfl rfl rfl rfl h5 (Nat.le_of_ble_eq_true rfl) (ca_276  a0 i2 i1 v3.2) fun v6 h7 => ?_
      show sm _ _ _ _ 37 [(0, .ref a0), (1, .int i1), (2, .int i2), (3, .int i3)] [.int v6.1, .int v3.1] _ _
      refine sm_if (pc1 := 42) (lv1 := [(0, .ref a0), (1, .int i1), (2, .int i2), (3, .int i3)]) (pc2 := 40) (lv2 := [(0, .ref a0), (1, .int i1), (2, .int i2), (3, .int i3)]) (st1 := []) rfl rfl rfl (fun h8 => ?_) (fun h8 => ?_)
      · exact jt_279_42  (fn_279_20 n) ih a0 i1 i2 i3 v6.2
      · refine sm_seg 2 42 [(0, .ref a0), (1, .int i1), (2, .int i3), (3, .int i3)] [] rfl ?_
        exact jt_279_42  (fn_279_20 n) ih a0 i1 i3 i3 v6.2
def fn_279_16 (a0 : Nat) (i1 : Int32) (w : cm_W) : Option (Int32 × cm_W) := fn_279_20  cm_N a0 i1 (0 : Int32) (1 : Int32) w
theorem jt_279_16 (a0 : Nat) (i1 : Int32) (w : cm_W) : sm cm_g 279 ck_279 kq_279 16 [(0, .ref a0), (1, .int i1)] [] w ((fn_279_16 a0 i1 w).map cm_gI) := by
  unfold fn_279_16
  refine sm_seg 4 20 [(0, .ref a0), (1, .int i1), (2, .int (0 : Int32)), (3, .int (1 : Int32))] [] rfl ?_
  exact jt_279_20  cm_N a0 i1 (0 : Int32) (1 : Int32) w
def fn_279 (a0 : Nat) (i1 : Int32) (w : cm_W) : Option (Int32 × cm_W) := (fn_226 w i1).bind fun v9 => (if (cm_b v9) = 0 then some ((-1 : Int32), w) else (if cm_sh w a0 = some (.inl 11) then (fn_277 w a0).bind fun v13 => (if ¬ (cm_b v13) = 0 then fn_279_16  a0 i1 w else some ((-1 : Int32), w)) else none))
theorem jt_279_0 (a0 : Nat) (i1 : Int32) (w : cm_W) : sm cm_g 279 ck_279 kq_279 0 [(0, .ref a0), (1, .int i1)] [] w ((fn_279 a0 i1 w).map cm_gI) := by
  unfold fn_279
  refine sm_seg 1 1 [(0, .ref a0), (1, .int i1)] [.int i1] rfl ?_
  refine sm_cS (av := [.int i1]) (rest := []) rfl rfl rfl rfl (Nat.le_of_ble_eq_true rfl) (ca_226 w i1) fun v9 h10 => ?_
  show sm _ _ _ _ 4 [(0, .ref a0), (1, .int i1)] [.int (cm_b v9)] _ _
  refine sm_if (pc1 := 14) (lv1 := []) (pc2 := 7) (lv2 := [(0, .ref a0), (1, .int i1)]) (st1 := []) rfl rfl rfl (fun h11 => ?_) (fun h11 => ?_)
  · refine sm_seg 1 15 [] [.int (-1 : Int32)] rfl ?_
    exact sm_rIW rfl rfl
  · refine sm_seg 1 8 [(0, .ref a0), (1, .int i1)] [.ref a0] rfl ?_
    refine sm_gd fun h12 => ?_
    refine sm_cV (as := []) (rest := []) rfl rfl rfl rfl h12 (Nat.le_of_ble_eq_true rfl) (ca_277 w a0) fun v13 h14 => ?_
    show sm _ _ _ _ 11 [(0, .ref a0), (1, .int i1)] [.int (cm_b v13)] _ _
    refine sm_if (pc1 := 16) (lv1 := [(0, .ref a0), (1, .int i1)]) (pc2 := 14) (lv2 := []) (st1 := []) rfl rfl rfl (fun h15 => ?_) (fun h15 => ?_)
    · exact jt_279_16  a0 i1 w
    · refine sm_seg 1 15 [] [.int (-1 : Int32)] rfl ?_
      exact sm_rIW rfl rfl
theorem ca_279 (a0 : Nat) (i1 : Int32) (w : cm_W) : cm_ca cm_g 279 [.ref a0, .int i1] w ((fn_279 a0 i1 w).map cm_gI) := cm_ca_of (cm_me_of rfl rfl) rfl (jt_279_0 a0 i1 w)
-- NailedBoxesModel.ownRest(II)I
def fn_280 (a0 : Nat) (i1 : Int32) (i2 : Int32) (w : cm_W) : Option (Int32 × cm_W) := (if cm_sh w a0 = some (.inl 11) then (fn_269 a0 (1 : Int32) i1 (0 : Int32) w).bind fun w2 => (if cm_sh w2 a0 = some (.inl 11) then (fn_272 a0 i2 w2).bind fun v5 => some (v5.1, v5.2) else none) else none)
theorem jt_280_0 (a0 : Nat) (i1 : Int32) (i2 : Int32) (w : cm_W) : sm cm_g 280 ck_280 kq_280 0 [(0, .ref a0), (1, .int i1), (2, .int i2)] [] w ((fn_280 a0 i1 i2 w).map cm_gI) := by
  unfold fn_280
  refine sm_seg 4 4 [(0, .ref a0), (1, .int i1), (2, .int i2)] [.int (0 : Int32), .int i1, .int (1 : Int32), .ref a0] rfl ?_
  refine sm_gd fun h1 => ?_
  refine sm_cV (as := [.int (1 : Int32), .int i1, .int (0 : Int32)]) (rest := []) rfl rfl rfl rfl h1 (Nat.le_of_ble_eq_true rfl) (ca_269  a0 (1 : Int32) i1 (0 : Int32) w) fun w2 h3 => ?_
  show sm _ _ _ _ 7 [(0, .ref a0), (1, .int i1), (2, .int i2)] [] _ _
  refine sm_seg 2 9 [(0, .ref a0), (1, .int i1), (2, .int i2)] [.int i2, .ref a0] rfl ?_
  refine sm_gd fun h4 => ?_
  refine sm_cV (as := [.int i2]) (rest := []) rfl rfl rfl rfl h4 (Nat.le_of_ble_eq_true rfl) (ca_272  a0 i2 w2) fun v5 h6 => ?_
  show sm _ _ _ _ 12 [(0, .ref a0), (1, .int i1), (2, .int i2)] [.int v5.1] _ _
  exact sm_rIW rfl rfl
theorem ca_280 (a0 : Nat) (i1 : Int32) (i2 : Int32) (w : cm_W) : cm_ca cm_g 280 [.ref a0, .int i1, .int i2] w ((fn_280 a0 i1 i2 w).map cm_gI) := cm_ca_of (cm_me_of rfl rfl) rfl (jt_280_0 a0 i1 i2 w)
