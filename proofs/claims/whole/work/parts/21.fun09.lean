-- NailedBoxesModel.back(I)Z
def fn_298_20 (a0 : Nat) (i1 : Int32) (w : cm_W) : Option (Bool × cm_W) := (if cm_sh w a0 = some (.inl 11) then (if cm_w2 96 143 a0 = true then (cm_R (cm_sI w a0 74 ((3200 : Int32) * i1)) a0 77).bind fun r3 => (if cm_ga w .long r3 i1 = true then (cm_R (cm_sL (cm_sI w a0 74 ((3200 : Int32) * i1)) a0 71 (cm_L (cm_sI w a0 74 ((3200 : Int32) * i1)) r3 i1.toNatClampNeg)) a0 76).bind fun r6 => (fn_296 a0 r6 (5 : Int32) (cm_sL (cm_sI w a0 74 ((3200 : Int32) * i1)) a0 71 (cm_L (cm_sI w a0 74 ((3200 : Int32) * i1)) r3 i1.toNatClampNeg))).bind fun w8 => (if cm_sh w8 a0 = some (.inl 11) then (cm_R w8 a0 76).bind fun r11 => (if cm_ga w8 .int r11 (0 : Int32) = true then (if cm_w2 96 143 a0 = true then (cm_R (cm_sI w8 a0 8 (cm_I w8 r11 (0 : Int32).toNatClampNeg)) a0 76).bind fun r15 => (if cm_ga w8 .int r15 (1 : Int32) = true then (cm_R (cm_sI (cm_sI w8 a0 8 (cm_I w8 r11 (0 : Int32).toNatClampNeg)) a0 38 (cm_I (cm_sI w8 a0 8 (cm_I w8 r11 (0 : Int32).toNatClampNeg)) r15 (1 : Int32).toNatClampNeg)) a0 76).bind fun r18 => (if cm_ga w8 .int r18 (2 : Int32) = true then (cm_R (cm_sI (cm_sI (cm_sI w8 a0 8 (cm_I w8 r11 (0 : Int32).toNatClampNeg)) a0 38 (cm_I (cm_sI w8 a0 8 (cm_I w8 r11 (0 : Int32).toNatClampNeg)) r15 (1 : Int32).toNatClampNeg)) a0 39 (cm_I (cm_sI (cm_sI w8 a0 8 (cm_I w8 r11 (0 : Int32).toNatClampNeg)) a0 38 (cm_I (cm_sI w8 a0 8 (cm_I w8 r11 (0 : Int32).toNatClampNeg)) r15 (1 : Int32).toNatClampNeg)) r18 (2 : Int32).toNatClampNeg)) a0 76).bind fun r21 => (if cm_ga w8 .int r21 (3 : Int32) = true then (cm_R (cm_sI (cm_sI (cm_sI (cm_sI w8 a0 8 (cm_I w8 r11 (0 : Int32).toNatClampNeg)) a0 38 (cm_I (cm_sI w8 a0 8 (cm_I w8 r11 (0 : Int32).toNatClampNeg)) r15 (1 : Int32).toNatClampNeg)) a0 39 (cm_I (cm_sI (cm_sI w8 a0 8 (cm_I w8 r11 (0 : Int32).toNatClampNeg)) a0 38 (cm_I (cm_sI w8 a0 8 (cm_I w8 r11 (0 : Int32).toNatClampNeg)) r15 (1 : Int32).toNatClampNeg)) r18 (2 : Int32).toNatClampNeg)) a0 51 (cm_I (cm_sI (cm_sI (cm_sI w8 a0 8 (cm_I w8 r11 (0 : Int32).toNatClampNeg)) a0 38 (cm_I (cm_sI w8 a0 8 (cm_I w8 r11 (0 : Int32).toNatClampNeg)) r15 (1 : Int32).toNatClampNeg)) a0 39 (cm_I (cm_sI (cm_sI w8 a0 8 (cm_I w8 r11 (0 : Int32).toNatClampNeg)) a0 38 (cm_I (cm_sI w8 a0 8 (cm_I w8 r11 (0 : Int32).toNatClampNeg)) r15 (1 : Int32).toNatClampNeg)) r18 (2 : Int32).toNatClampNeg)) r21 (3 : Int32).toNatClampNeg)) a0 76).bind fun r24 => (if cm_ga w8 .int r24 (4 : Int32) = true then (cm_R (cm_sI (cm_sI (cm_sI (cm_sI (cm_sI w8 a0 8 (cm_I w8 r11 (0 : Int32).toNatClampNeg)) a0 38 (cm_I (cm_sI w8 a0 8 (cm_I w8 r11 (0 : Int32).toNatClampNeg)) r15 (1 : Int32).toNatClampNeg)) a0 39 (cm_I (cm_sI (cm_sI w8 a0 8 (cm_I w8 r11 (0 : Int32).toNatClampNeg)) a0 38 (cm_I (cm_sI w8 a0 8 (cm_I w8 r11 (0 : Int32).toNatClampNeg)) r15 (1 : Int32).toNatClampNeg)) r18 (2 : Int32).toNatClampNeg)) a0 51 (cm_I (cm_sI (cm_sI (cm_sI w8 a0 8 (cm_I w8 r11 (0 : Int32).toNatClampNeg)) a0 38 (cm_I (cm_sI w8 a0 8 (cm_I w8 r11 (0 : Int32).toNatClampNeg)) r15 (1 : Int32).toNatClampNeg)) a0 39 (cm_I (cm_sI (cm_sI w8 a0 8 (cm_I w8 r11 (0 : Int32).toNatClampNeg)) a0 38 (cm_I (cm_sI w8 a0 8 (cm_I w8 r11 (0 : Int32).toNatClampNeg)) r15 (1 : Int32).toNatClampNeg)) r18 (2 : Int32).toNatClampNeg)) r21 (3 : Int32).toNatClampNeg)) a0 58 (cm_I (cm_sI (cm_sI (cm_sI (cm_sI w8 a0 8 (cm_I w8 r11 (0 : Int32).toNatClampNeg)) a0 38 (cm_I (cm_sI w8 a0 8 (cm_I w8 r11 (0 : Int32).toNatClampNeg)) r15 (1 : Int32).toNatClampNeg)) a0 39 (cm_I (cm_sI (cm_sI w8 a0 8 (cm_I w8 r11 (0 : Int32).toNatClampNeg)) a0 38 (cm_I (cm_sI w8 a0 8 (cm_I w8 r11 (0 : Int32).toNatClampNeg)) r15 (1 : Int32).toNatClampNeg)) r18 (2 : Int32).toNatClampNeg)) a0 51 (cm_I (cm_sI (cm_sI (cm_sI w8 a0 8 (cm_I w8 r11 (0 : Int32).toNatClampNeg)) a0 38 (cm_I (cm_sI w8 a0 8 (cm_I w8 r11 (0 : Int32).toNatClampNeg)) r15 (1 : Int32).toNatClampNeg)) a0 39 (cm_I (cm_sI (cm_sI w8 a0 8 (cm_I w8 r11 (0 : Int32).toNatClampNeg)) a0 38 (cm_I (cm_sI w8 a0 8 (cm_I w8 r11 (0 : Int32).toNatClampNeg)) r15 (1 : Int32).toNatClampNeg)) r18 (2 : Int32).toNatClampNeg)) r21 (3 : Int32).toNatClampNeg)) r24 (4 : Int32).toNatClampNeg)) a0 27).bind fun r27 => (fn_296 a0 r27 (12 : Int32) (cm_sI (cm_sI (cm_sI (cm_sI (cm_sI w8 a0 8 (cm_I w8 r11 (0 : Int32).toNatClampNeg)) a0 38 (cm_I (cm_sI w8 a0 8 (cm_I w8 r11 (0 : Int32).toNatClampNeg)) r15 (1 : Int32).toNatClampNeg)) a0 39 (cm_I (cm_sI (cm_sI w8 a0 8 (cm_I w8 r11 (0 : Int32).toNatClampNeg)) a0 38 (cm_I (cm_sI w8 a0 8 (cm_I w8 r11 (0 : Int32).toNatClampNeg)) r15 (1 : Int32).toNatClampNeg)) r18 (2 : Int32).toNatClampNeg)) a0 51 (cm_I (cm_sI (cm_sI (cm_sI w8 a0 8 (cm_I w8 r11 (0 : Int32).toNatClampNeg)) a0 38 (cm_I (cm_sI w8 a0 8 (cm_I w8 r11 (0 : Int32).toNatClampNeg)) r15 (1 : Int32).toNatClampNeg)) a0 39 (cm_I (cm_sI (cm_sI w8 a0 8 (cm_I w8 r11 (0 : Int32).toNatClampNeg)) a0 38 (cm_I (cm_sI w8 a0 8 (cm_I w8 r11 (0 : Int32).toNatClampNeg)) r15 (1 : Int32).toNatClampNeg)) r18 (2 : Int32).toNatClampNeg)) r21 (3 : Int32).toNatClampNeg)) a0 58 (cm_I (cm_sI (cm_sI (cm_sI (cm_sI w8 a0 8 (cm_I w8 r11 (0 : Int32).toNatClampNeg)) a0 38 (cm_I (cm_sI w8 a0 8 (cm_I w8 r11 (0 : Int32).toNatClampNeg)) r15 (1 : Int32).toNatClampNeg)) a0 39 (cm_I (cm_sI (cm_sI w8 a0 8 (cm_I w8 r11 (0 : Int32).toNatClampNeg)) a0 38 (cm_I (cm_sI w8 a0 8 (cm_I w8 r11 (0 : Int32).toNatClampNeg)) r15 (1 : Int32).toNatClampNeg)) r18 (2 : Int32).toNatClampNeg)) a0 51 (cm_I (cm_sI (cm_sI (cm_sI w8 a0 8 (cm_I w8 r11 (0 : Int32).toNatClampNeg)) a0 38 (cm_I (cm_sI w8 a0 8 (cm_I w8 r11 (0 : Int32).toNatClampNeg)) r15 (1 : Int32).toNatClampNeg)) a0 39 (cm_I (cm_sI (cm_sI w8 a0 8 (cm_I w8 r11 (0 : Int32).toNatClampNeg)) a0 38 (cm_I (cm_sI w8 a0 8 (cm_I w8 r11 (0 : Int32).toNatClampNeg)) r15 (1 : Int32).toNatClampNeg)) r18 (2 : Int32).toNatClampNeg)) r21 (3 : Int32).toNatClampNeg)) r24 (4 : Int32).toNatClampNeg))).bind fun w29 => (if cm_sh w29 a0 = some (.inl 11) then (cm_R w29 a0 40).bind fun r32 => (fn_296 a0 r32 (40 : Int32) w29).bind fun w34 => (if cm_sh w34 a0 = some (.inl 11) then (cm_R w34 a0 41).bind fun r37 => (fn_296 a0 r37 (40 : Int32) w34).bind fun w39 => (if cm_sh w39 a0 = some (.inl 11) then (cm_R w39 a0 42).bind fun r42 => (fn_296 a0 r42 (40 : Int32) w39).bind fun w44 => (if cm_sh w44 a0 = some (.inl 11) then (cm_R w44 a0 43).bind fun r47 => (fn_296 a0 r47 (40 : Int32) w44).bind fun w49 => (if cm_sh w49 a0 = some (.inl 11) then (cm_R w49 a0 44).bind fun r52 => (fn_296 a0 r52 (40 : Int32) w49).bind fun w54 => (if cm_sh w54 a0 = some (.inl 11) then (cm_R w54 a0 45).bind fun r57 => (fn_296 a0 r57 (40 : Int32) w54).bind fun w59 => (if cm_sh w59 a0 = some (.inl 11) then (cm_R w59 a0 46).bind fun r62 => (fn_296 a0 r62 (40 : Int32) w59).bind fun w64 => (if cm_sh w64 a0 = some (.inl 11) then (cm_R w64 a0 47).bind fun r67 => (fn_296 a0 r67 (480 : Int32) w64).bind fun w69 => (if cm_sh w69 a0 = some (.inl 11) then (cm_R w69 a0 48).bind fun r72 => (fn_296 a0 r72 (2100 : Int32) w69).bind fun w74 => (if cm_sh w74 a0 = some (.inl 11) then (cm_R w74 a0 52).bind fun r77 => (fn_296 a0 r77 (20 : Int32) w74).bind fun w79 => (if cm_sh w79 a0 = some (.inl 11) then (cm_R w79 a0 53).bind fun r82 => (fn_296 a0 r82 (20 : Int32) w79).bind fun w84 => (if cm_sh w84 a0 = some (.inl 11) then (cm_R w84 a0 54).bind fun r87 => (fn_296 a0 r87 (20 : Int32) w84).bind fun w89 => (if cm_sh w89 a0 = some (.inl 11) then (cm_R w89 a0 55).bind fun r92 => (fn_296 a0 r92 (20 : Int32) w89).bind fun w94 => (if cm_sh w94 a0 = some (.inl 11) then (cm_R w94 a0 56).bind fun r97 => (fn_296 a0 r97 (20 : Int32) w94).bind fun w99 => (if cm_sh w99 a0 = some (.inl 11) then (cm_R w99 a0 57).bind fun r102 => (fn_296 a0 r102 (20 : Int32) w99).bind fun w104 => (if cm_sh w104 a0 = some (.inl 11) then (cm_R w104 a0 59).bind fun r107 => (fn_296 a0 r107 (40 : Int32) w104).bind fun w109 => (if cm_sh w109 a0 = some (.inl 11) then (cm_R w109 a0 60).bind fun r112 => (fn_296 a0 r112 (40 : Int32) w109).bind fun w114 => (if cm_sh w114 a0 = some (.inl 11) then (cm_R w114 a0 61).bind fun r117 => (fn_296 a0 r117 (40 : Int32) w114).bind fun w119 => (if cm_sh w119 a0 = some (.inl 11) then (cm_R w119 a0 62).bind fun r122 => (fn_296 a0 r122 (40 : Int32) w119).bind fun w124 => some (true, w124) else none) else none) else none) else none) else none) else none) else none) else none) else none) else none) else none) else none) else none) else none) else none) else none) else none) else none) else none) else none) else none) else none) else none) else none) else none) else none) else none) else none) else none)
theorem jt_298_20 (a0 : Nat) (i1 : Int32) (w : cm_W) : sm cm_g 298 ck_298 kq_298 20 [(0, .ref a0), (1, .int i1)] [] w ((fn_298_20 a0 i1 w).map cm_gB) := by
  unfold fn_298_20
  refine sm_seg 4 26 [(0, .ref a0), (1, .int i1)] [.int ((3200 : Int32) * i1), .ref a0] rfl ?_
  refine sm_gd fun h1 => ?_
  refine sm_gd fun h2 => ?_
  refine sm_pI rfl h1 rfl h2 rfl ?_
  show sm _ _ _ _ 29 [(0, .ref a0), (1, .int i1)] [] _ _
  refine sm_seg 2 31 [(0, .ref a0), (1, .int i1)] [.ref a0, .ref a0] rfl ?_
  refine sm_gR rfl h1 rfl rfl fun r3 h4 => ?_
  show sm _ _ _ _ 34 [(0, .ref a0), (1, .int i1)] [.ref r3, .ref a0] _ _
  refine sm_seg 1 35 [(0, .ref a0), (1, .int i1)] [.int i1, .ref r3, .ref a0] rfl ?_
  refine sm_gd fun h5 => ?_
  refine sm_al rfl h5 rfl ?_
  show sm _ _ _ _ 36 [(0, .ref a0), (1, .int i1)] [.long (cm_L (cm_sI w a0 74 ((3200 : Int32) * i1)) r3 i1.toNatClampNeg), .ref a0] _ _
  refine sm_pL rfl h1 rfl h2 rfl ?_
  show sm _ _ _ _ 39 [(0, .ref a0), (1, .int i1)] [] _ _
  refine sm_seg 2 41 [(0, .ref a0), (1, .int i1)] [.ref a0, .ref a0] rfl ?_
  refine sm_gR rfl h1 rfl rfl fun r6 h7 => ?_
  show sm _ _ _ _ 44 [(0, .ref a0), (1, .int i1)] [.ref r6, .ref a0] _ _
  refine sm_seg 1 45 [(0, .ref a0), (1, .int i1)] [.int (5 : Int32), .ref r6, .ref a0] rfl ?_
  refine sm_cV (as := [.ref r6, .int (5 : Int32)]) (rest := []) rfl rfl rfl rfl h1 (Nat.le_of_ble_eq_true rfl) (ca_296  a0 r6 (5 : Int32) (cm_sL (cm_sI w a0 74 ((3200 : Int32) * i1)) a0 71 (cm_L (cm_sI w a0 74 ((3200 : Int32) * i1)) r3 i1.toNatClampNeg))) fun w8 h9 => ?_
  show sm _ _ _ _ 48 [(0, .ref a0), (1, .int i1)] [] _ _
  refine sm_seg 2 50 [(0, .ref a0), (1, .int i1)] [.ref a0, .ref a0] rfl ?_
  refine sm_gd fun h10 => ?_
  refine sm_gR rfl h10 rfl rfl fun r11 h12 => ?_
  show sm _ _ _ _ 53 [(0, .ref a0), (1, .int i1)] [.ref r11, .ref a0] _ _
  refine sm_seg 1 54 [(0, .ref a0), (1, .int i1)] [.int (0 : Int32), .ref r11, .ref a0] rfl ?_
  refine sm_gd fun h13 => ?_
  refine sm_ai rfl h13 rfl ?_
  show sm _ _ _ _ 55 [(0, .ref a0), (1, .int i1)] [.int (cm_I w8 r11 (0 : Int32).toNatClampNeg), .ref a0] _ _
  refine sm_gd fun h14 => ?_
  refine sm_pI rfl h10 rfl h14 rfl ?_
  show sm _ _ _ _ 58 [(0, .ref a0), (1, .int i1)] [] _ _
  refine sm_seg 2 60 [(0, .ref a0), (1, .int i1)] [.ref a0, .ref a0] rfl ?_
  refine sm_gR rfl h10 rfl rfl fun r15 h16 => ?_
  show sm _ _ _ _ 63 [(0, .ref a0), (1, .int i1)] [.ref r15, .ref a0] _ _
  refine sm_seg 1 64 [(0, .ref a0), (1, .int i1)] [.int (1 : Int32), .ref r15, .ref a0] rfl ?_
  refine sm_gd fun h17 => ?_
  refine sm_ai rfl h17 rfl ?_
  show sm _ _ _ _ 65 [(0, .ref a0), (1, .int i1)] [.int (cm_I (cm_sI w8 a0 8 (cm_I w8 r11 (0 : Int32).toNatClampNeg)) r15 (1 : Int32).toNatClampNeg), .ref a0] _ _
  refine sm_pI rfl h10 rfl h14 rfl ?_
  show sm _ _ _ _ 68 [(0, .ref a0), (1, .int i1)] [] _ _
  refine sm_seg 2 70 [(0, .ref a0), (1, .int i1)] [.ref a0, .ref a0] rfl ?_
  refine sm_gR rfl h10 rfl rfl fun r18 h19 => ?_
  show sm _ _ _ _ 73 [(0, .ref a0), (1, .int i1)] [.ref r18, .ref a0] _ _
  refine sm_seg 1 74 [(0, .ref a0), (1, .int i1)] [.int (2 : Int32), .ref r18, .ref a0] rfl ?_
  refine sm_gd fun h20 => ?_
  refine sm_ai rfl h20 rfl ?_
  show sm _ _ _ _ 75 [(0, .ref a0), (1, .int i1)] [.int (cm_I (cm_sI (cm_sI w8 a0 8 (cm_I w8 r11 (0 : Int32).toNatClampNeg)) a0 38 (cm_I (cm_sI w8 a0 8 (cm_I w8 r11 (0 : Int32).toNatClampNeg)) r15 (1 : Int32).toNatClampNeg)) r18 (2 : Int32).toNatClampNeg), .ref a0] _ _
  refine sm_pI rfl h10 rfl h14 rfl ?_
  show sm _ _ _ _ 78 [(0, .ref a0), (1, .int i1)] [] _ _
  refine sm_seg 2 80 [(0, .ref a0), (1, .int i1)] [.ref a0, .ref a0] rfl ?_
  refine sm_gR rfl h10 rfl rfl fun r21 h22 => ?_
  show sm _ _ _ _ 83 [(0, .ref a0), (1, .int i1)] [.ref r21, .ref a0] _ _
  refine sm_seg 1 84 [(0, .ref a0), (1, .int i1)] [.int (3 : Int32), .ref r21, .ref a0] rfl ?_
  refine sm_gd fun h23 => ?_
  refine sm_ai rfl h23 rfl ?_
  show sm _ _ _ _ 85 [(0, .ref a0), (1, .int i1)] [.int (cm_I (cm_sI (cm_sI (cm_sI w8 a0 8 (cm_I w8 r11 (0 : Int32).toNatClampNeg)) a0 38 (cm_I (cm_sI w8 a0 8 (cm_I w8 r11 (0 : Int32).toNatClampNeg)) r15 (1 : Int32).toNatClampNeg)) a0 39 (cm_I (cm_sI (cm_sI w8 a0 8 (cm_I w8 r11 (0 : Int32).toNatClampNeg)) a0 38 (cm_I (cm_sI w8 a0 8 (cm_I w8 r11 (0 : Int32).toNatClampNeg)) r15 (1 : Int32).toNatClampNeg)) r18 (2 : Int32).toNatClampNeg)) r21 (3 : Int32).toNatClampNeg), .ref a0] _ _
  refine sm_pI rfl h10 rfl h14 rfl ?_
  show sm _ _ _ _ 88 [(0, .ref a0), (1, .int i1)] [] _ _
  refine sm_seg 2 90 [(0, .ref a0), (1, .int i1)] [.ref a0, .ref a0] rfl ?_
  refine sm_gR rfl h10 rfl rfl fun r24 h25 => ?_
  show sm _ _ _ _ 93 [(0, .ref a0), (1, .int i1)] [.ref r24, .ref a0] _ _
  refine sm_seg 1 94 [(0, .ref a0), (1, .int i1)] [.int (4 : Int32), .ref r24, .ref a0] rfl ?_
  refine sm_gd fun h26 => ?_
  refine sm_ai rfl h26 rfl ?_
  show sm _ _ _ _ 95 [(0, .ref a0), (1, .int i1)] [.int (cm_I (cm_sI (cm_sI (cm_sI (cm_sI w8 a0 8 (cm_I w8 r11 (0 : Int32).toNatClampNeg)) a0 38 (cm_I (cm_sI w8 a0 8 (cm_I w8 r11 (0 : Int32).toNatClampNeg)) r15 (1 : Int32).toNatClampNeg)) a0 39 (cm_I (cm_sI (cm_sI w8 a0 8 (cm_I w8 r11 (0 : Int32).toNatClampNeg)) a0 38 (cm_I (cm_sI w8 a0 8 (cm_I w8 r11 (0 : Int32).toNatClampNeg)) r15 (1 : Int32).toNatClampNeg)) r18 (2 : Int32).toNatClampNeg)) a0 51 (cm_I (cm_sI (cm_sI (cm_sI w8 a0 8 (cm_I w8 r11 (0 : Int32).toNatClampNeg)) a0 38 (cm_I (cm_sI w8 a0 8 (cm_I w8 r11 (0 : Int32).toNatClampNeg)) r15 (1 : Int32).toNatClampNeg)) a0 39 (cm_I (cm_sI (cm_sI w8 a0 8 (cm_I w8 r11 (0 : Int32).toNatClampNeg)) a0 38 (cm_I (cm_sI w8 a0 8 (cm_I w8 r11 (0 : Int32).toNatClampNeg)) r15 (1 : Int32).toNatClampNeg)) r18 (2 : Int32).toNatClampNeg)) r21 (3 : Int32).toNatClampNeg)) r24 (4 : Int32).toNatClampNeg), .ref a0] _ _
  refine sm_pI rfl h10 rfl h14 rfl ?_
  show sm _ _ _ _ 98 [(0, .ref a0), (1, .int i1)] [] _ _
  refine sm_seg 2 100 [(0, .ref a0), (1, .int i1)] [.ref a0, .ref a0] rfl ?_
  refine sm_gR rfl h10 rfl rfl fun r27 h28 => ?_
  show sm _ _ _ _ 103 [(0, .ref a0), (1, .int i1)] [.ref r27, .ref a0] _ _
  refine sm_seg 1 105 [(0, .ref a0), (1, .int i1)] [.int (12 : Int32), .ref r27, .ref a0] rfl ?_
  refine sm_cV (as := [.ref r27, .int (12 : Int32)]) (rest := []) rfl rfl rfl rfl h10 (Nat.le_of_ble_eq_true rfl) (ca_296  a0 r27 (12 : Int32) (cm_sI (cm_sI (cm_sI (cm_sI (cm_sI w8 a0 8 (cm_I w8 r11 (0 : Int32).toNatClampNeg)) a0 38 (cm_I (cm_sI w8 a0 8 (cm_I w8 r11 (0 : Int32).toNatClampNeg)) r15 (1 : Int32).toNatClampNeg)) a0 39 (cm_I (cm_sI (cm_sI w8 a0 8 (cm_I w8 r11 (0 : Int32).toNatClampNeg)) a0 38 (cm_I (cm_sI w8 a0 8 (cm_I w8 r11 (0 : Int32).toNatClampNeg)) r15 (1 : Int32).toNatClampNeg)) r18 (2 : Int32).toNatClampNeg)) a0 51 (cm_I (cm_sI (cm_sI (cm_sI w8 a0 8 (cm_I w8 r11 (0 : Int32).toNatClampNeg)) a0 38 (cm_I (cm_sI w8 a0 8 (cm_I w8 r11 (0 : Int32).toNatClampNeg)) r15 (1 : Int32).toNatClampNeg)) a0 39 (cm_I (cm_sI (cm_sI w8 a0 8 (cm_I w8 r11 (0 : Int32).toNatClampNeg)) a0 38 (cm_I (cm_sI w8 a0 8 (cm_I w8 r11 (0 : Int32).toNatClampNeg)) r15 (1 : Int32).toNatClampNeg)) r18 (2 : Int32).toNatClampNeg)) r21 (3 : Int32).toNatClampNeg)) a0 58 (cm_I (cm_sI (cm_sI (cm_sI (cm_sI w8 a0 8 (cm_I w8 r11 (0 : Int32).toNatClampNeg)) a0 38 (cm_I (cm_sI w8 a0 8 (cm_I w8 r11 (0 : Int32).toNatClampNeg)) r15 (1 : Int32).toNatClampNeg)) a0 39 (cm_I (cm_sI (cm_sI w8 a0 8 (cm_I w8 r11 (0 : Int32).toNatClampNeg)) a0 38 (cm_I (cm_sI w8 a0 8 (cm_I w8 r11 (0 : Int32).toNatClampNeg)) r15 (1 : Int32).toNatClampNeg)) r18 (2 : Int32).toNatClampNeg)) a0 51 (cm_I (cm_sI (cm_sI (cm_sI w8 a0 8 (cm_I w8 r11 (0 : Int32).toNatClampNeg)) a0 38 (cm_I (cm_sI w8 a0 8 (cm_I w8 r11 (0 : Int32).toNatClampNeg)) r15 (1 : Int32).toNatClampNeg)) a0 39 (cm_I (cm_sI (cm_sI w8 a0 8 (cm_I w8 r11 (0 : Int32).toNatClampNeg)) a0 38 (cm_I (cm_sI w8 a0 8 (cm_I w8 r11 (0 : Int32).toNatClampNeg)) r15 (1 : Int32).toNatClampNeg)) r18 (2 : Int32).toNatClampNeg)) r21 (3 : Int32).toNatClampNeg)) r24 (4 : Int32).toNatClampNeg))) fun w29 h30 => ?_
  show sm _ _ _ _ 108 [(0, .ref a0), (1, .int i1)] [] _ _
  refine sm_seg 2 110 [(0, .ref a0), (1, .int i1)] [.ref a0, .ref a0] rfl ?_
  refine sm_gd fun h31 => ?_
  refine sm_gR rfl h31 rfl rfl fun r32 h33 => ?_
  show sm _ _ _ _ 113 [(0, .ref a0), (1, .int i1)] [.ref r32, .ref a0] _ _
  refine sm_seg 1 115 [(0, .ref a0), (1, .int i1)] [.int (40 : Int32), .ref r32, .ref a0] rfl ?_
  refine sm_cV (as := [.ref r32, .int (40 : Int32)]) (rest := []) rfl rfl rfl rfl h31 (Nat.le_of_ble_eq_true rfl) (ca_296  a0 r32 (40 : Int32) w29) fun w34 h35 => ?_
  show sm _ _ _ _ 118 [(0, .ref a0), (1, .int i1)] [] _ _
  refine sm_seg 2 120 [(0, .ref a0), (1, .int i1)] [.ref a0, .ref a0] rfl ?_
  refine sm_gd fun h36 => ?_
  refine sm_gR rfl h36 rfl rfl fun r37 h38 => ?_
  show sm _ _ _ _ 123 [(0, .ref a0), (1, .int i1)] [.ref r37, .ref a0] _ _
  refine sm_seg 1 125 [(0, .ref a0), (1, .int i1)] [.int (40 : Int32), .ref r37, .ref a0] rfl ?_
  refine sm_cV (as := [.ref r37, .int (40 : Int32)]) (rest := []) rfl rfl rfl rfl h36 (Nat.le_of_ble_eq_true rfl) (ca_296  a0 r37 (40 : Int32) w34) fun w39 h40 => ?_
  show sm _ _ _ _ 128 [(0, .ref a0), (1, .int i1)] [] _ _
  refine sm_seg 2 130 [(0, .ref a0), (1, .int i1)] [.ref a0, .ref a0] rfl ?_
  refine sm_gd fun h41 => ?_
  refine sm_gR rfl h41 rfl rfl fun r42 h43 => ?_
  show sm _ _ _ _ 133 [(0, .ref a0), (1, .int i1)] [.ref r42, .ref a0] _ _
  refine sm_seg 1 135 [(0, .ref a0), (1, .int i1)] [.int (40 : Int32), .ref r42, .ref a0] rfl ?_
  refine sm_cV (as := [.ref r42, .int (40 : Int32)]) (rest := []) rfl rfl rfl rfl h41 (Nat.le_of_ble_eq_true rfl) (ca_296  a0 r42 (40 : Int32) w39) fun w44 h45 => ?_
  show sm _ _ _ _ 138 [(0, .ref a0), (1, .int i1)] [] _ _
  refine sm_seg 2 140 [(0, .ref a0), (1, .int i1)] [.ref a0, .ref a0] rfl ?_
  refine sm_gd fun h46 => ?_
  refine sm_gR rfl h46 rfl rfl fun r47 h48 => ?_
  show sm _ _ _ _ 143 [(0, .ref a0), (1, .int i1)] [.ref r47, .ref a0] _ _
  refine sm_seg 1 145 [(0, .ref a0), (1, .int i1)] [.int (40 : Int32), .ref r47, .ref a0] rfl ?_
  refine sm_cV (as := [.ref r47, .int (40 : Int32)]) (rest := []) rfl rfl rfl rfl h46 (Nat.le_of_ble_eq_true rfl) (ca_296  a0 r47 (40 : Int32) w44) fun w49 h50 => ?_
  show sm _ _ _ _ 148 [(0, .ref a0), (1, .int i1)] [] _ _
  refine sm_seg 2 150 [(0, .ref a0), (1, .int i1)] [.ref a0, .ref a0] rfl ?_
  refine sm_gd fun h51 => ?_
  refine sm_gR rfl h51 rfl rfl fun r52 h53 => ?_
  show sm _ _ _ _ 153 [(0, .ref a0), (1, .int i1)] [.ref r52, .ref a0] _ _
  refine sm_seg 1 155 [(0, .ref a0), (1, .int i1)] [.int (40 : Int32), .ref r52, .ref a0] rfl ?_
  refine sm_cV (as := [.ref r52, .int (40 : Int32)]) (rest := []) rfl rfl rfl rfl h51 (Nat.le_of_ble_eq_true rfl) (ca_296  a0 r52 (40 : Int32) w49) fun w54 h55 => ?_
  show sm _ _ _ _ 158 [(0, .ref a0), (1, .int i1)] [] _ _
  refine sm_seg 2 160 [(0, .ref a0), (1, .int i1)] [.ref a0, .ref a0] rfl ?_
  refine sm_gd fun h56 => ?_
  refine sm_gR rfl h56 rfl rfl fun r57 h58 => ?_
  show sm _ _ _ _ 163 [(0, .ref a0), (1, .int i1)] [.ref r57, .ref a0] _ _
  refine sm_seg 1 165 [(0, .ref a0), (1, .int i1)] [.int (40 : Int32), .ref r57, .ref a0] rfl ?_
  refine sm_cV (as := [.ref r57, .int (40 : Int32)]) (rest := []) rfl rfl rfl rfl h56 (Nat.le_of_ble_eq_true rfl) (ca_296  a0 r57 (40 : Int32) w54) fun w59 h60 => ?_
  show sm _ _ _ _ 168 [(0, .ref a0), (1, .int i1)] [] _ _
  refine sm_seg 2 170 [(0, .ref a0), (1, .int i1)] [.ref a0, .ref a0] rfl ?_
  refine sm_gd fun h61 => ?_
  refine sm_gR rfl h61 rfl rfl fun r62 h63 => ?_
  show sm _ _ _ _ 173 [(0, .ref a0), (1, .int i1)] [.ref r62, .ref a0] _ _
  refine sm_seg 1 175 [(0, .ref a0), (1, .int i1)] [.int (40 : Int32), .ref r62, .ref a0] rfl ?_
  refine sm_cV (as := [.ref r62, .int (40 : Int32)]) (rest := []) rfl rfl rfl rfl h61 (Nat.le_of_ble_eq_true rfl) (ca_296  a0 r62 (40 : Int32) w59) fun w64 h65 => ?_
  show sm _ _ _ _ 178 [(0, .ref a0), (1, .int i1)] [] _ _
  refine sm_seg 2 180 [(0, .ref a0), (1, .int i1)] [.ref a0, .ref a0] rfl ?_
  refine sm_gd fun h66 => ?_
  refine sm_gR rfl h66 rfl rfl fun r67 h68 => ?_
  show sm _ _ _ _ 183 [(0, .ref a0), (1, .int i1)] [.ref r67, .ref a0] _ _
  refine sm_seg 1 186 [(0, .ref a0), (1, .int i1)] [.int (480 : Int32), .ref r67, .ref a0] rfl ?_
  refine sm_cV (as := [.ref r67, .int (480 : Int32)]) (rest := []) rfl rfl rfl rfl h66 (Nat.le_of_ble_eq_true rfl) (ca_296  a0 r67 (480 : Int32) w64) fun w69 h70 => ?_
  show sm _ _ _ _ 189 [(0, .ref a0), (1, .int i1)] [] _ _
  refine sm_seg 2 191 [(0, .ref a0), (1, .int i1)] [.ref a0, .ref a0] rfl ?_
  refine sm_gd fun h71 => ?_
  refine sm_gR rfl h71 rfl rfl fun r72 h73 => ?_
  show sm _ _ _ _ 194 [(0, .ref a0), (1, .int i1)] [.ref r72, .ref a0] _ _
  refine sm_seg 1 197 [(0, .ref a0), (1, .int i1)] [.int (2100 : Int32), .ref r72, .ref a0] rfl ?_
  refine sm_cV (as := [.ref r72, .int (2100 : Int32)]) (rest := []) rfl rfl rfl rfl h71 (Nat.le_of_ble_eq_true rfl) (ca_296  a0 r72 (2100 : Int32) w69) fun w74 h75 => ?_
  show sm _ _ _ _ 200 [(0, .ref a0), (1, .int i1)] [] _ _
  refine sm_seg 2 202 [(0, .ref a0), (1, .int i1)] [.ref a0, .ref a0] rfl ?_
  refine sm_gd fun h76 => ?_
  refine sm_gR rfl h76 rfl rfl fun r77 h78 => ?_
  show sm _ _ _ _ 205 [(0, .ref a0), (1, .int i1)] [.ref r77, .ref a0] _ _
  refine sm_seg 1 207 [(0, .ref a0), (1, .int i1)] [.int (20 : Int32), .ref r77, .ref a0] rfl ?_
  refine sm_cV (as := [.ref r77, .int (20 : Int32)]) (rest := []) rfl rfl rfl rfl h76 (Nat.le_of_ble_eq_true rfl) (ca_296  a0 r77 (20 : Int32) w74) fun w79 h80 => ?_
  show sm _ _ _ _ 210 [(0, .ref a0), (1, .int i1)] [] _ _
  refine sm_seg 2 212 [(0, .ref a0), (1, .int i1)] [.ref a0, .ref a0] rfl ?_
  refine sm_gd fun h81 => ?_
  refine sm_gR rfl h81 rfl rfl fun r82 h83 => ?_
  show sm _ _ _ _ 215 [(0, .ref a0), (1, .int i1)] [.ref r82, .ref a0] _ _
  refine sm_seg 1 217 [(0, .ref a0), (1, .int i1)] [.int (20 : Int32), .ref r82, .ref a0] rfl ?_
  refine sm_cV (as := [.ref r82, .int (20 : Int32)]) (rest := []) rfl rfl rfl rfl h81 (Nat.le_of_ble_eq_true rfl) (ca_296  a0 r82 (20 : Int32) w79) fun w84 h85 => ?_
  show sm _ _ _ _ 220 [(0, .ref a0), (1, .int i1)] [] _ _
  refine sm_seg 2 222 [(0, .ref a0), (1, .int i1)] [.ref a0, .ref a0] rfl ?_
  refine sm_gd fun h86 => ?_
  refine sm_gR rfl h86 rfl rfl fun r87 h88 => ?_
  show sm _ _ _ _ 225 [(0, .ref a0), (1, .int i1)] [.ref r87, .ref a0] _ _
  refine sm_seg 1 227 [(0, .ref a0), (1, .int i1)] [.int (20 : Int32), .ref r87, .ref a0] rfl ?_
  refine sm_cV (as := [.ref r87, .int (20 : Int32)]) (rest := []) rfl rfl rfl rfl h86 (Nat.le_of_ble_eq_true rfl) (ca_296  a0 r87 (20 : Int32) w84) fun w89 h90 => ?_
  show sm _ _ _ _ 230 [(0, .ref a0), (1, .int i1)] [] _ _
  refine sm_seg 2 232 [(0, .ref a0), (1, .int i1)] [.ref a0, .ref a0] rfl ?_
  refine sm_gd fun h91 => ?_
  refine sm_gR rfl h91 rfl rfl fun r92 h93 => ?_
  show sm _ _ _ _ 235 [(0, .ref a0), (1, .int i1)] [.ref r92, .ref a0] _ _
  refine sm_seg 1 237 [(0, .ref a0), (1, .int i1)] [.int (20 : Int32), .ref r92, .ref a0] rfl ?_
  refine sm_cV (as := [.ref r92, .int (20 : Int32)]) (rest := []) rfl rfl rfl rfl h91 (Nat.le_of_ble_eq_true rfl) (ca_296  a0 r92 (20 : Int32) w89) fun w94 h95 => ?_
  show sm _ _ _ _ 240 [(0, .ref a0), (1, .int i1)] [] _ _
  refine sm_seg 2 242 [(0, .ref a0), (1, .int i1)] [.ref a0, .ref a0] rfl ?_
  refine sm_gd fun h96 => ?_
  refine sm_gR rfl h96 rfl rfl fun r97 h98 => ?_
  show sm _ _ _ _ 245 [(0, .ref a0), (1, .int i1)] [.ref r97, .ref a0] _ _
  refine sm_seg 1 247 [(0, .ref a0), (1, .int i1)] [.int (20 : Int32), .ref r97, .ref a0] rfl ?_
  refine sm_cV (as := [.ref r97, .int (20 : Int32)]) (rest := []) rfl rfl rfl rfl h96 (Nat.le_of_ble_eq_true rfl) (ca_296  a0 r97 (20 : Int32) w94) fun w99 h100 => ?_
  show sm _ _ _ _ 250 [(0, .ref a0), (1, .int i1)] [] _ _
  refine sm_seg 2 252 [(0, .ref a0), (1, .int i1)] [.ref a0, .ref a0] rfl ?_
  refine sm_gd fun h101 => ?_
  refine sm_gR rfl h101 rfl rfl fun r102 h103 => ?_
  show sm _ _ _ _ 255 [(0, .ref a0), (1, .int i1)] [.ref r102, .ref a0] _ _
  refine sm_seg 1 257 [(0, .ref a0), (1, .int i1)] [.int (20 : Int32), .ref r102, .ref a0] rfl ?_
  refine sm_cV (as := [.ref r102, .int (20 : Int32)]) (rest := []) rfl rfl rfl rfl h101 (Nat.le_of_ble_eq_true rfl) (ca_296  a0 r102 (20 : Int32) w99) fun w104 h105 => ?_
  show sm _ _ _ _ 260 [(0, .ref a0), (1, .int i1)] [] _ _
  refine sm_seg 2 262 [(0, .ref a0), (1, .int i1)] [.ref a0, .ref a0] rfl ?_
  refine sm_gd fun h106 => ?_
  refine sm_gR rfl h106 rfl rfl fun r107 h108 => ?_
  show sm _ _ _ _ 265 [(0, .ref a0), (1, .int i1)] [.ref r107, .ref a0] _ _
  refine sm_seg 1 267 [(0, .ref a0), (1, .int i1)] [.int (40 : Int32), .ref r107, .ref a0] rfl ?_
  refine sm_cV (as := [.ref r107, .int (40 : Int32)]) (rest := []) rfl rfl rfl rfl h106 (Nat.le_of_ble_eq_true rfl) (ca_296  a0 r107 (40 : Int32) w104) fun w109 h110 => ?_
  show sm _ _ _ _ 270 [(0, .ref a0), (1, .int i1)] [] _ _
  refine sm_seg 2 272 [(0, .ref a0), (1, .int i1)] [.ref a0, .ref a0] rfl ?_
  refine sm_gd fun h111 => ?_
  refine sm_gR rfl h111 rfl rfl fun r112 h113 => ?_
  show sm _ _ _ _ 275 [(0, .ref a0), (1, .int i1)] [.ref r112, .ref a0] _ _
  refine sm_seg 1 277 [(0, .ref a0), (1, .int i1)] [.int (40 : Int32), .ref r112, .ref a0] rfl ?_
  refine sm_cV (as := [.ref r112, .int (40 : Int32)]) (rest := []) rfl rfl rfl rfl h111 (Nat.le_of_ble_eq_true rfl) (ca_296  a0 r112 (40 : Int32) w109) fun w114 h115 => ?_
  show sm _ _ _ _ 280 [(0, .ref a0), (1, .int i1)] [] _ _
  refine sm_seg 2 282 [(0, .ref a0), (1, .int i1)] [.ref a0, .ref a0] rfl ?_
  refine sm_gd fun h116 => ?_
  refine sm_gR rfl h116 rfl rfl fun r117 h118 => ?_
  show sm _ _ _ _ 285 [(0, .ref a0), (1, .int i1)] [.ref r117, .ref a0] _ _
  refine sm_seg 1 287 [(0, .ref a0), (1, .int i1)] [.int (40 : Int32), .ref r117, .ref a0] rfl ?_
  refine sm_cV (as := [.ref r117, .int (40 : Int32)]) (rest := []) rfl rfl rfl rfl h116 (Nat.le_of_ble_eq_true rfl) (ca_296  a0 r117 (40 : Int32) w114) fun w119 h120 => ?_
  show sm _ _ _ _ 290 [(0, .ref a0), (1, .int i1)] [] _ _
  refine sm_seg 2 292 [(0, .ref a0), (1, .int i1)] [.ref a0, .ref a0] rfl ?_
  refine sm_gd fun h121 => ?_
  refine sm_gR rfl h121 rfl rfl fun r122 h123 => ?_
  show sm _ _ _ _ 295 [(0, .ref a0), (1, .int i1)] [.ref r122, .ref a0] _ _
  refine sm_seg 1 297 [(0, .ref a0), (1, .int i1)] [.int (40 : Int32), .ref r122, .ref a0] rfl ?_
  refine sm_cV (as := [.ref r122, .int (40 : Int32)]) (rest := []) rfl rfl rfl rfl h121 (Nat.le_of_ble_eq_true rfl) (ca_296  a0 r122 (40 : Int32) w119) fun w124 h125 => ?_
  show sm _ _ _ _ 300 [(0, .ref a0), (1, .int i1)] [] _ _
  refine sm_seg 1 301 [(0, .ref a0), (1, .int i1)] [.int (1 : Int32)] rfl ?_
  exact sm_rBW (b := true) rfl rfl
def fn_298 (a0 : Nat) (i1 : Int32) (w : cm_W) : Option (Bool × cm_W) := (if cm_sh w a0 = some (.inl 11) then (fn_194 w i1 (0 : Int32) ((cm_I w a0 73) - (1 : Int32))).bind fun v127 => (if ¬ (cm_b v127) = 0 then fn_298_20  a0 i1 w else (fn_198 a0 (0 : Int32) w).bind fun v130 => some (v130.1, v130.2)) else none)
theorem jt_298_0 (a0 : Nat) (i1 : Int32) (w : cm_W) : sm cm_g 298 ck_298 kq_298 0 [(0, .ref a0), (1, .int i1)] [] w ((fn_298 a0 i1 w).map cm_gB) := by
  unfold fn_298
  refine sm_seg 3 3 [(0, .ref a0), (1, .int i1)] [.ref a0, .int (0 : Int32), .int i1] rfl ?_
  refine sm_gd fun h126 => ?_
  refine sm_gI rfl h126 rfl ?_
  show sm _ _ _ _ 6 [(0, .ref a0), (1, .int i1)] [.int (cm_I w a0 73), .int (0 : Int32), .int i1] _ _
  refine sm_seg 2 8 [(0, .ref a0), (1, .int i1)] [.int ((cm_I w a0 73) - (1 : Int32)), .int (0 : Int32), .int i1] rfl ?_
  refine sm_cS (av := [.int i1, .int (0 : Int32), .int ((cm_I w a0 73) - (1 : Int32))]) (rest := []) rfl rfl rfl rfl (Nat.le_of_ble_eq_true rfl) (ca_194 w i1 (0 : Int32) ((cm_I w a0 73) - (1 : Int32))) fun v127 h128 => ?_
  show sm _ _ _ _ 11 [(0, .ref a0), (1, .int i1)] [.int (cm_b v127)] _ _
  refine sm_if (pc1 := 20) (lv1 := [(0, .ref a0), (1, .int i1)]) (pc2 := 14) (lv2 := [(0, .ref a0), (1, .int i1)]) (st1 := []) rfl rfl rfl (fun h129 => ?_) (fun h129 => ?_)
  · exact jt_298_20  a0 i1 w
  · refine sm_seg 2 16 [(0, .ref a0), (1, .int i1)] [.int (0 : Int32), .ref a0] rfl ?_
    refine sm_cV (as := [.int (0 : Int32)]) (rest := []) rfl rfl rfl rfl h126 (Nat.le_of_ble_eq_true rfl) (ca_198  a0 (0 : Int32) w) fun v130 h131 => ?_
    show sm _ _ _ _ 19 [(0, .ref a0), (1, .int i1)] [.int (cm_b v130.1)] _ _
    exact sm_rBW (b := v130.1) rfl rfl
theorem ca_298 (a0 : Nat) (i1 : Int32) (w : cm_W) : cm_ca cm_g 298 [.ref a0, .int i1] w ((fn_298 a0 i1 w).map cm_gB) := cm_ca_of (cm_me_of rfl rfl) rfl (jt_298_0 a0 i1 w)
-- NailedBoxesModel.count(I)I
def fn_299_77 (w : cm_W) (a0 : Nat) : Option Int32 := (if cm_sh w a0 = some (.inl 11) then some (cm_I w a0 2) else none)
theorem jt_299_77 (w : cm_W) (a0 : Nat) : sm cm_g 299 ck_299 kq_299 77 [(0, .ref a0)] [] w ((fn_299_77 w a0).map (cm_fI w)) := by
  unfold fn_299_77
  refine sm_seg 1 78 [(0, .ref a0)] [.ref a0] rfl ?_
  refine sm_gd fun h1 => ?_
  refine sm_gI rfl h1 rfl ?_
  show sm _ _ _ _ 81 [(0, .ref a0)] [.int (cm_I w a0 2)] _ _
  exact sm_rI rfl rfl
def fn_299_82 (w : cm_W) (a0 : Nat) : Option Int32 := (if cm_sh w a0 = some (.inl 11) then some (cm_I w a0 3) else none)
theorem jt_299_82 (w : cm_W) (a0 : Nat) : sm cm_g 299 ck_299 kq_299 82 [(0, .ref a0)] [] w ((fn_299_82 w a0).map (cm_fI w)) := by
  unfold fn_299_82
  refine sm_seg 1 83 [(0, .ref a0)] [.ref a0] rfl ?_
  refine sm_gd fun h2 => ?_
  refine sm_gI rfl h2 rfl ?_
  show sm _ _ _ _ 86 [(0, .ref a0)] [.int (cm_I w a0 3)] _ _
  exact sm_rI rfl rfl
def fn_299_87 (w : cm_W) (a0 : Nat) : Option Int32 := (if cm_sh w a0 = some (.inl 11) then some (cm_I w a0 38) else none)
theorem jt_299_87 (w : cm_W) (a0 : Nat) : sm cm_g 299 ck_299 kq_299 87 [(0, .ref a0)] [] w ((fn_299_87 w a0).map (cm_fI w)) := by
  unfold fn_299_87
  refine sm_seg 1 88 [(0, .ref a0)] [.ref a0] rfl ?_
  refine sm_gd fun h3 => ?_
  refine sm_gI rfl h3 rfl ?_
  show sm _ _ _ _ 91 [(0, .ref a0)] [.int (cm_I w a0 38)] _ _
  exact sm_rI rfl rfl
def fn_299_92 (w : cm_W) (a0 : Nat) : Option Int32 := (if cm_sh w a0 = some (.inl 11) then some (cm_I w a0 39) else none)
theorem jt_299_92 (w : cm_W) (a0 : Nat) : sm cm_g 299 ck_299 kq_299 92 [(0, .ref a0)] [] w ((fn_299_92 w a0).map (cm_fI w)) := by
  unfold fn_299_92
  refine sm_seg 1 93 [(0, .ref a0)] [.ref a0] rfl ?_
  refine sm_gd fun h4 => ?_
  refine sm_gI rfl h4 rfl ?_
  show sm _ _ _ _ 96 [(0, .ref a0)] [.int (cm_I w a0 39)] _ _
  exact sm_rI rfl rfl
def fn_299_97 (w : cm_W) (a0 : Nat) : Option Int32 := (if cm_sh w a0 = some (.inl 11) then some (cm_I w a0 8) else none)
theorem jt_299_97 (w : cm_W) (a0 : Nat) : sm cm_g 299 ck_299 kq_299 97 [(0, .ref a0)] [] w ((fn_299_97 w a0).map (cm_fI w)) := by
  unfold fn_299_97
  refine sm_seg 1 98 [(0, .ref a0)] [.ref a0] rfl ?_
  refine sm_gd fun h5 => ?_
  refine sm_gI rfl h5 rfl ?_
  show sm _ _ _ _ 101 [(0, .ref a0)] [.int (cm_I w a0 8)] _ _
  exact sm_rI rfl rfl
def fn_299_102 (w : cm_W) (a0 : Nat) : Option Int32 := (if cm_sh w a0 = some (.inl 11) then some (cm_I w a0 58) else none)
theorem jt_299_102 (w : cm_W) (a0 : Nat) : sm cm_g 299 ck_299 kq_299 102 [(0, .ref a0)] [] w ((fn_299_102 w a0).map (cm_fI w)) := by
  unfold fn_299_102
  refine sm_seg 1 103 [(0, .ref a0)] [.ref a0] rfl ?_
  refine sm_gd fun h6 => ?_
  refine sm_gI rfl h6 rfl ?_
  show sm _ _ _ _ 106 [(0, .ref a0)] [.int (cm_I w a0 58)] _ _
  exact sm_rI rfl rfl
def fn_299_107 (w : cm_W) (a0 : Nat) : Option Int32 := (if cm_sh w a0 = some (.inl 11) then some (cm_I w a0 9) else none)
theorem jt_299_107 (w : cm_W) (a0 : Nat) : sm cm_g 299 ck_299 kq_299 107 [(0, .ref a0)] [] w ((fn_299_107 w a0).map (cm_fI w)) := by
  unfold fn_299_107
  refine sm_seg 1 108 [(0, .ref a0)] [.ref a0] rfl ?_
  refine sm_gd fun h7 => ?_
  refine sm_gI rfl h7 rfl ?_
  show sm _ _ _ _ 111 [(0, .ref a0)] [.int (cm_I w a0 9)] _ _
  exact sm_rI rfl rfl
def fn_299_112 (w : cm_W) (a0 : Nat) : Option Int32 := (if cm_sh w a0 = some (.inl 11) then some (cm_I w a0 73) else none)
theorem jt_299_112 (w : cm_W) (a0 : Nat) : sm cm_g 299 ck_299 kq_299 112 [(0, .ref a0)] [] w ((fn_299_112 w a0).map (cm_fI w)) := by
  unfold fn_299_112
  refine sm_seg 1 113 [(0, .ref a0)] [.ref a0] rfl ?_
  refine sm_gd fun h8 => ?_
  refine sm_gI rfl h8 rfl ?_
  show sm _ _ _ _ 116 [(0, .ref a0)] [.int (cm_I w a0 73)] _ _
  exact sm_rI rfl rfl
def fn_299_117 (w : cm_W) (a0 : Nat) : Option Int32 := (if cm_sh w a0 = some (.inl 11) then some (cm_I w a0 4) else none)
theorem jt_299_117 (w : cm_W) (a0 : Nat) : sm cm_g 299 ck_299 kq_299 117 [(0, .ref a0)] [] w ((fn_299_117 w a0).map (cm_fI w)) := by
  unfold fn_299_117
  refine sm_seg 1 118 [(0, .ref a0)] [.ref a0] rfl ?_
  refine sm_gd fun h9 => ?_
  refine sm_gI rfl h9 rfl ?_
  show sm _ _ _ _ 121 [(0, .ref a0)] [.int (cm_I w a0 4)] _ _
  exact sm_rI rfl rfl
def fn_299_122 (w : cm_W) (a0 : Nat) (i1 : Int32) : Option Int32 := (if cm_sh w a0 = some (.inl 11) then (cm_R w a0 0).bind fun r11 => (if cm_ga w .int r11 (i1 - (10 : Int32)) = true then some (cm_I w r11 (i1 - (10 : Int32)).toNatClampNeg) else none) else none)
theorem jt_299_122 (w : cm_W) (a0 : Nat) (i1 : Int32) : sm cm_g 299 ck_299 kq_299 122 [(0, .ref a0), (1, .int i1)] [] w ((fn_299_122 w a0 i1).map (cm_fI w)) := by
  unfold fn_299_122
  refine sm_seg 1 123 [(0, .ref a0), (1, .int i1)] [.ref a0] rfl ?_
  refine sm_gd fun h10 => ?_
  refine sm_gR rfl h10 rfl rfl fun r11 h12 => ?_
  show sm _ _ _ _ 126 [(0, .ref a0), (1, .int i1)] [.ref r11] _ _
  refine sm_seg 3 130 [(0, .ref a0), (1, .int i1)] [.int (i1 - (10 : Int32)), .ref r11] rfl ?_
  refine sm_gd fun h13 => ?_
  refine sm_ai rfl h13 rfl ?_
  show sm _ _ _ _ 131 [(0, .ref a0), (1, .int i1)] [.int (cm_I w r11 (i1 - (10 : Int32)).toNatClampNeg)] _ _
  exact sm_rI rfl rfl
def fn_299_132 (w : cm_W) (a0 : Nat) : Option Int32 := (if cm_sh w a0 = some (.inl 11) then some (cm_I w a0 51) else none)
theorem jt_299_132 (w : cm_W) (a0 : Nat) : sm cm_g 299 ck_299 kq_299 132 [(0, .ref a0)] [] w ((fn_299_132 w a0).map (cm_fI w)) := by
  unfold fn_299_132
  refine sm_seg 1 133 [(0, .ref a0)] [.ref a0] rfl ?_
  refine sm_gd fun h14 => ?_
  refine sm_gI rfl h14 rfl ?_
  show sm _ _ _ _ 136 [(0, .ref a0)] [.int (cm_I w a0 51)] _ _
  exact sm_rI rfl rfl
def fn_299 (w : cm_W) (a0 : Nat) (i1 : Int32) : Option Int32 := (if i1 = (0 : Int32) then (if cm_sh w a0 = some (.inl 11) then some (cm_I w a0 1) else none) else (if i1 = (1 : Int32) then fn_299_77 w a0 else (if i1 = (2 : Int32) then fn_299_82 w a0 else (if i1 = (3 : Int32) then fn_299_87 w a0 else (if i1 = (4 : Int32) then fn_299_92 w a0 else (if i1 = (5 : Int32) then fn_299_97 w a0 else (if i1 = (6 : Int32) then fn_299_102 w a0 else (if i1 = (7 : Int32) then fn_299_107 w a0 else (if i1 = (8 : Int32) then fn_299_112 w a0 else (if i1 = (9 : Int32) then fn_299_117 w a0 else (if i1 = (10 : Int32) then fn_299_122 w a0 i1 else (if i1 = (11 : Int32) then fn_299_122 w a0 i1 else (if i1 = (12 : Int32) then fn_299_122 w a0 i1 else (if i1 = (13 : Int32) then fn_299_132 w a0 else some (-1 : Int32)))))))))))))))
theorem jt_299_0 (w : cm_W) (a0 : Nat) (i1 : Int32) : sm cm_g 299 ck_299 kq_299 0 [(0, .ref a0), (1, .int i1)] [] w ((fn_299 w a0 i1).map (cm_fI w)) := by
  unfold fn_299
  refine sm_seg 1 1 [(0, .ref a0), (1, .int i1)] [.int i1] rfl ?_
  refine sm_br (fun h15 => ?_) (fun h15 => ?_)
  · refine sm_ts (off := (71)) (pc1 := 72) (lv1 := [(0, .ref a0), (1, .int i1)]) rfl (by rw [h15]; rfl) rfl rfl ?_
    refine sm_seg 1 73 [(0, .ref a0), (1, .int i1)] [.ref a0] rfl ?_
    refine sm_gd fun h16 => ?_
    refine sm_gI rfl h16 rfl ?_
    show sm _ _ _ _ 76 [(0, .ref a0), (1, .int i1)] [.int (cm_I w a0 1)] _ _
    exact sm_rI rfl rfl
  refine sm_br (fun h17 => ?_) (fun h17 => ?_)
  · refine sm_ts (off := (76)) (pc1 := 77) (lv1 := [(0, .ref a0)]) rfl (by rw [h17]; rfl) rfl rfl ?_
    exact jt_299_77 w a0
  refine sm_br (fun h18 => ?_) (fun h18 => ?_)
  · refine sm_ts (off := (81)) (pc1 := 82) (lv1 := [(0, .ref a0)]) rfl (by rw [h18]; rfl) rfl rfl ?_
    exact jt_299_82 w a0
  refine sm_br (fun h19 => ?_) (fun h19 => ?_)
  · refine sm_ts (off := (86)) (pc1 := 87) (lv1 := [(0, .ref a0)]) rfl (by rw [h19]; rfl) rfl rfl ?_
    exact jt_299_87 w a0
  refine sm_br (fun h20 => ?_) (fun h20 => ?_)
  · refine sm_ts (off := (91)) (pc1 := 92) (lv1 := [(0, .ref a0)]) rfl (by rw [h20]; rfl) rfl rfl ?_
    exact jt_299_92 w a0
  refine sm_br (fun h21 => ?_) (fun h21 => ?_)
  · refine sm_ts (off := (96)) (pc1 := 97) (lv1 := [(0, .ref a0)]) rfl (by rw [h21]; rfl) rfl rfl ?_
    exact jt_299_97 w a0
  refine sm_br (fun h22 => ?_) (fun h22 => ?_)
  · refine sm_ts (off := (101)) (pc1 := 102) (lv1 := [(0, .ref a0)]) rfl (by rw [h22]; rfl) rfl rfl ?_
    exact jt_299_102 w a0
  refine sm_br (fun h23 => ?_) (fun h23 => ?_)
  · refine sm_ts (off := (106)) (pc1 := 107) (lv1 := [(0, .ref a0)]) rfl (by rw [h23]; rfl) rfl rfl ?_
    exact jt_299_107 w a0
  refine sm_br (fun h24 => ?_) (fun h24 => ?_)
  · refine sm_ts (off := (111)) (pc1 := 112) (lv1 := [(0, .ref a0)]) rfl (by rw [h24]; rfl) rfl rfl ?_
    exact jt_299_112 w a0
  refine sm_br (fun h25 => ?_) (fun h25 => ?_)
  · refine sm_ts (off := (116)) (pc1 := 117) (lv1 := [(0, .ref a0)]) rfl (by rw [h25]; rfl) rfl rfl ?_
    exact jt_299_117 w a0
  refine sm_br (fun h26 => ?_) (fun h26 => ?_)
  · refine sm_ts (off := (121)) (pc1 := 122) (lv1 := [(0, .ref a0), (1, .int i1)]) rfl (by rw [h26]; rfl) rfl rfl ?_
    exact jt_299_122 w a0 i1
  refine sm_br (fun h27 => ?_) (fun h27 => ?_)
  · refine sm_ts (off := (121)) (pc1 := 122) (lv1 := [(0, .ref a0), (1, .int i1)]) rfl (by rw [h27]; rfl) rfl rfl ?_
    exact jt_299_122 w a0 i1
  refine sm_br (fun h28 => ?_) (fun h28 => ?_)
  · refine sm_ts (off := (121)) (pc1 := 122) (lv1 := [(0, .ref a0), (1, .int i1)]) rfl (by rw [h28]; rfl) rfl rfl ?_
    exact jt_299_122 w a0 i1
  refine sm_br (fun h29 => ?_) (fun h29 => ?_)
  · refine sm_ts (off := (131)) (pc1 := 132) (lv1 := [(0, .ref a0)]) rfl (by rw [h29]; rfl) rfl rfl ?_
    exact jt_299_132 w a0
  refine sm_ts (off := (136)) (pc1 := 137) (lv1 := []) rfl (cm_tsd (n := 14) rfl rfl (fun j hj => match j, hj with | 0, _ => .inr (cm_ne h15 rfl) | 1, _ => .inr (cm_ne h17 rfl) | 2, _ => .inr (cm_ne h18 rfl) | 3, _ => .inr (cm_ne h19 rfl) | 4, _ => .inr (cm_ne h20 rfl) | 5, _ => .inr (cm_ne h21 rfl) | 6, _ => .inr (cm_ne h22 rfl) | 7, _ => .inr (cm_ne h23 rfl) | 8, _ => .inr (cm_ne h24 rfl) | 9, _ => .inr (cm_ne h25 rfl) | 10, _ => .inr (cm_ne h26 rfl) | 11, _ => .inr (cm_ne h27 rfl) | 12, _ => .inr (cm_ne h28 rfl) | 13, _ => .inr (cm_ne h29 rfl) | _ + 14, h => absurd h (by omega))) rfl rfl ?_
  refine sm_seg 1 138 [] [.int (-1 : Int32)] rfl ?_
  exact sm_rI rfl rfl
theorem ca_299 (w : cm_W) (a0 : Nat) (i1 : Int32) : cm_ca cm_g 299 [.ref a0, .int i1] w ((fn_299 w a0 i1).map (cm_fI w)) := cm_ca_of (cm_me_of rfl rfl) rfl (jt_299_0 w a0 i1)
