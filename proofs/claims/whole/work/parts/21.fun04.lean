-- NailedBoxes.years(III)I
def fn_188_188 (i3 : Int32) (i7 : Int32) (i8 : Int32) (w : cm_W) : Option (Int32 × cm_W) := (if ¬ i3 = 0 then some (i8, w) else some (i7, w))
theorem jt_188_188 (i3 : Int32) (i7 : Int32) (i8 : Int32) (w : cm_W) : sm cm_g 188 ck_188 kq_188 188 [(3, .int i3), (7, .int i7), (8, .int i8)] [] w ((fn_188_188 i3 i7 i8 w).map cm_gI) := by
  unfold fn_188_188
  refine sm_seg 1 189 [(3, .int i3), (7, .int i7), (8, .int i8)] [.int i3] rfl ?_
  refine sm_if (pc1 := 197) (lv1 := [(8, .int i8)]) (pc2 := 192) (lv2 := [(3, .int i3), (7, .int i7), (8, .int i8)]) (st1 := []) rfl rfl rfl (fun h1 => ?_) (fun h1 => ?_)
  · refine sm_seg 1 199 [] [.int i8] rfl ?_
    exact sm_rIW rfl rfl
  · refine sm_seg 2 199 [] [.int i7] rfl ?_
    exact sm_rIW rfl rfl
def fn_188_99 : Nat → Nat → Int32 → Int32 → Int32 → Int32 → Int32 → Int32 → Int32 → Int64 → Int32 → cm_W → Option (Int32 × cm_W)
  | 0, _, _, _, _, _, _, _, _, _, _, _ => none
  | n + 1, a0, i1, i2, i3, i5, i6, i7, i8, j9, i11, w => (if i2 ≤ i11 then fn_188_188  i3 i7 i8 w else (if cm_sh w a0 = some (.inl 10) then (cm_R w a0 3).bind fun r4 => (if cm_sh w r4 = some (.inl 9) then (fn_136 w r4 i1 (((Int64.toUInt64 ((j9 * (6364136223846793005 : Int64)) + (1442695040888963407 : Int64))) >>> ((Int32.toInt64 (33 : Int32)).toUInt64 &&& Int64.toUInt64 63)).toInt64)).bind fun v7 => (if ¬ ((i6 >>> (v7 &&& 31)) &&& (1 : Int32)) = (1 : Int32) then (cm_R w a0 3).bind fun r10 => (if cm_sh w r10 = some (.inl 9) then (fn_31 w r10 v7 (0 : Int32)).bind fun v13 => (if ¬ v7 = (i3 - (10 : Int32)) then fn_188_99 n a0 i1 i2 i3 i5 i6 (i7 + v13) (i8 + (0 : Int32)) ((j9 * (6364136223846793005 : Int64)) + (1442695040888963407 : Int64)) (i11 + (1 : Int32)) w else fn_188_99 n a0 i1 i2 i3 i5 i6 (i7 + v13) (i8 + (1 : Int32)) ((j9 * (6364136223846793005 : Int64)) + (1442695040888963407 : Int64)) (i11 + (1 : Int32)) w) else none) else (if ¬ v7 = (i3 - (10 : Int32)) then fn_188_99 n a0 i1 i2 i3 i5 i6 (i7 + i5) (i8 + (0 : Int32)) ((j9 * (6364136223846793005 : Int64)) + (1442695040888963407 : Int64)) (i11 + (1 : Int32)) w else fn_188_99 n a0 i1 i2 i3 i5 i6 (i7 + i5) (i8 + (1 : Int32)) ((j9 * (6364136223846793005 : Int64)) + (1442695040888963407 : Int64)) (i11 + (1 : Int32)) w)) else none) else none))
theorem jt_188_99 : ∀ (n : Nat) (a0 : Nat) (i1 : Int32) (i2 : Int32) (i3 : Int32) (i5 : Int32) (i6 : Int32) (i7 : Int32) (i8 : Int32) (j9 : Int64) (i11 : Int32) (w : cm_W), sm cm_g 188 ck_188 kq_188 99 [(0, .ref a0), (1, .int i1), (2, .int i2), (3, .int i3), (5, .int i5), (6, .int i6), (7, .int i7), (8, .int i8), (9, .long j9), (11, .int i11)] [] w ((fn_188_99 n a0 i1 i2 i3 i5 i6 i7 i8 j9 i11 w).map cm_gI) := by
  intro n
  induction n with
  | zero => intro a0 i1 i2 i3 i5 i6 i7 i8 j9 i11 w; exact sm_no
  | succ n ih =>
    intro a0 i1 i2 i3 i5 i6 i7 i8 j9 i11 w
    rw [fn_188_99]
    refine sm_seg 2 102 [(0, .ref a0), (1, .int i1), (2, .int i2), (3, .int i3), (5, .int i5), (6, .int i6), (7, .int i7), (8, .int i8), (9, .long j9), (11, .int i11)] [.int i2, .int i11] rfl ?_
    refine sm_if (pc1 := 188) (lv1 := [(3, .int i3), (7, .int i7), (8, .int i8)]) (pc2 := 105) (lv2 := [(0, .ref a0), (1, .int i1), (2, .int i2), (3, .int i3), (5, .int i5), (6, .int i6), (7, .int i7), (8, .int i8), (9, .long j9), (11, .int i11)]) (st1 := []) rfl rfl rfl (fun h2 => ?_) (fun h2 => ?_)
    · exact jt_188_188  i3 i7 i8 w
    · refine sm_seg 7 118 [(9, .long ((j9 * (6364136223846793005 : Int64)) + (1442695040888963407 : Int64))), (0, .ref a0), (1, .int i1), (2, .int i2), (3, .int i3), (5, .int i5), (6, .int i6), (7, .int i7), (8, .int i8), (11, .int i11)] [.ref a0] rfl ?_
      refine sm_gd fun h3 => ?_
      refine sm_gR rfl h3 rfl rfl fun r4 h5 => ?_
      show sm _ _ _ _ 121 [(9, .long ((j9 * (6364136223846793005 : Int64)) + (1442695040888963407 : Int64))), (0, .ref a0), (1, .int i1), (2, .int i2), (3, .int i3), (5, .int i5), (6, .int i6), (7, .int i7), (8, .int i8), (11, .int i11)] [.ref r4] _ _
      refine sm_seg 4 127 [(9, .long ((j9 * (6364136223846793005 : Int64)) + (1442695040888963407 : Int64))), (0, .ref a0), (1, .int i1), (2, .int i2), (3, .int i3), (5, .int i5), (6, .int i6), (7, .int i7), (8, .int i8), (11, .int i11)] [.long ((Int64.toUInt64 ((j9 * (6364136223846793005 : Int64)) + (1442695040888963407 : Int64))) >>> ((Int32.toInt64 (33 : Int32)).toUInt64 &&& Int64.toUInt64 63)).toInt64, .int i1, .ref r4] rfl ?_
      refine sm_gd fun h6 => ?_
      refine sm_cV (as := [.int i1, .long ((Int64.toUInt64 ((j9 * (6364136223846793005 : Int64)) + (1442695040888963407 : Int64))) >>> ((Int32.toInt64 (33 : Int32)).toUInt64 &&& Int64.toUInt64 63)).toInt64]) (rest := []) rfl rfl rfl rfl h6 (Nat.le_of_ble_eq_true rfl) (ca_136 w r4 i1 (((Int64.toUInt64 ((j9 * (6364136223846793005 : Int64)) + (1442695040888963407 : Int64))) >>> ((Int32.toInt64 (33 : Int32)).toUInt64 &&& Int64.toUInt64 63)).toInt64)) fun v7 h8 => ?_
      show sm _ _ _ _ 130 [(9, .long ((j9 * (6364136223846793005 : Int64)) + (1442695040888963407 : Int64))), (0, .ref a0), (1, .int i1), (2, .int i2), (3, .int i3), (5, .int i5), (6, .int i6), (7, .int i7), (8, .int i8), (11, .int i11)] [.int v7] _ _
      refine sm_seg 8 142 [(12, .int v7), (9, .long ((j9 * (6364136223846793005 : Int64)) + (1442695040888963407 : Int64))), (0, .ref a0), (1, .int i1), (2, .int i2), (3, .int i3), (5, .int i5), (6, .int i6), (7, .int i7), (8, .int i8), (11, .int i11)] [.int (1 : Int32), .int ((i6 >>> (v7 &&& 31)) &&& (1 : Int32)), .int i7] rfl ?_
      refine sm_if (pc1 := 150) (lv1 := [(0, .ref a0), (1, .int i1), (2, .int i2), (3, .int i3), (5, .int i5), (6, .int i6), (8, .int i8), (9, .long ((j9 * (6364136223846793005 : Int64)) + (1442695040888963407 : Int64))), (11, .int i11), (12, .int v7)]) (pc2 := 145) (lv2 := [(12, .int v7), (9, .long ((j9 * (6364136223846793005 : Int64)) + (1442695040888963407 : Int64))), (0, .ref a0), (1, .int i1), (2, .int i2), (3, .int i3), (5, .int i5), (6, .int i6), (7, .int i7), (8, .int i8), (11, .int i11)]) (st1 := [.int i7]) rfl rfl rfl (fun h9 => ?_) (fun h9 => ?_)
      · refine sm_seg 1 151 [(0, .ref a0), (1, .int i1), (2, .int i2), (3, .int i3), (5, .int i5), (6, .int i6), (8, .int i8), (9, .long ((j9 * (6364136223846793005 : Int64)) + (1442695040888963407 : Int64))), (11, .int i11), (12, .int v7)] [.ref a0, .int i7] rfl ?_
        refine sm_gR rfl h3 rfl rfl fun r10 h11 => ?_
        show sm _ _ _ _ 154 [(0, .ref a0), (1, .int i1), (2, .int i2), (3, .int i3), (5, .int i5), (6, .int i6), (8, .int i8), (9, .long ((j9 * (6364136223846793005 : Int64)) + (1442695040888963407 : Int64))), (11, .int i11), (12, .int v7)] [.ref r10, .int i7] _ _
        refine sm_seg 2 157 [(0, .ref a0), (1, .int i1), (2, .int i2), (3, .int i3), (5, .int i5), (6, .int i6), (8, .int i8), (9, .long ((j9 * (6364136223846793005 : Int64)) + (1442695040888963407 : Int64))), (11, .int i11), (12, .int v7)] [.int (0 : Int32), .int v7, .ref r10, .int i7] rfl ?_
        refine sm_gd fun h12 => ?_
        refine sm_cV (as := [.int v7, .int (0 : Int32)]) (rest := [.int i7]) rfl rfl rfl rfl h12 (Nat.le_of_ble_eq_true rfl) (ca_31 w r10 v7 (0 : Int32)) fun v13 h14 => ?_
        show sm _ _ _ _ 160 [(0, .ref a0), (1, .int i1), (2, .int i2), (3, .int i3), (5, .int i5), (6, .int i6), (8, .int i8), (9, .long ((j9 * (6364136223846793005 : Int64)) + (1442695040888963407 : Int64))), (11, .int i11), (12, .int v7)] [.int v13, .int i7] _ _
        refine sm_seg 7 171 [(7, .int (i7 + v13)), (0, .ref a0), (1, .int i1), (2, .int i2), (3, .int i3), (5, .int i5), (6, .int i6), (8, .int i8), (9, .long ((j9 * (6364136223846793005 : Int64)) + (1442695040888963407 : Int64))), (11, .int i11), (12, .int v7)] [.int (i3 - (10 : Int32)), .int v7, .int i8] rfl ?_
        refine sm_if (pc1 := 178) (lv1 := [(0, .ref a0), (1, .int i1), (2, .int i2), (3, .int i3), (5, .int i5), (6, .int i6), (7, .int (i7 + v13)), (9, .long ((j9 * (6364136223846793005 : Int64)) + (1442695040888963407 : Int64))), (11, .int i11)]) (pc2 := 174) (lv2 := [(7, .int (i7 + v13)), (0, .ref a0), (1, .int i1), (2, .int i2), (3, .int i3), (5, .int i5), (6, .int i6), (8, .int i8), (9, .long ((j9 * (6364136223846793005 : Int64)) + (1442695040888963407 : Int64))), (11, .int i11), (12, .int v7)]) (st1 := [.int i8]) rfl rfl rfl (fun h15 => ?_) (fun h15 => ?_)
        · refine sm_seg 5 99 [(0, .ref a0), (1, .int i1), (2, .int i2), (3, .int i3), (5, .int i5), (6, .int i6), (7, .int (i7 + v13)), (8, .int (i8 + (0 : Int32))), (9, .long ((j9 * (6364136223846793005 : Int64)) + (1442695040888963407 : Int64))), (11, .int (i11 + (1 : Int32)))] [] rfl ?_
          exact ih a0 i1 i2 i3 i5 i6 (i7 + v13) (i8 + (0 : Int32)) ((j9 * (6364136223846793005 : Int64)) + (1442695040888963407 : Int64)) (i11 + (1 : Int32)) w
        · refine sm_seg 6 99 [(0, .ref a0), (1, .int i1), (2, .int i2), (3, .int i3), (5, .int i5), (6, .int i6), (7, .int (i7 + v13)), (8, .int (i8 + (1 : Int32))), (9, .long ((j9 * (6364136223846793005 : Int64)) + (1442695040888963407 : Int64))), (11, .int (i11 + (1 : Int32)))] [] rfl ?_
          exact ih a0 i1 i2 i3 i5 i6 (i7 + v13) (i8 + (1 : Int32)) ((j9 * (6364136223846793005 : Int64)) + (1442695040888963407 : Int64)) (i11 + (1 : Int32)) w
      · refine sm_seg 9 171 [(7, .int (i7 + i5)), (0, .ref a0), (1, .int i1), (2, .int i2), (3, .int i3), (5, .int i5), (6, .int i6), (8, .int i8), (9, .long ((j9 * (6364136223846793005 : Int64)) + (1442695040888963407 : Int64))), (11, .int i11), (12, .int v7)] [.int (i3 - (10 : Int32)), .int v7, .int i8] rfl ?_
        refine sm_if (pc1 := 178) (lv1 := [(0, .ref a0), (1, .int i1), (2, .int i2), (3, .int i3), (5, .int i5), (6, .int i6), (7, .int (i7 + i5)), (9, .long ((j9 * (6364136223846793005 : Int64)) + (1442695040888963407 : Int64))), (11, .int i11)]) (pc2 := 174) (lv2 := [(7, .int (i7 + i5)), (0, .ref a0), (1, .int i1), (2, .int i2), (3, .int i3), (5, .int i5), (6, .int i6), (8, .int i8), (9, .long ((j9 * (6364136223846793005 : Int64)) + (1442695040888963407 : Int64))), (11, .int i11), (12, .int v7)]) (st1 := [.int i8]) rfl rfl rfl (fun h16 => ?_) (fun h16 => ?_)
        · refine sm_seg 5 99 [(0, .ref a0), (1, .int i1), (2, .int i2), (3, .int i3), (5, .int i5), (6, .int i6), (7, .int (i7 + i5)), (8, .int (i8 + (0 : Int32))), (9, .long ((j9 * (6364136223846793005 : Int64)) + (1442695040888963407 : Int64))), (11, .int (i11 + (1 : Int32)))] [] rfl ?_
          exact ih a0 i1 i2 i3 i5 i6 (i7 + i5) (i8 + (0 : Int32)) ((j9 * (6364136223846793005 : Int64)) + (1442695040888963407 : Int64)) (i11 + (1 : Int32)) w
        · refine sm_seg 6 99 [(0, .ref a0), (1, .int i1), (2, .int i2), (3, .int i3), (5, .int i5), (6, .int i6), (7, .int (i7 + i5)), (8, .int (i8 + (1 : Int32))), (9, .long ((j9 * (6364136223846793005 : Int64)) + (1442695040888963407 : Int64))), (11, .int (i11 + (1 : Int32)))] [] rfl ?_
          exact ih a0 i1 i2 i3 i5 i6 (i7 + i5) (i8 + (1 : Int32)) ((j9 * (6364136223846793005 : Int64)) + (1442695040888963407 : Int64)) (i11 + (1 : Int32)) w
def fn_188_55 (a0 : Nat) (i1 : Int32) (i2 : Int32) (i3 : Int32) (w : cm_W) : Option (Int32 × cm_W) := (if cm_sh w a0 = some (.inl 10) then (cm_R w a0 12).bind fun r18 => (cm_R w a0 3).bind fun r20 => (if cm_sh w r18 = some (.inl 3) then (fn_42 r18 r20 i1 (0 : Int32) w).bind fun v23 => (if cm_sh v23.2 a0 = some (.inl 10) then (cm_R v23.2 a0 12).bind fun r26 => (if cm_sh v23.2 r26 = some (.inl 3) then (fn_41 v23.2 r26 v23.1).bind fun v29 => (cm_R v23.2 a0 5).bind fun r31 => (if cm_sh v23.2 r31 = some (.inl 6) then fn_188_99  cm_N a0 i1 i2 i3 v23.1 v29 (0 : Int32) (0 : Int32) (cm_L v23.2 r31 7) (0 : Int32) v23.2 else none) else none) else none) else none) else none)
theorem jt_188_55 (a0 : Nat) (i1 : Int32) (i2 : Int32) (i3 : Int32) (w : cm_W) : sm cm_g 188 ck_188 kq_188 55 [(0, .ref a0), (1, .int i1), (2, .int i2), (3, .int i3)] [] w ((fn_188_55 a0 i1 i2 i3 w).map cm_gI) := by
  unfold fn_188_55
  refine sm_seg 1 56 [(0, .ref a0), (1, .int i1), (2, .int i2), (3, .int i3)] [.ref a0] rfl ?_
  refine sm_gd fun h17 => ?_
  refine sm_gR rfl h17 rfl rfl fun r18 h19 => ?_
  show sm _ _ _ _ 59 [(0, .ref a0), (1, .int i1), (2, .int i2), (3, .int i3)] [.ref r18] _ _
  refine sm_seg 1 60 [(0, .ref a0), (1, .int i1), (2, .int i2), (3, .int i3)] [.ref a0, .ref r18] rfl ?_
  refine sm_gR rfl h17 rfl rfl fun r20 h21 => ?_
  show sm _ _ _ _ 63 [(0, .ref a0), (1, .int i1), (2, .int i2), (3, .int i3)] [.ref r20, .ref r18] _ _
  refine sm_seg 2 65 [(0, .ref a0), (1, .int i1), (2, .int i2), (3, .int i3)] [.int (0 : Int32), .int i1, .ref r20, .ref r18] rfl ?_
  refine sm_gd fun h22 => ?_
  refine sm_cV (as := [.ref r20, .int i1, .int (0 : Int32)]) (rest := []) rfl rfl rfl rfl h22 (Nat.le_of_ble_eq_true rfl) (ca_42  r18 r20 i1 (0 : Int32) w) fun v23 h24 => ?_
  show sm _ _ _ _ 68 [(0, .ref a0), (1, .int i1), (2, .int i2), (3, .int i3)] [.int v23.1] _ _
  refine sm_seg 2 71 [(5, .int v23.1), (0, .ref a0), (1, .int i1), (2, .int i2), (3, .int i3)] [.ref a0] rfl ?_
  refine sm_gd fun h25 => ?_
  refine sm_gR rfl h25 rfl rfl fun r26 h27 => ?_
  show sm _ _ _ _ 74 [(5, .int v23.1), (0, .ref a0), (1, .int i1), (2, .int i2), (3, .int i3)] [.ref r26] _ _
  refine sm_seg 1 76 [(5, .int v23.1), (0, .ref a0), (1, .int i1), (2, .int i2), (3, .int i3)] [.int v23.1, .ref r26] rfl ?_
  refine sm_gd fun h28 => ?_
  refine sm_cV (as := [.int v23.1]) (rest := []) rfl rfl rfl rfl h28 (Nat.le_of_ble_eq_true rfl) (ca_41 v23.2 r26 v23.1) fun v29 h30 => ?_
  show sm _ _ _ _ 79 [(5, .int v23.1), (0, .ref a0), (1, .int i1), (2, .int i2), (3, .int i3)] [.int v29] _ _
  refine sm_seg 6 88 [(8, .int (0 : Int32)), (7, .int (0 : Int32)), (6, .int v29), (5, .int v23.1), (0, .ref a0), (1, .int i1), (2, .int i2), (3, .int i3)] [.ref a0] rfl ?_
  refine sm_gR rfl h25 rfl rfl fun r31 h32 => ?_
  show sm _ _ _ _ 91 [(8, .int (0 : Int32)), (7, .int (0 : Int32)), (6, .int v29), (5, .int v23.1), (0, .ref a0), (1, .int i1), (2, .int i2), (3, .int i3)] [.ref r31] _ _
  refine sm_gd fun h33 => ?_
  refine sm_gL rfl h33 rfl ?_
  show sm _ _ _ _ 94 [(8, .int (0 : Int32)), (7, .int (0 : Int32)), (6, .int v29), (5, .int v23.1), (0, .ref a0), (1, .int i1), (2, .int i2), (3, .int i3)] [.long (cm_L v23.2 r31 7)] _ _
  refine sm_seg 3 99 [(0, .ref a0), (1, .int i1), (2, .int i2), (3, .int i3), (5, .int v23.1), (6, .int v29), (7, .int (0 : Int32)), (8, .int (0 : Int32)), (9, .long (cm_L v23.2 r31 7)), (11, .int (0 : Int32))] [] rfl ?_
  exact jt_188_99  cm_N a0 i1 i2 i3 v23.1 v29 (0 : Int32) (0 : Int32) (cm_L v23.2 r31 7) (0 : Int32) v23.2
def fn_188_41 (a0 : Nat) (i1 : Int32) (i2 : Int32) (i3 : Int32) (w : cm_W) : Option (Int32 × cm_W) := fn_188_55  a0 i1 i2 i3 w
theorem jt_188_41 (a0 : Nat) (i1 : Int32) (i2 : Int32) (i3 : Int32) (w : cm_W) : sm cm_g 188 ck_188 kq_188 41 [(0, .ref a0), (1, .int i1), (2, .int i2), (3, .int i3)] [] w ((fn_188_41 a0 i1 i2 i3 w).map cm_gI) := by
  unfold fn_188_41
  refine sm_seg 4 50 [(4, .int (1 : Int32)), (0, .ref a0), (1, .int i1), (2, .int i2), (3, .int i3)] [.int (1 : Int32)] rfl ?_
  refine sm_ift (c := ¬ (1 : Int32) = 0) (pc1 := 55) (pc2 := 53) (lv1 := [(0, .ref a0), (1, .int i1), (2, .int i2), (3, .int i3)]) (st1 := []) rfl (by decide) rfl ?_
  exact jt_188_55  a0 i1 i2 i3 w
def fn_188_45 (a0 : Nat) (i1 : Int32) (i2 : Int32) (i3 : Int32) (w : cm_W) : Option (Int32 × cm_W) := some ((-1 : Int32), w)
theorem jt_188_45 (a0 : Nat) (i1 : Int32) (i2 : Int32) (i3 : Int32) (w : cm_W) : sm cm_g 188 ck_188 kq_188 45 [(0, .ref a0), (1, .int i1), (2, .int i2), (3, .int i3)] [] w ((fn_188_45 a0 i1 i2 i3 w).map cm_gI) := by
  unfold fn_188_45
  refine sm_seg 3 50 [(4, .int (0 : Int32)), (0, .ref a0), (1, .int i1), (2, .int i2), (3, .int i3)] [.int (0 : Int32)] rfl ?_
  refine sm_iff (c := ¬ (0 : Int32) = 0) (pc1 := 55) (pc2 := 53) (lv1 := [(4, .int (0 : Int32)), (0, .ref a0), (1, .int i1), (2, .int i2), (3, .int i3)]) (st1 := []) rfl (by decide) rfl ?_
  refine sm_seg 1 54 [(4, .int (0 : Int32)), (0, .ref a0), (1, .int i1), (2, .int i2), (3, .int i3)] [.int (-1 : Int32)] rfl ?_
  exact sm_rIW rfl rfl
def fn_188 (a0 : Nat) (i1 : Int32) (i2 : Int32) (i3 : Int32) (w : cm_W) : Option (Int32 × cm_W) := (if cm_sh w a0 = some (.inl 10) then (fn_177 w a0 i1).bind fun v35 => (if (cm_b v35) = 0 then fn_188_45  a0 i1 i2 i3 w else (if i2 < (1 : Int32) then fn_188_45  a0 i1 i2 i3 w else (if (1000 : Int32) < i2 then fn_188_45  a0 i1 i2 i3 w else (if i3 = 0 then fn_188_41  a0 i1 i2 i3 w else (cm_R w a0 3).bind fun r41 => (if cm_sh w r41 = some (.inl 9) then (cm_R w r41 1).bind fun r44 => (if cm_sh w r44 = some (.inl 7) then (fn_7 w r44 (i3 - (10 : Int32))).bind fun v47 => (if (cm_b v47) = 0 then fn_188_45  a0 i1 i2 i3 w else fn_188_41  a0 i1 i2 i3 w) else none) else none))))) else none)
theorem jt_188_0 (a0 : Nat) (i1 : Int32) (i2 : Int32) (i3 : Int32) (w : cm_W) : sm cm_g 188 ck_188 kq_188 0 [(0, .ref a0), (1, .int i1), (2, .int i2), (3, .int i3)] [] w ((fn_188 a0 i1 i2 i3 w).map cm_gI) := by
  unfold fn_188
  refine sm_seg 2 2 [(0, .ref a0), (1, .int i1), (2, .int i2), (3, .int i3)] [.int i1, .ref a0] rfl ?_
  refine sm_gd fun h34 => ?_
  refine sm_cV (as := [.int i1]) (rest := []) rfl rfl rfl rfl h34 (Nat.le_of_ble_eq_true rfl) (ca_177 w a0 i1) fun v35 h36 => ?_
  show sm _ _ _ _ 5 [(0, .ref a0), (1, .int i1), (2, .int i2), (3, .int i3)] [.int (cm_b v35)] _ _
  refine sm_if (pc1 := 45) (lv1 := [(0, .ref a0), (1, .int i1), (2, .int i2), (3, .int i3)]) (pc2 := 8) (lv2 := [(0, .ref a0), (1, .int i1), (2, .int i2), (3, .int i3)]) (st1 := []) rfl rfl rfl (fun h37 => ?_) (fun h37 => ?_)
  · exact jt_188_45  a0 i1 i2 i3 w
  · refine sm_seg 2 10 [(0, .ref a0), (1, .int i1), (2, .int i2), (3, .int i3)] [.int (1 : Int32), .int i2] rfl ?_
    refine sm_if (pc1 := 45) (lv1 := [(0, .ref a0), (1, .int i1), (2, .int i2), (3, .int i3)]) (pc2 := 13) (lv2 := [(0, .ref a0), (1, .int i1), (2, .int i2), (3, .int i3)]) (st1 := []) rfl rfl rfl (fun h38 => ?_) (fun h38 => ?_)
    · exact jt_188_45  a0 i1 i2 i3 w
    · refine sm_seg 2 17 [(0, .ref a0), (1, .int i1), (2, .int i2), (3, .int i3)] [.int (1000 : Int32), .int i2] rfl ?_
      refine sm_if (pc1 := 45) (lv1 := [(0, .ref a0), (1, .int i1), (2, .int i2), (3, .int i3)]) (pc2 := 20) (lv2 := [(0, .ref a0), (1, .int i1), (2, .int i2), (3, .int i3)]) (st1 := []) rfl rfl rfl (fun h39 => ?_) (fun h39 => ?_)
      · exact jt_188_45  a0 i1 i2 i3 w
      · refine sm_seg 1 21 [(0, .ref a0), (1, .int i1), (2, .int i2), (3, .int i3)] [.int i3] rfl ?_
        refine sm_if (pc1 := 41) (lv1 := [(0, .ref a0), (1, .int i1), (2, .int i2), (3, .int i3)]) (pc2 := 24) (lv2 := [(0, .ref a0), (1, .int i1), (2, .int i2), (3, .int i3)]) (st1 := []) rfl rfl rfl (fun h40 => ?_) (fun h40 => ?_)
        · exact jt_188_41  a0 i1 i2 i3 w
        · refine sm_seg 1 25 [(0, .ref a0), (1, .int i1), (2, .int i2), (3, .int i3)] [.ref a0] rfl ?_
          refine sm_gR rfl h34 rfl rfl fun r41 h42 => ?_
          show sm _ _ _ _ 28 [(0, .ref a0), (1, .int i1), (2, .int i2), (3, .int i3)] [.ref r41] _ _
          refine sm_gd fun h43 => ?_
          refine sm_gR rfl h43 rfl rfl fun r44 h45 => ?_
          show sm _ _ _ _ 31 [(0, .ref a0), (1, .int i1), (2, .int i2), (3, .int i3)] [.ref r44] _ _
          refine sm_seg 3 35 [(0, .ref a0), (1, .int i1), (2, .int i2), (3, .int i3)] [.int (i3 - (10 : Int32)), .ref r44] rfl ?_
          refine sm_gd fun h46 => ?_
          refine sm_cV (as := [.int (i3 - (10 : Int32))]) (rest := []) rfl rfl rfl rfl h46 (Nat.le_of_ble_eq_true rfl) (ca_7 w r44 (i3 - (10 : Int32))) fun v47 h48 => ?_
          show sm _ _ _ _ 38 [(0, .ref a0), (1, .int i1), (2, .int i2), (3, .int i3)] [.int (cm_b v47)] _ _
          refine sm_if (pc1 := 45) (lv1 := [(0, .ref a0), (1, .int i1), (2, .int i2), (3, .int i3)]) (pc2 := 41) (lv2 := [(0, .ref a0), (1, .int i1), (2, .int i2), (3, .int i3)]) (st1 := []) rfl rfl rfl (fun h49 => ?_) (fun h49 => ?_)
          · exact jt_188_45  a0 i1 i2 i3 w
          · exact jt_188_41  a0 i1 i2 i3 w
theorem ca_188 (a0 : Nat) (i1 : Int32) (i2 : Int32) (i3 : Int32) (w : cm_W) : cm_ca cm_g 188 [.ref a0, .int i1, .int i2, .int i3] w ((fn_188 a0 i1 i2 i3 w).map cm_gI) := cm_ca_of (cm_me_of rfl rfl) rfl (jt_188_0 a0 i1 i2 i3 w)
-- NailedBoxes.seed(I)Z
def fn_189_11 (a0 : Nat) (w : cm_W) : Option (Bool × cm_W) := (if cm_sh w a0 = some (.inl 10) then (fn_148 a0 (0 : Int32) w).bind fun v2 => some (v2.1, v2.2) else none)
theorem jt_189_11 (a0 : Nat) (w : cm_W) : sm cm_g 189 ck_189 kq_189 11 [(0, .ref a0)] [] w ((fn_189_11 a0 w).map cm_gB) := by
  unfold fn_189_11
  refine sm_seg 2 13 [(0, .ref a0)] [.int (0 : Int32), .ref a0] rfl ?_
  refine sm_gd fun h1 => ?_
  refine sm_cV (as := [.int (0 : Int32)]) (rest := []) rfl rfl rfl rfl h1 (Nat.le_of_ble_eq_true rfl) (ca_148  a0 (0 : Int32) w) fun v2 h3 => ?_
  show sm _ _ _ _ 16 [(0, .ref a0)] [.int (cm_b v2.1)] _ _
  exact sm_rBW (b := v2.1) rfl rfl
def fn_189_17 (a0 : Nat) (i1 : Int32) (w : cm_W) : Option (Bool × cm_W) := (if cm_sh w a0 = some (.inl 10) then (cm_R w a0 5).bind fun r5 => (if cm_sh w r5 = some (.inl 6) then (if cm_w2 2 96 r5 = true then some (true, (cm_sL w r5 7 (Int32.toInt64 i1))) else none) else none) else none)
theorem jt_189_17 (a0 : Nat) (i1 : Int32) (w : cm_W) : sm cm_g 189 ck_189 kq_189 17 [(0, .ref a0), (1, .int i1)] [] w ((fn_189_17 a0 i1 w).map cm_gB) := by
  unfold fn_189_17
  refine sm_seg 1 18 [(0, .ref a0), (1, .int i1)] [.ref a0] rfl ?_
  refine sm_gd fun h4 => ?_
  refine sm_gR rfl h4 rfl rfl fun r5 h6 => ?_
  show sm _ _ _ _ 21 [(0, .ref a0), (1, .int i1)] [.ref r5] _ _
  refine sm_seg 2 23 [(0, .ref a0), (1, .int i1)] [.long (Int32.toInt64 i1), .ref r5] rfl ?_
  refine sm_gd fun h7 => ?_
  refine sm_gd fun h8 => ?_
  refine sm_pL rfl h7 rfl h8 rfl ?_
  show sm _ _ _ _ 26 [(0, .ref a0), (1, .int i1)] [] _ _
  refine sm_seg 1 27 [(0, .ref a0), (1, .int i1)] [.int (1 : Int32)] rfl ?_
  exact sm_rBW (b := true) rfl rfl
def fn_189 (a0 : Nat) (i1 : Int32) (w : cm_W) : Option (Bool × cm_W) := (if i1 < 0 then fn_189_11  a0 w else (if i1 ≤ (999999999 : Int32) then fn_189_17  a0 i1 w else fn_189_11  a0 w))
theorem jt_189_0 (a0 : Nat) (i1 : Int32) (w : cm_W) : sm cm_g 189 ck_189 kq_189 0 [(0, .ref a0), (1, .int i1)] [] w ((fn_189 a0 i1 w).map cm_gB) := by
  unfold fn_189
  refine sm_seg 1 1 [(0, .ref a0), (1, .int i1)] [.int i1] rfl ?_
  refine sm_if (pc1 := 11) (lv1 := [(0, .ref a0)]) (pc2 := 4) (lv2 := [(0, .ref a0), (1, .int i1)]) (st1 := []) rfl rfl rfl (fun h9 => ?_) (fun h9 => ?_)
  · exact jt_189_11  a0 w
  · refine sm_seg 2 8 [(0, .ref a0), (1, .int i1)] [.int (999999999 : Int32), .int i1] rfl ?_
    refine sm_if (pc1 := 17) (lv1 := [(0, .ref a0), (1, .int i1)]) (pc2 := 11) (lv2 := [(0, .ref a0)]) (st1 := []) rfl rfl rfl (fun h10 => ?_) (fun h10 => ?_)
    · exact jt_189_17  a0 i1 w
    · exact jt_189_11  a0 w
theorem ca_189 (a0 : Nat) (i1 : Int32) (w : cm_W) : cm_ca cm_g 189 [.ref a0, .int i1] w ((fn_189 a0 i1 w).map cm_gB) := cm_ca_of (cm_me_of rfl rfl) rfl (jt_189_0 a0 i1 w)
-- NailedBoxes.image()I
def fn_190_14 (a0 : Nat) (w : cm_W) : Option (Int32 × cm_W) := (if cm_sh w a0 = some (.inl 10) then (cm_R w a0 6).bind fun r2 => (if cm_ga w (.object "NailedBoxes$State") r2 (cm_I w a0 7) = true then (if 2 ≤ r2 then (cm_R w r2 (cm_I w a0 7).toNatClampNeg).bind fun r6 => (cm_R w a0 5).bind fun r8 => (if cm_sh w r6 = some (.inl 6) then (fn_97 r6 r8 w).bind fun w11 => (if cm_sh w11 a0 = some (.inl 10) then (if cm_w2 2 96 a0 = true then some (((cm_I (cm_sI w11 a0 7 ((cm_I w11 a0 7) + (1 : Int32))) a0 7) - (1 : Int32)), (cm_sI w11 a0 7 ((cm_I w11 a0 7) + (1 : Int32)))) else none) else none) else none) else none) else none) else none)
theorem jt_190_14 (a0 : Nat) (w : cm_W) : sm cm_g 190 ck_190 kq_190 14 [(0, .ref a0)] [] w ((fn_190_14 a0 w).map cm_gI) := by
  unfold fn_190_14
  refine sm_seg 1 15 [(0, .ref a0)] [.ref a0] rfl ?_
  refine sm_gd fun h1 => ?_
  refine sm_gR rfl h1 rfl rfl fun r2 h3 => ?_
  show sm _ _ _ _ 18 [(0, .ref a0)] [.ref r2] _ _
  refine sm_seg 1 19 [(0, .ref a0)] [.ref a0, .ref r2] rfl ?_
  refine sm_gI rfl h1 rfl ?_
  show sm _ _ _ _ 22 [(0, .ref a0)] [.int (cm_I w a0 7), .ref r2] _ _
  refine sm_gd fun h4 => ?_
  refine sm_gd fun h5 => ?_
  refine sm_aa rfl h4 h5 rfl fun r6 h7 => ?_
  show sm _ _ _ _ 23 [(0, .ref a0)] [.ref r6] _ _
  refine sm_seg 1 24 [(0, .ref a0)] [.ref a0, .ref r6] rfl ?_
  refine sm_gR rfl h1 rfl rfl fun r8 h9 => ?_
  show sm _ _ _ _ 27 [(0, .ref a0)] [.ref r8, .ref r6] _ _
  refine sm_gd fun h10 => ?_
  refine sm_cV (as := [.ref r8]) (rest := []) rfl rfl rfl rfl h10 (Nat.le_of_ble_eq_true rfl) (ca_97  r6 r8 w) fun w11 h12 => ?_
  show sm _ _ _ _ 30 [(0, .ref a0)] [] _ _
  refine sm_seg 2 32 [(0, .ref a0)] [.ref a0, .ref a0] rfl ?_
  refine sm_gd fun h13 => ?_
  refine sm_gI rfl h13 rfl ?_
  show sm _ _ _ _ 35 [(0, .ref a0)] [.int (cm_I w11 a0 7), .ref a0] _ _
  refine sm_seg 2 37 [(0, .ref a0)] [.int ((cm_I w11 a0 7) + (1 : Int32)), .ref a0] rfl ?_
  refine sm_gd fun h14 => ?_
  refine sm_pI rfl h13 rfl h14 rfl ?_
  show sm _ _ _ _ 40 [(0, .ref a0)] [] _ _
  refine sm_seg 1 41 [(0, .ref a0)] [.ref a0] rfl ?_
  refine sm_gI rfl h13 rfl ?_
  show sm _ _ _ _ 44 [(0, .ref a0)] [.int (cm_I (cm_sI w11 a0 7 ((cm_I w11 a0 7) + (1 : Int32))) a0 7)] _ _
  refine sm_seg 2 46 [(0, .ref a0)] [.int ((cm_I (cm_sI w11 a0 7 ((cm_I w11 a0 7) + (1 : Int32))) a0 7) - (1 : Int32))] rfl ?_
  exact sm_rIW rfl rfl
def fn_190 (a0 : Nat) (w : cm_W) : Option (Int32 × cm_W) := (if cm_sh w a0 = some (.inl 10) then (if (cm_I w a0 7) < (3 : Int32) then fn_190_14  a0 w else (fn_140 a0 (1 : Int32) w).bind fun v17 => some (v17.1, v17.2)) else none)
theorem jt_190_0 (a0 : Nat) (w : cm_W) : sm cm_g 190 ck_190 kq_190 0 [(0, .ref a0)] [] w ((fn_190 a0 w).map cm_gI) := by
  unfold fn_190
  refine sm_seg 1 1 [(0, .ref a0)] [.ref a0] rfl ?_
  refine sm_gd fun h15 => ?_
  refine sm_gI rfl h15 rfl ?_
  show sm _ _ _ _ 4 [(0, .ref a0)] [.int (cm_I w a0 7)] _ _
  refine sm_seg 1 5 [(0, .ref a0)] [.int (3 : Int32), .int (cm_I w a0 7)] rfl ?_
  refine sm_if (pc1 := 14) (lv1 := [(0, .ref a0)]) (pc2 := 8) (lv2 := [(0, .ref a0)]) (st1 := []) rfl rfl rfl (fun h16 => ?_) (fun h16 => ?_)
  · exact jt_190_14  a0 w
  · refine sm_seg 2 10 [(0, .ref a0)] [.int (1 : Int32), .ref a0] rfl ?_
    refine sm_cV (as := [.int (1 : Int32)]) (rest := []) rfl rfl rfl rfl h15 (Nat.le_of_ble_eq_true rfl) (ca_140  a0 (1 : Int32) w) fun v17 h18 => ?_
    show sm _ _ _ _ 13 [(0, .ref a0)] [.int v17.1] _ _
    exact sm_rIW rfl rfl
theorem ca_190 (a0 : Nat) (w : cm_W) : cm_ca cm_g 190 [.ref a0] w ((fn_190 a0 w).map cm_gI) := cm_ca_of (cm_me_of rfl rfl) rfl (jt_190_0 a0 w)
-- NailedBoxes.back(I)Z
def fn_191_17 (a0 : Nat) (w : cm_W) : Option (Bool × cm_W) := (if cm_sh w a0 = some (.inl 10) then (fn_148 a0 (0 : Int32) w).bind fun v2 => some (v2.1, v2.2) else none)
theorem jt_191_17 (a0 : Nat) (w : cm_W) : sm cm_g 191 ck_191 kq_191 17 [(0, .ref a0)] [] w ((fn_191_17 a0 w).map cm_gB) := by
  unfold fn_191_17
  refine sm_seg 2 19 [(0, .ref a0)] [.int (0 : Int32), .ref a0] rfl ?_
  refine sm_gd fun h1 => ?_
  refine sm_cV (as := [.int (0 : Int32)]) (rest := []) rfl rfl rfl rfl h1 (Nat.le_of_ble_eq_true rfl) (ca_148  a0 (0 : Int32) w) fun v2 h3 => ?_
  show sm _ _ _ _ 22 [(0, .ref a0)] [.int (cm_b v2.1)] _ _
  exact sm_rBW (b := v2.1) rfl rfl
def fn_191_23 (a0 : Nat) (i1 : Int32) (w : cm_W) : Option (Bool × cm_W) := (if cm_sh w a0 = some (.inl 10) then (cm_R w a0 5).bind fun r5 => (cm_R w a0 6).bind fun r7 => (if cm_ga w (.object "NailedBoxes$State") r7 i1 = true then (if 2 ≤ r7 then (cm_R w r7 i1.toNatClampNeg).bind fun r11 => (if cm_sh w r5 = some (.inl 6) then (fn_97 r5 r11 w).bind fun w14 => some (true, w14) else none) else none) else none) else none)
theorem jt_191_23 (a0 : Nat) (i1 : Int32) (w : cm_W) : sm cm_g 191 ck_191 kq_191 23 [(0, .ref a0), (1, .int i1)] [] w ((fn_191_23 a0 i1 w).map cm_gB) := by
  unfold fn_191_23
  refine sm_seg 1 24 [(0, .ref a0), (1, .int i1)] [.ref a0] rfl ?_
  refine sm_gd fun h4 => ?_
  refine sm_gR rfl h4 rfl rfl fun r5 h6 => ?_
  show sm _ _ _ _ 27 [(0, .ref a0), (1, .int i1)] [.ref r5] _ _
  refine sm_seg 1 28 [(0, .ref a0), (1, .int i1)] [.ref a0, .ref r5] rfl ?_
  refine sm_gR rfl h4 rfl rfl fun r7 h8 => ?_
  show sm _ _ _ _ 31 [(0, .ref a0), (1, .int i1)] [.ref r7, .ref r5] _ _
  refine sm_seg 1 32 [(0, .ref a0), (1, .int i1)] [.int i1, .ref r7, .ref r5] rfl ?_
  refine sm_gd fun h9 => ?_
  refine sm_gd fun h10 => ?_
  refine sm_aa rfl h9 h10 rfl fun r11 h12 => ?_
  show sm _ _ _ _ 33 [(0, .ref a0), (1, .int i1)] [.ref r11, .ref r5] _ _
  refine sm_gd fun h13 => ?_
  refine sm_cV (as := [.ref r11]) (rest := []) rfl rfl rfl rfl h13 (Nat.le_of_ble_eq_true rfl) (ca_97  r5 r11 w) fun w14 h15 => ?_
  show sm _ _ _ _ 36 [(0, .ref a0), (1, .int i1)] [] _ _
  refine sm_seg 1 37 [(0, .ref a0), (1, .int i1)] [.int (1 : Int32)] rfl ?_
  exact sm_rBW (b := true) rfl rfl
def fn_191 (a0 : Nat) (i1 : Int32) (w : cm_W) : Option (Bool × cm_W) := (if i1 < 0 then fn_191_17  a0 w else (if cm_sh w a0 = some (.inl 10) then (if (cm_I w a0 7) ≤ i1 then fn_191_17  a0 w else (if i1 < (3 : Int32) then fn_191_23  a0 i1 w else fn_191_17  a0 w)) else none))
theorem jt_191_0 (a0 : Nat) (i1 : Int32) (w : cm_W) : sm cm_g 191 ck_191 kq_191 0 [(0, .ref a0), (1, .int i1)] [] w ((fn_191 a0 i1 w).map cm_gB) := by
  unfold fn_191
  refine sm_seg 1 1 [(0, .ref a0), (1, .int i1)] [.int i1] rfl ?_
  refine sm_if (pc1 := 17) (lv1 := [(0, .ref a0)]) (pc2 := 4) (lv2 := [(0, .ref a0), (1, .int i1)]) (st1 := []) rfl rfl rfl (fun h16 => ?_) (fun h16 => ?_)
  · exact jt_191_17  a0 w
  · refine sm_seg 2 6 [(0, .ref a0), (1, .int i1)] [.ref a0, .int i1] rfl ?_
    refine sm_gd fun h17 => ?_
    refine sm_gI rfl h17 rfl ?_
    show sm _ _ _ _ 9 [(0, .ref a0), (1, .int i1)] [.int (cm_I w a0 7), .int i1] _ _
    refine sm_if (pc1 := 17) (lv1 := [(0, .ref a0)]) (pc2 := 12) (lv2 := [(0, .ref a0), (1, .int i1)]) (st1 := []) rfl rfl rfl (fun h18 => ?_) (fun h18 => ?_)
    · exact jt_191_17  a0 w
    · refine sm_seg 2 14 [(0, .ref a0), (1, .int i1)] [.int (3 : Int32), .int i1] rfl ?_
      refine sm_if (pc1 := 23) (lv1 := [(0, .ref a0), (1, .int i1)]) (pc2 := 17) (lv2 := [(0, .ref a0)]) (st1 := []) rfl rfl rfl (fun h19 => ?_) (fun h19 => ?_)
      · exact jt_191_23  a0 i1 w
      · exact jt_191_17  a0 w
theorem ca_191 (a0 : Nat) (i1 : Int32) (w : cm_W) : cm_ca cm_g 191 [.ref a0, .int i1] w ((fn_191 a0 i1 w).map cm_gB) := cm_ca_of (cm_me_of rfl rfl) rfl (jt_191_0 a0 i1 w)
-- NailedBoxes.count(I)I
def fn_192_83 (w : cm_W) (a0 : Nat) : Option Int32 := (if cm_sh w a0 = some (.inl 10) then (cm_R w a0 3).bind fun r2 => (if cm_sh w r2 = some (.inl 9) then (cm_R w r2 3).bind fun r5 => (if cm_sh w r5 = some (.inl 7) then some (cm_I w r5 2) else none) else none) else none)
theorem jt_192_83 (w : cm_W) (a0 : Nat) : sm cm_g 192 ck_192 kq_192 83 [(0, .ref a0)] [] w ((fn_192_83 w a0).map (cm_fI w)) := by
  unfold fn_192_83
  refine sm_seg 1 84 [(0, .ref a0)] [.ref a0] rfl ?_
  refine sm_gd fun h1 => ?_
  refine sm_gR rfl h1 rfl rfl fun r2 h3 => ?_
  show sm _ _ _ _ 87 [(0, .ref a0)] [.ref r2] _ _
  refine sm_gd fun h4 => ?_
  refine sm_gR rfl h4 rfl rfl fun r5 h6 => ?_
  show sm _ _ _ _ 90 [(0, .ref a0)] [.ref r5] _ _
  refine sm_gd fun h7 => ?_
  refine sm_gI rfl h7 rfl ?_
  show sm _ _ _ _ 93 [(0, .ref a0)] [.int (cm_I w r5 2)] _ _
  exact sm_rI rfl rfl
def fn_192_94 (w : cm_W) (a0 : Nat) : Option Int32 := (if cm_sh w a0 = some (.inl 10) then (cm_R w a0 3).bind fun r9 => (if cm_sh w r9 = some (.inl 9) then (cm_R w r9 5).bind fun r12 => (if cm_sh w r12 = some (.inl 7) then some (cm_I w r12 2) else none) else none) else none)
theorem jt_192_94 (w : cm_W) (a0 : Nat) : sm cm_g 192 ck_192 kq_192 94 [(0, .ref a0)] [] w ((fn_192_94 w a0).map (cm_fI w)) := by
  unfold fn_192_94
  refine sm_seg 1 95 [(0, .ref a0)] [.ref a0] rfl ?_
  refine sm_gd fun h8 => ?_
  refine sm_gR rfl h8 rfl rfl fun r9 h10 => ?_
  show sm _ _ _ _ 98 [(0, .ref a0)] [.ref r9] _ _
  refine sm_gd fun h11 => ?_
  refine sm_gR rfl h11 rfl rfl fun r12 h13 => ?_
  show sm _ _ _ _ 101 [(0, .ref a0)] [.ref r12] _ _
  refine sm_gd fun h14 => ?_
  refine sm_gI rfl h14 rfl ?_
  show sm _ _ _ _ 104 [(0, .ref a0)] [.int (cm_I w r12 2)] _ _
  exact sm_rI rfl rfl
def fn_192_105 (w : cm_W) (a0 : Nat) : Option Int32 := (if cm_sh w a0 = some (.inl 10) then (cm_R w a0 5).bind fun r16 => (if cm_sh w r16 = some (.inl 6) then (cm_R w r16 0).bind fun r19 => (if cm_sh w r19 = some (.inl 7) then some (cm_I w r19 2) else none) else none) else none)
theorem jt_192_105 (w : cm_W) (a0 : Nat) : sm cm_g 192 ck_192 kq_192 105 [(0, .ref a0)] [] w ((fn_192_105 w a0).map (cm_fI w)) := by
  unfold fn_192_105
  refine sm_seg 1 106 [(0, .ref a0)] [.ref a0] rfl ?_
  refine sm_gd fun h15 => ?_
  refine sm_gR rfl h15 rfl rfl fun r16 h17 => ?_
  show sm _ _ _ _ 109 [(0, .ref a0)] [.ref r16] _ _
  refine sm_gd fun h18 => ?_
  refine sm_gR rfl h18 rfl rfl fun r19 h20 => ?_
  show sm _ _ _ _ 112 [(0, .ref a0)] [.ref r19] _ _
  refine sm_gd fun h21 => ?_
  refine sm_gI rfl h21 rfl ?_
  show sm _ _ _ _ 115 [(0, .ref a0)] [.int (cm_I w r19 2)] _ _
  exact sm_rI rfl rfl
def fn_192_116 (w : cm_W) (a0 : Nat) : Option Int32 := (if cm_sh w a0 = some (.inl 10) then (cm_R w a0 5).bind fun r23 => (if cm_sh w r23 = some (.inl 6) then (cm_R w r23 1).bind fun r26 => (if cm_sh w r26 = some (.inl 7) then some (cm_I w r26 2) else none) else none) else none)
theorem jt_192_116 (w : cm_W) (a0 : Nat) : sm cm_g 192 ck_192 kq_192 116 [(0, .ref a0)] [] w ((fn_192_116 w a0).map (cm_fI w)) := by
  unfold fn_192_116
  refine sm_seg 1 117 [(0, .ref a0)] [.ref a0] rfl ?_
  refine sm_gd fun h22 => ?_
  refine sm_gR rfl h22 rfl rfl fun r23 h24 => ?_
  show sm _ _ _ _ 120 [(0, .ref a0)] [.ref r23] _ _
  refine sm_gd fun h25 => ?_
  refine sm_gR rfl h25 rfl rfl fun r26 h27 => ?_
  show sm _ _ _ _ 123 [(0, .ref a0)] [.ref r26] _ _
  refine sm_gd fun h28 => ?_
  refine sm_gI rfl h28 rfl ?_
  show sm _ _ _ _ 126 [(0, .ref a0)] [.int (cm_I w r26 2)] _ _
  exact sm_rI rfl rfl
def fn_192_127 (w : cm_W) (a0 : Nat) : Option Int32 := (if cm_sh w a0 = some (.inl 10) then (cm_R w a0 5).bind fun r30 => (if cm_sh w r30 = some (.inl 6) then some (cm_I w r30 6) else none) else none)
theorem jt_192_127 (w : cm_W) (a0 : Nat) : sm cm_g 192 ck_192 kq_192 127 [(0, .ref a0)] [] w ((fn_192_127 w a0).map (cm_fI w)) := by
  unfold fn_192_127
  refine sm_seg 1 128 [(0, .ref a0)] [.ref a0] rfl ?_
  refine sm_gd fun h29 => ?_
  refine sm_gR rfl h29 rfl rfl fun r30 h31 => ?_
  show sm _ _ _ _ 131 [(0, .ref a0)] [.ref r30] _ _
  refine sm_gd fun h32 => ?_
  refine sm_gI rfl h32 rfl ?_
  show sm _ _ _ _ 134 [(0, .ref a0)] [.int (cm_I w r30 6)] _ _
  exact sm_rI rfl rfl
def fn_192_135 (w : cm_W) (a0 : Nat) : Option Int32 := (if cm_sh w a0 = some (.inl 10) then (cm_R w a0 5).bind fun r34 => (if cm_sh w r34 = some (.inl 6) then (cm_R w r34 3).bind fun r37 => (if cm_sh w r37 = some (.inl 7) then some (cm_I w r37 2) else none) else none) else none)
theorem jt_192_135 (w : cm_W) (a0 : Nat) : sm cm_g 192 ck_192 kq_192 135 [(0, .ref a0)] [] w ((fn_192_135 w a0).map (cm_fI w)) := by
  unfold fn_192_135
  refine sm_seg 1 136 [(0, .ref a0)] [.ref a0] rfl ?_
  refine sm_gd fun h33 => ?_
  refine sm_gR rfl h33 rfl rfl fun r34 h35 => ?_
  show sm _ _ _ _ 139 [(0, .ref a0)] [.ref r34] _ _
  refine sm_gd fun h36 => ?_
  refine sm_gR rfl h36 rfl rfl fun r37 h38 => ?_
  show sm _ _ _ _ 142 [(0, .ref a0)] [.ref r37] _ _
  refine sm_gd fun h39 => ?_
  refine sm_gI rfl h39 rfl ?_
  show sm _ _ _ _ 145 [(0, .ref a0)] [.int (cm_I w r37 2)] _ _
  exact sm_rI rfl rfl
def fn_192_146 (w : cm_W) (a0 : Nat) : Option Int32 := (if cm_sh w a0 = some (.inl 10) then some (cm_I w a0 1) else none)
theorem jt_192_146 (w : cm_W) (a0 : Nat) : sm cm_g 192 ck_192 kq_192 146 [(0, .ref a0)] [] w ((fn_192_146 w a0).map (cm_fI w)) := by
  unfold fn_192_146
  refine sm_seg 1 147 [(0, .ref a0)] [.ref a0] rfl ?_
  refine sm_gd fun h40 => ?_
  refine sm_gI rfl h40 rfl ?_
  show sm _ _ _ _ 150 [(0, .ref a0)] [.int (cm_I w a0 1)] _ _
  exact sm_rI rfl rfl
def fn_192_151 (w : cm_W) (a0 : Nat) : Option Int32 := (if cm_sh w a0 = some (.inl 10) then some (cm_I w a0 7) else none)
theorem jt_192_151 (w : cm_W) (a0 : Nat) : sm cm_g 192 ck_192 kq_192 151 [(0, .ref a0)] [] w ((fn_192_151 w a0).map (cm_fI w)) := by
  unfold fn_192_151
  refine sm_seg 1 152 [(0, .ref a0)] [.ref a0] rfl ?_
  refine sm_gd fun h41 => ?_
  refine sm_gI rfl h41 rfl ?_
  show sm _ _ _ _ 155 [(0, .ref a0)] [.int (cm_I w a0 7)] _ _
  exact sm_rI rfl rfl
def fn_192_156 (w : cm_W) (a0 : Nat) : Option Int32 := (if cm_sh w a0 = some (.inl 10) then (cm_R w a0 3).bind fun r43 => (if cm_sh w r43 = some (.inl 9) then some (cm_I w r43 9) else none) else none)
theorem jt_192_156 (w : cm_W) (a0 : Nat) : sm cm_g 192 ck_192 kq_192 156 [(0, .ref a0)] [] w ((fn_192_156 w a0).map (cm_fI w)) := by
  unfold fn_192_156
  refine sm_seg 1 157 [(0, .ref a0)] [.ref a0] rfl ?_
  refine sm_gd fun h42 => ?_
  refine sm_gR rfl h42 rfl rfl fun r43 h44 => ?_
  show sm _ _ _ _ 160 [(0, .ref a0)] [.ref r43] _ _
  refine sm_gd fun h45 => ?_
  refine sm_gI rfl h45 rfl ?_
  show sm _ _ _ _ 163 [(0, .ref a0)] [.int (cm_I w r43 9)] _ _
  exact sm_rI rfl rfl
def fn_192_164 (w : cm_W) (a0 : Nat) : Option Int32 := (if cm_sh w a0 = some (.inl 10) then (cm_R w a0 5).bind fun r47 => (if cm_sh w r47 = some (.inl 6) then (cm_R w r47 2).bind fun r50 => (if cm_sh w r50 = some (.inl 7) then some (cm_I w r50 2) else none) else none) else none)
theorem jt_192_164 (w : cm_W) (a0 : Nat) : sm cm_g 192 ck_192 kq_192 164 [(0, .ref a0)] [] w ((fn_192_164 w a0).map (cm_fI w)) := by
  unfold fn_192_164
  refine sm_seg 1 165 [(0, .ref a0)] [.ref a0] rfl ?_
  refine sm_gd fun h46 => ?_
  refine sm_gR rfl h46 rfl rfl fun r47 h48 => ?_
  show sm _ _ _ _ 168 [(0, .ref a0)] [.ref r47] _ _
  refine sm_gd fun h49 => ?_
  refine sm_gR rfl h49 rfl rfl fun r50 h51 => ?_
  show sm _ _ _ _ 171 [(0, .ref a0)] [.ref r50] _ _
  refine sm_gd fun h52 => ?_
  refine sm_gI rfl h52 rfl ?_
  show sm _ _ _ _ 174 [(0, .ref a0)] [.int (cm_I w r50 2)] _ _
  exact sm_rI rfl rfl
def fn_192_175 (w : cm_W) (a0 : Nat) (i1 : Int32) : Option Int32 := (if i1 < (10 : Int32) then some (-1 : Int32) else (if (13 : Int32) ≤ i1 then some (-1 : Int32) else (if cm_sh w a0 = some (.inl 10) then (cm_R w a0 8).bind fun r56 => (if cm_ga w .int r56 (i1 - (10 : Int32)) = true then some (cm_I w r56 (i1 - (10 : Int32)).toNatClampNeg) else none) else none)))
theorem jt_192_175 (w : cm_W) (a0 : Nat) (i1 : Int32) : sm cm_g 192 ck_192 kq_192 175 [(0, .ref a0), (1, .int i1)] [] w ((fn_192_175 w a0 i1).map (cm_fI w)) := by
  unfold fn_192_175
  refine sm_seg 2 178 [(0, .ref a0), (1, .int i1)] [.int (10 : Int32), .int i1] rfl ?_
  refine sm_if (pc1 := 199) (lv1 := []) (pc2 := 181) (lv2 := [(0, .ref a0), (1, .int i1)]) (st1 := []) rfl rfl rfl (fun h53 => ?_) (fun h53 => ?_)
  · refine sm_seg 1 200 [] [.int (-1 : Int32)] rfl ?_
    exact sm_rI rfl rfl
  · refine sm_seg 2 184 [(0, .ref a0), (1, .int i1)] [.int (13 : Int32), .int i1] rfl ?_
    refine sm_if (pc1 := 199) (lv1 := []) (pc2 := 187) (lv2 := [(0, .ref a0), (1, .int i1)]) (st1 := []) rfl rfl rfl (fun h54 => ?_) (fun h54 => ?_)
    · refine sm_seg 1 200 [] [.int (-1 : Int32)] rfl ?_
      exact sm_rI rfl rfl
    · refine sm_seg 1 188 [(0, .ref a0), (1, .int i1)] [.ref a0] rfl ?_
      refine sm_gd fun h55 => ?_
      refine sm_gR rfl h55 rfl rfl fun r56 h57 => ?_
      show sm _ _ _ _ 191 [(0, .ref a0), (1, .int i1)] [.ref r56] _ _
      refine sm_seg 3 195 [(0, .ref a0), (1, .int i1)] [.int (i1 - (10 : Int32)), .ref r56] rfl ?_
      refine sm_gd fun h58 => ?_
      refine sm_ai rfl h58 rfl ?_
      show sm _ _ _ _ 196 [(0, .ref a0), (1, .int i1)] [.int (cm_I w r56 (i1 - (10 : Int32)).toNatClampNeg)] _ _
      refine sm_seg 1 200 [] [.int (cm_I w r56 (i1 - (10 : Int32)).toNatClampNeg)] rfl ?_
      exact sm_rI rfl rfl
def fn_192 (w : cm_W) (a0 : Nat) (i1 : Int32) : Option Int32 := (if i1 = (0 : Int32) then (if cm_sh w a0 = some (.inl 10) then (cm_R w a0 3).bind fun r61 => (if cm_sh w r61 = some (.inl 9) then (cm_R w r61 1).bind fun r64 => (if cm_sh w r64 = some (.inl 7) then some (cm_I w r64 2) else none) else none) else none) else (if i1 = (1 : Int32) then fn_192_83 w a0 else (if i1 = (2 : Int32) then fn_192_94 w a0 else (if i1 = (3 : Int32) then fn_192_105 w a0 else (if i1 = (4 : Int32) then fn_192_116 w a0 else (if i1 = (5 : Int32) then fn_192_127 w a0 else (if i1 = (6 : Int32) then fn_192_135 w a0 else (if i1 = (7 : Int32) then fn_192_146 w a0 else (if i1 = (8 : Int32) then fn_192_151 w a0 else (if i1 = (9 : Int32) then fn_192_156 w a0 else (if i1 = (13 : Int32) then fn_192_164 w a0 else fn_192_175 w a0 i1)))))))))))
theorem jt_192_0 (w : cm_W) (a0 : Nat) (i1 : Int32) : sm cm_g 192 ck_192 kq_192 0 [(0, .ref a0), (1, .int i1)] [] w ((fn_192 w a0 i1).map (cm_fI w)) := by
  unfold fn_192
  refine sm_seg 1 1 [(0, .ref a0), (1, .int i1)] [.int i1] rfl ?_
  refine sm_br (fun h59 => ?_) (fun h59 => ?_)
  · refine sm_ts (off := (71)) (pc1 := 72) (lv1 := [(0, .ref a0), (1, .int i1)]) rfl (by rw [h59]; rfl) rfl rfl ?_
    refine sm_seg 1 73 [(0, .ref a0), (1, .int i1)] [.ref a0] rfl ?_
    refine sm_gd fun h60 => ?_
    refine sm_gR rfl h60 rfl rfl fun r61 h62 => ?_
    show sm _ _ _ _ 76 [(0, .ref a0), (1, .int i1)] [.ref r61] _ _
    refine sm_gd fun h63 => ?_
    refine sm_gR rfl h63 rfl rfl fun r64 h65 => ?_
    show sm _ _ _ _ 79 [(0, .ref a0), (1, .int i1)] [.ref r64] _ _
    refine sm_gd fun h66 => ?_
    refine sm_gI rfl h66 rfl ?_
    show sm _ _ _ _ 82 [(0, .ref a0), (1, .int i1)] [.int (cm_I w r64 2)] _ _
    exact sm_rI rfl rfl
  refine sm_br (fun h67 => ?_) (fun h67 => ?_)
  · refine sm_ts (off := (82)) (pc1 := 83) (lv1 := [(0, .ref a0)]) rfl (by rw [h67]; rfl) rfl rfl ?_
    exact jt_192_83 w a0
  refine sm_br (fun h68 => ?_) (fun h68 => ?_)
  · refine sm_ts (off := (93)) (pc1 := 94) (lv1 := [(0, .ref a0)]) rfl (by rw [h68]; rfl) rfl rfl ?_
    exact jt_192_94 w a0
  refine sm_br (fun h69 => ?_) (fun h69 => ?_)
  · refine sm_ts (off := (104)) (pc1 := 105) (lv1 := [(0, .ref a0)]) rfl (by rw [h69]; rfl) rfl rfl ?_
    exact jt_192_105 w a0
  refine sm_br (fun h70 => ?_) (fun h70 => ?_)
  · refine sm_ts (off := (115)) (pc1 := 116) (lv1 := [(0, .ref a0)]) rfl (by rw [h70]; rfl) rfl rfl ?_
    exact jt_192_116 w a0
  refine sm_br (fun h71 => ?_) (fun h71 => ?_)
  · refine sm_ts (off := (126)) (pc1 := 127) (lv1 := [(0, .ref a0)]) rfl (by rw [h71]; rfl) rfl rfl ?_
    exact jt_192_127 w a0
  refine sm_br (fun h72 => ?_) (fun h72 => ?_)
  · refine sm_ts (off := (134)) (pc1 := 135) (lv1 := [(0, .ref a0)]) rfl (by rw [h72]; rfl) rfl rfl ?_
    exact jt_192_135 w a0
  refine sm_br (fun h73 => ?_) (fun h73 => ?_)
  · refine sm_ts (off := (145)) (pc1 := 146) (lv1 := [(0, .ref a0)]) rfl (by rw [h73]; rfl) rfl rfl ?_
    exact jt_192_146 w a0
  refine sm_br (fun h74 => ?_) (fun h74 => ?_)
  · refine sm_ts (off := (150)) (pc1 := 151) (lv1 := [(0, .ref a0)]) rfl (by rw [h74]; rfl) rfl rfl ?_
    exact jt_192_151 w a0
  refine sm_br (fun h75 => ?_) (fun h75 => ?_)
  · refine sm_ts (off := (155)) (pc1 := 156) (lv1 := [(0, .ref a0)]) rfl (by rw [h75]; rfl) rfl rfl ?_
    exact jt_192_156 w a0
  refine sm_br (fun h76 => ?_) (fun h76 => ?_)
  · refine sm_ts (off := (163)) (pc1 := 164) (lv1 := [(0, .ref a0)]) rfl (by rw [h76]; rfl) rfl rfl ?_
    exact jt_192_164 w a0
  refine sm_ts (off := (174)) (pc1 := 175) (lv1 := [(0, .ref a0), (1, .int i1)]) rfl (cm_tsd (n := 14) rfl rfl (fun j hj => match j, hj with | 0, _ => .inr (cm_ne h59 rfl) | 1, _ => .inr (cm_ne h67 rfl) | 2, _ => .inr (cm_ne h68 rfl) | 3, _ => .inr (cm_ne h69 rfl) | 4, _ => .inr (cm_ne h70 rfl) | 5, _ => .inr (cm_ne h71 rfl) | 6, _ => .inr (cm_ne h72 rfl) | 7, _ => .inr (cm_ne h73 rfl) | 8, _ => .inr (cm_ne h74 rfl) | 9, _ => .inr (cm_ne h75 rfl) | 10, _ => .inl rfl | 11, _ => .inl rfl | 12, _ => .inl rfl | 13, _ => .inr (cm_ne h76 rfl) | _ + 14, h => absurd h (by omega))) rfl rfl ?_
  exact jt_192_175 w a0 i1
theorem ca_192 (w : cm_W) (a0 : Nat) (i1 : Int32) : cm_ca cm_g 192 [.ref a0, .int i1] w ((fn_192 w a0 i1).map (cm_fI w)) := cm_ca_of (cm_me_of rfl rfl) rfl (jt_192_0 w a0 i1)
-- NailedBoxesModel.isIn(III)Z
def fn_194 (w : cm_W) (i0 : Int32) (i1 : Int32) (i2 : Int32) : Option Bool := (if i0 < i1 then some false else (if i2 < i0 then some false else some true))
theorem jt_194_0 (w : cm_W) (i0 : Int32) (i1 : Int32) (i2 : Int32) : sm cm_g 194 ck_194 kq_194 0 [(0, .int i0), (1, .int i1), (2, .int i2)] [] w ((fn_194 w i0 i1 i2).map (cm_fB w)) := by
  unfold fn_194
  refine sm_seg 2 2 [(0, .int i0), (1, .int i1), (2, .int i2)] [.int i1, .int i0] rfl ?_
  refine sm_if (pc1 := 14) (lv1 := []) (pc2 := 5) (lv2 := [(0, .int i0), (1, .int i1), (2, .int i2)]) (st1 := []) rfl rfl rfl (fun h1 => ?_) (fun h1 => ?_)
  · refine sm_seg 1 15 [] [.int (0 : Int32)] rfl ?_
    exact sm_rB (b := false) rfl rfl
  · refine sm_seg 2 7 [(0, .int i0), (1, .int i1), (2, .int i2)] [.int i2, .int i0] rfl ?_
    refine sm_if (pc1 := 14) (lv1 := []) (pc2 := 10) (lv2 := [(0, .int i0), (1, .int i1), (2, .int i2)]) (st1 := []) rfl rfl rfl (fun h2 => ?_) (fun h2 => ?_)
    · refine sm_seg 1 15 [] [.int (0 : Int32)] rfl ?_
      exact sm_rB (b := false) rfl rfl
    · refine sm_seg 2 15 [] [.int (1 : Int32)] rfl ?_
      exact sm_rB (b := true) rfl rfl
theorem ca_194 (w : cm_W) (i0 : Int32) (i1 : Int32) (i2 : Int32) : cm_ca cm_g 194 [.int i0, .int i1, .int i2] w ((fn_194 w i0 i1 i2).map (cm_fB w)) := cm_ca_of (cm_me_of rfl rfl) rfl (jt_194_0 w i0 i1 i2)
-- NailedBoxesModel.unit(Z)I
def fn_195 (w : cm_W) (i0 : Int32) : Option Int32 := (if i0 = 0 then some (0 : Int32) else some (1 : Int32))
theorem jt_195_0 (w : cm_W) (i0 : Int32) : sm cm_g 195 ck_195 kq_195 0 [(0, .int i0)] [] w ((fn_195 w i0).map (cm_fI w)) := by
  unfold fn_195
  refine sm_seg 1 1 [(0, .int i0)] [.int i0] rfl ?_
  refine sm_if (pc1 := 8) (lv1 := []) (pc2 := 4) (lv2 := [(0, .int i0)]) (st1 := []) rfl rfl rfl (fun h1 => ?_) (fun h1 => ?_)
  · refine sm_seg 1 9 [] [.int (0 : Int32)] rfl ?_
    exact sm_rI rfl rfl
  · refine sm_seg 2 9 [] [.int (1 : Int32)] rfl ?_
    exact sm_rI rfl rfl
theorem ca_195 (w : cm_W) (i0 : Int32) : cm_ca cm_g 195 [.int i0] w ((fn_195 w i0).map (cm_fI w)) := cm_ca_of (cm_me_of rfl rfl) rfl (jt_195_0 w i0)
-- NailedBoxesModel.has(II)Z
def fn_196 (w : cm_W) (i0 : Int32) (i1 : Int32) : Option Bool := (if ¬ ((i0 >>> (i1 &&& 31)) &&& (1 : Int32)) = (1 : Int32) then some false else some true)
theorem jt_196_0 (w : cm_W) (i0 : Int32) (i1 : Int32) : sm cm_g 196 ck_196 kq_196 0 [(0, .int i0), (1, .int i1)] [] w ((fn_196 w i0 i1).map (cm_fB w)) := by
  unfold fn_196
  refine sm_seg 6 6 [(0, .int i0), (1, .int i1)] [.int (1 : Int32), .int ((i0 >>> (i1 &&& 31)) &&& (1 : Int32))] rfl ?_
  refine sm_if (pc1 := 13) (lv1 := []) (pc2 := 9) (lv2 := [(0, .int i0), (1, .int i1)]) (st1 := []) rfl rfl rfl (fun h1 => ?_) (fun h1 => ?_)
  · refine sm_seg 1 14 [] [.int (0 : Int32)] rfl ?_
    exact sm_rB (b := false) rfl rfl
  · refine sm_seg 2 14 [] [.int (1 : Int32)] rfl ?_
    exact sm_rB (b := true) rfl rfl
theorem ca_196 (w : cm_W) (i0 : Int32) (i1 : Int32) : cm_ca cm_g 196 [.int i0, .int i1] w ((fn_196 w i0 i1).map (cm_fB w)) := cm_ca_of (cm_me_of rfl rfl) rfl (jt_196_0 w i0 i1)
-- NailedBoxesModel.digits(JJI)J
def fn_197_13 (w : cm_W) : Nat → Int64 → Int32 → Int64 → Int64 → Int32 → Option Int64
  | 0, _, _, _, _, _ => none
  | n + 1, j2, i4, j5, j7, i9 => (if i4 ≤ i9 then some j5 else (if ¬ j2 = 0 then (if ¬ j2 = 0 then fn_197_13 w n j2 i4 (((10 : Int64) * j5) + (((10 : Int64) * j7) / j2)) (((10 : Int64) * j7) - ((10 : Int64) * j7) / j2 * j2) (i9 + (1 : Int32)) else none) else none))
theorem jt_197_13 (w : cm_W) : ∀ (n : Nat) (j2 : Int64) (i4 : Int32) (j5 : Int64) (j7 : Int64) (i9 : Int32), sm cm_g 197 ck_197 kq_197 13 [(2, .long j2), (4, .int i4), (5, .long j5), (7, .long j7), (9, .int i9)] [] w ((fn_197_13 w n j2 i4 j5 j7 i9).map (cm_fL w)) := by
  intro n
  induction n with
  | zero => intro j2 i4 j5 j7 i9; exact sm_no
  | succ n ih =>
    intro j2 i4 j5 j7 i9
    rw [fn_197_13]
    refine sm_seg 2 17 [(2, .long j2), (4, .int i4), (5, .long j5), (7, .long j7), (9, .int i9)] [.int i4, .int i9] rfl ?_
    refine sm_if (pc1 := 53) (lv1 := [(5, .long j5)]) (pc2 := 20) (lv2 := [(2, .long j2), (4, .int i4), (5, .long j5), (7, .long j7), (9, .int i9)]) (st1 := []) rfl rfl rfl (fun h1 => ?_) (fun h1 => ?_)
    · refine sm_seg 1 55 [(5, .long j5)] [.long j5] rfl ?_
      exact sm_rL rfl rfl
    · refine sm_seg 7 33 [(2, .long j2), (4, .int i4), (5, .long j5), (7, .long j7), (9, .int i9)] [.long j2, .long ((10 : Int64) * j7), .long ((10 : Int64) * j5)] rfl ?_
      refine sm_gd fun h2 => ?_
      refine sm_ldiv rfl h2 rfl ?_
      show sm _ _ _ _ 34 [(2, .long j2), (4, .int i4), (5, .long j5), (7, .long j7), (9, .int i9)] [.long (((10 : Int64) * j7) / j2), .long ((10 : Int64) * j5)] _ _
      refine sm_seg 6 44 [(5, .long (((10 : Int64) * j5) + (((10 : Int64) * j7) / j2))), (2, .long j2), (4, .int i4), (7, .long j7), (9, .int i9)] [.long j2, .long ((10 : Int64) * j7)] rfl ?_
      refine sm_gd fun h3 => ?_
      refine sm_lrem rfl h3 rfl ?_
      show sm _ _ _ _ 45 [(5, .long (((10 : Int64) * j5) + (((10 : Int64) * j7) / j2))), (2, .long j2), (4, .int i4), (7, .long j7), (9, .int i9)] [.long (((10 : Int64) * j7) - ((10 : Int64) * j7) / j2 * j2)] _ _
      refine sm_seg 3 13 [(2, .long j2), (4, .int i4), (5, .long (((10 : Int64) * j5) + (((10 : Int64) * j7) / j2))), (7, .long (((10 : Int64) * j7) - ((10 : Int64) * j7) / j2 * j2)), (9, .int (i9 + (1 : Int32)))] [] rfl ?_
      exact ih j2 i4 (((10 : Int64) * j5) + (((10 : Int64) * j7) / j2)) (((10 : Int64) * j7) - ((10 : Int64) * j7) / j2 * j2) (i9 + (1 : Int32))
def fn_197 (w : cm_W) (j0 : Int64) (j2 : Int64) (i4 : Int32) : Option Int64 := (if ¬ j2 = 0 then (if ¬ j2 = 0 then fn_197_13 w cm_N j2 i4 (j0 / j2) (j0 - j0 / j2 * j2) (0 : Int32) else none) else none)
theorem jt_197_0 (w : cm_W) (j0 : Int64) (j2 : Int64) (i4 : Int32) : sm cm_g 197 ck_197 kq_197 0 [(0, .long j0), (2, .long j2), (4, .int i4)] [] w ((fn_197 w j0 j2 i4).map (cm_fL w)) := by
  unfold fn_197
  refine sm_seg 2 2 [(0, .long j0), (2, .long j2), (4, .int i4)] [.long j2, .long j0] rfl ?_
  refine sm_gd fun h4 => ?_
  refine sm_ldiv rfl h4 rfl ?_
  show sm _ _ _ _ 3 [(0, .long j0), (2, .long j2), (4, .int i4)] [.long (j0 / j2)] _ _
  refine sm_seg 3 7 [(5, .long (j0 / j2)), (0, .long j0), (2, .long j2), (4, .int i4)] [.long j2, .long j0] rfl ?_
  refine sm_gd fun h5 => ?_
  refine sm_lrem rfl h5 rfl ?_
  show sm _ _ _ _ 8 [(5, .long (j0 / j2)), (0, .long j0), (2, .long j2), (4, .int i4)] [.long (j0 - j0 / j2 * j2)] _ _
  refine sm_seg 3 13 [(2, .long j2), (4, .int i4), (5, .long (j0 / j2)), (7, .long (j0 - j0 / j2 * j2)), (9, .int (0 : Int32))] [] rfl ?_
  exact jt_197_13 w cm_N j2 i4 (j0 / j2) (j0 - j0 / j2 * j2) (0 : Int32)
theorem ca_197 (w : cm_W) (j0 : Int64) (j2 : Int64) (i4 : Int32) : cm_ca cm_g 197 [.long j0, .long j2, .int i4] w ((fn_197 w j0 j2 i4).map (cm_fL w)) := cm_ca_of (cm_me_of rfl rfl) rfl (jt_197_0 w j0 j2 i4)
-- NailedBoxesModel.refuses(I)Z
def fn_198 (a0 : Nat) (i1 : Int32) (w : cm_W) : Option (Bool × cm_W) := (if cm_sh w a0 = some (.inl 11) then (cm_R w a0 0).bind fun r2 => (if cm_ga w .int r2 i1 = true then (if cm_w2 96 143 r2 = true then some (false, (cm_sI w r2 i1.toNatClampNeg ((cm_I w r2 i1.toNatClampNeg) + (1 : Int32)))) else none) else none) else none)
theorem jt_198_0 (a0 : Nat) (i1 : Int32) (w : cm_W) : sm cm_g 198 ck_198 kq_198 0 [(0, .ref a0), (1, .int i1)] [] w ((fn_198 a0 i1 w).map cm_gB) := by
  unfold fn_198
  refine sm_seg 1 1 [(0, .ref a0), (1, .int i1)] [.ref a0] rfl ?_
  refine sm_gd fun h1 => ?_
  refine sm_gR rfl h1 rfl rfl fun r2 h3 => ?_
  show sm _ _ _ _ 4 [(0, .ref a0), (1, .int i1)] [.ref r2] _ _
  refine sm_seg 2 6 [(0, .ref a0), (1, .int i1)] [.int i1, .ref r2, .int i1, .ref r2] rfl ?_
  refine sm_gd fun h4 => ?_
  refine sm_ai rfl h4 rfl ?_
  show sm _ _ _ _ 7 [(0, .ref a0), (1, .int i1)] [.int (cm_I w r2 i1.toNatClampNeg), .int i1, .ref r2] _ _
  refine sm_seg 2 9 [(0, .ref a0), (1, .int i1)] [.int ((cm_I w r2 i1.toNatClampNeg) + (1 : Int32)), .int i1, .ref r2] rfl ?_
  refine sm_gd fun h5 => ?_
  refine sm_si rfl h4 h5 rfl rfl ?_
  show sm _ _ _ _ 10 [(0, .ref a0), (1, .int i1)] [] _ _
  refine sm_seg 1 11 [(0, .ref a0), (1, .int i1)] [.int (0 : Int32)] rfl ?_
  exact sm_rBW (b := false) rfl rfl
theorem ca_198 (a0 : Nat) (i1 : Int32) (w : cm_W) : cm_ca cm_g 198 [.ref a0, .int i1] w ((fn_198 a0 i1 w).map cm_gB) := cm_ca_of (cm_me_of rfl rfl) rfl (jt_198_0 a0 i1 w)
-- NailedBoxesModel.refuses(II)I
def fn_199 (a0 : Nat) (i1 : Int32) (i2 : Int32) (w : cm_W) : Option (Int32 × cm_W) := (if cm_sh w a0 = some (.inl 11) then (cm_R w a0 0).bind fun r2 => (if cm_ga w .int r2 i1 = true then (if cm_w2 96 143 r2 = true then some (i2, (cm_sI w r2 i1.toNatClampNeg ((cm_I w r2 i1.toNatClampNeg) + (1 : Int32)))) else none) else none) else none)
theorem jt_199_0 (a0 : Nat) (i1 : Int32) (i2 : Int32) (w : cm_W) : sm cm_g 199 ck_199 kq_199 0 [(0, .ref a0), (1, .int i1), (2, .int i2)] [] w ((fn_199 a0 i1 i2 w).map cm_gI) := by
  unfold fn_199
  refine sm_seg 1 1 [(0, .ref a0), (1, .int i1), (2, .int i2)] [.ref a0] rfl ?_
  refine sm_gd fun h1 => ?_
  refine sm_gR rfl h1 rfl rfl fun r2 h3 => ?_
  show sm _ _ _ _ 4 [(0, .ref a0), (1, .int i1), (2, .int i2)] [.ref r2] _ _
  refine sm_seg 2 6 [(0, .ref a0), (1, .int i1), (2, .int i2)] [.int i1, .ref r2, .int i1, .ref r2] rfl ?_
  refine sm_gd fun h4 => ?_
  refine sm_ai rfl h4 rfl ?_
  show sm _ _ _ _ 7 [(0, .ref a0), (1, .int i1), (2, .int i2)] [.int (cm_I w r2 i1.toNatClampNeg), .int i1, .ref r2] _ _
  refine sm_seg 2 9 [(0, .ref a0), (1, .int i1), (2, .int i2)] [.int ((cm_I w r2 i1.toNatClampNeg) + (1 : Int32)), .int i1, .ref r2] rfl ?_
  refine sm_gd fun h5 => ?_
  refine sm_si rfl h4 h5 rfl rfl ?_
  show sm _ _ _ _ 10 [(0, .ref a0), (1, .int i1), (2, .int i2)] [] _ _
  refine sm_seg 1 11 [(0, .ref a0), (1, .int i1), (2, .int i2)] [.int i2] rfl ?_
  exact sm_rIW rfl rfl
theorem ca_199 (a0 : Nat) (i1 : Int32) (i2 : Int32) (w : cm_W) : cm_ca cm_g 199 [.ref a0, .int i1, .int i2] w ((fn_199 a0 i1 i2 w).map cm_gI) := cm_ca_of (cm_me_of rfl rfl) rfl (jt_199_0 a0 i1 i2 w)
-- NailedBoxesModel.four(I)V
def fn_200_3 : Nat → Nat → Int32 → Int32 → cm_W → Option cm_W
  | 0, _, _, _, _ => none
  | n + 1, a0, i1, i2, w => (if i2 < 0 then some w else (if cm_sh w a0 = some (.inl 11) then (cm_R w a0 34).bind fun r3 => (if cm_ga w .byte r3 (cm_I w a0 9) = true then (if cm_w2 96 143 r3 = true then (if cm_w2 96 143 a0 = true then fn_200_3 n a0 i1 (i2 + (-8 : Int32)) (cm_sI (cm_sI w r3 (cm_I w a0 9).toNatClampNeg (vp_nar .byte ((Int32.toInt8 (i1 >>> (i2 &&& 31))).toInt32))) a0 9 ((cm_I (cm_sI w r3 (cm_I w a0 9).toNatClampNeg (vp_nar .byte ((Int32.toInt8 (i1 >>> (i2 &&& 31))).toInt32))) a0 9) + (1 : Int32))) else none) else none) else none) else none))
theorem jt_200_3 : ∀ (n : Nat) (a0 : Nat) (i1 : Int32) (i2 : Int32) (w : cm_W), sm cm_g 200 ck_200 kq_200 3 [(0, .ref a0), (1, .int i1), (2, .int i2)] [] w ((fn_200_3 n a0 i1 i2 w).map cm_gV) := by
  intro n
  induction n with
  | zero => intro a0 i1 i2 w; exact sm_no
  | succ n ih =>
    intro a0 i1 i2 w
    rw [fn_200_3]
    refine sm_seg 1 4 [(0, .ref a0), (1, .int i1), (2, .int i2)] [.int i2] rfl ?_
    refine sm_if (pc1 := 36) (lv1 := []) (pc2 := 7) (lv2 := [(0, .ref a0), (1, .int i1), (2, .int i2)]) (st1 := []) rfl rfl rfl (fun h1 => ?_) (fun h1 => ?_)
    · exact sm_rV rfl rfl
    · refine sm_seg 1 8 [(0, .ref a0), (1, .int i1), (2, .int i2)] [.ref a0] rfl ?_
      refine sm_gd fun h2 => ?_
      refine sm_gR rfl h2 rfl rfl fun r3 h4 => ?_
      show sm _ _ _ _ 11 [(0, .ref a0), (1, .int i1), (2, .int i2)] [.ref r3] _ _
      refine sm_seg 1 12 [(0, .ref a0), (1, .int i1), (2, .int i2)] [.ref a0, .ref r3] rfl ?_
      refine sm_gI rfl h2 rfl ?_
      show sm _ _ _ _ 15 [(0, .ref a0), (1, .int i1), (2, .int i2)] [.int (cm_I w a0 9), .ref r3] _ _
      refine sm_seg 4 19 [(0, .ref a0), (1, .int i1), (2, .int i2)] [.int ((Int32.toInt8 (i1 >>> (i2 &&& 31))).toInt32), .int (cm_I w a0 9), .ref r3] rfl ?_
      refine sm_gd fun h5 => ?_
      refine sm_gd fun h6 => ?_
      refine sm_sb rfl h5 h6 rfl rfl ?_
      show sm _ _ _ _ 20 [(0, .ref a0), (1, .int i1), (2, .int i2)] [] _ _
      refine sm_seg 2 22 [(0, .ref a0), (1, .int i1), (2, .int i2)] [.ref a0, .ref a0] rfl ?_
      refine sm_gI rfl h2 rfl ?_
      show sm _ _ _ _ 25 [(0, .ref a0), (1, .int i1), (2, .int i2)] [.int (cm_I (cm_sI w r3 (cm_I w a0 9).toNatClampNeg (vp_nar .byte ((Int32.toInt8 (i1 >>> (i2 &&& 31))).toInt32))) a0 9), .ref a0] _ _
      refine sm_seg 2 27 [(0, .ref a0), (1, .int i1), (2, .int i2)] [.int ((cm_I (cm_sI w r3 (cm_I w a0 9).toNatClampNeg (vp_nar .byte ((Int32.toInt8 (i1 >>> (i2 &&& 31))).toInt32))) a0 9) + (1 : Int32)), .ref a0] rfl ?_
      refine sm_gd fun h7 => ?_
      refine sm_pI rfl h2 rfl h7 rfl ?_
      show sm _ _ _ _ 30 [(0, .ref a0), (1, .int i1), (2, .int i2)] [] _ _
      refine sm_seg 2 3 [(0, .ref a0), (1, .int i1), (2, .int (i2 + (-8 : Int32)))] [] rfl ?_
      exact ih a0 i1 (i2 + (-8 : Int32)) (cm_sI (cm_sI w r3 (cm_I w a0 9).toNatClampNeg (vp_nar .byte ((Int32.toInt8 (i1 >>> (i2 &&& 31))).toInt32))) a0 9 ((cm_I (cm_sI w r3 (cm_I w a0 9).toNatClampNeg (vp_nar .byte ((Int32.toInt8 (i1 >>> (i2 &&& 31))).toInt32))) a0 9) + (1 : Int32)))
def fn_200 (a0 : Nat) (i1 : Int32) (w : cm_W) : Option cm_W := fn_200_3  cm_N a0 i1 (24 : Int32) w
theorem jt_200_0 (a0 : Nat) (i1 : Int32) (w : cm_W) : sm cm_g 200 ck_200 kq_200 0 [(0, .ref a0), (1, .int i1)] [] w ((fn_200 a0 i1 w).map cm_gV) := by
  unfold fn_200
  refine sm_seg 2 3 [(0, .ref a0), (1, .int i1), (2, .int (24 : Int32))] [] rfl ?_
  exact jt_200_3  cm_N a0 i1 (24 : Int32) w
theorem ca_200 (a0 : Nat) (i1 : Int32) (w : cm_W) : cm_ca cm_g 200 [.ref a0, .int i1] w ((fn_200 a0 i1 w).map cm_gV) := cm_ca_of (cm_me_of rfl rfl) rfl (jt_200_0 a0 i1 w)
-- NailedBoxesModel.feed(IIIII)I
def fn_201_15 (a0 : Nat) (i1 : Int32) (i2 : Int32) (i3 : Int32) (i4 : Int32) (i5 : Int32) (w : cm_W) : Option (Int32 × cm_W) := (if cm_sh w a0 = some (.inl 11) then (fn_200 a0 i1 w).bind fun w2 => (if cm_sh w2 a0 = some (.inl 11) then (fn_200 a0 i2 w2).bind fun w5 => (if cm_sh w5 a0 = some (.inl 11) then (fn_200 a0 i3 w5).bind fun w8 => (if cm_sh w8 a0 = some (.inl 11) then (fn_200 a0 i4 w8).bind fun w11 => (if cm_sh w11 a0 = some (.inl 11) then (fn_200 a0 i5 w11).bind fun w14 => (if cm_sh w14 a0 = some (.inl 11) then some ((cm_I w14 a0 9), w14) else none) else none) else none) else none) else none) else none)
theorem jt_201_15 (a0 : Nat) (i1 : Int32) (i2 : Int32) (i3 : Int32) (i4 : Int32) (i5 : Int32) (w : cm_W) : sm cm_g 201 ck_201 kq_201 15 [(0, .ref a0), (1, .int i1), (2, .int i2), (3, .int i3), (4, .int i4), (5, .int i5)] [] w ((fn_201_15 a0 i1 i2 i3 i4 i5 w).map cm_gI) := by
  unfold fn_201_15
  refine sm_seg 2 17 [(0, .ref a0), (1, .int i1), (2, .int i2), (3, .int i3), (4, .int i4), (5, .int i5)] [.int i1, .ref a0] rfl ?_
  refine sm_gd fun h1 => ?_
  refine sm_cV (as := [.int i1]) (rest := []) rfl rfl rfl rfl h1 (Nat.le_of_ble_eq_true rfl) (ca_200  a0 i1 w) fun w2 h3 => ?_
  show sm _ _ _ _ 20 [(0, .ref a0), (1, .int i1), (2, .int i2), (3, .int i3), (4, .int i4), (5, .int i5)] [] _ _
  refine sm_seg 2 22 [(0, .ref a0), (1, .int i1), (2, .int i2), (3, .int i3), (4, .int i4), (5, .int i5)] [.int i2, .ref a0] rfl ?_
  refine sm_gd fun h4 => ?_
  refine sm_cV (as := [.int i2]) (rest := []) rfl rfl rfl rfl h4 (Nat.le_of_ble_eq_true rfl) (ca_200  a0 i2 w2) fun w5 h6 => ?_
  show sm _ _ _ _ 25 [(0, .ref a0), (1, .int i1), (2, .int i2), (3, .int i3), (4, .int i4), (5, .int i5)] [] _ _
  refine sm_seg 2 27 [(0, .ref a0), (1, .int i1), (2, .int i2), (3, .int i3), (4, .int i4), (5, .int i5)] [.int i3, .ref a0] rfl ?_
  refine sm_gd fun h7 => ?_
  refine sm_cV (as := [.int i3]) (rest := []) rfl rfl rfl rfl h7 (Nat.le_of_ble_eq_true rfl) (ca_200  a0 i3 w5) fun w8 h9 => ?_
  show sm _ _ _ _ 30 [(0, .ref a0), (1, .int i1), (2, .int i2), (3, .int i3), (4, .int i4), (5, .int i5)] [] _ _
  refine sm_seg 2 33 [(0, .ref a0), (1, .int i1), (2, .int i2), (3, .int i3), (4, .int i4), (5, .int i5)] [.int i4, .ref a0] rfl ?_
  refine sm_gd fun h10 => ?_
  refine sm_cV (as := [.int i4]) (rest := []) rfl rfl rfl rfl h10 (Nat.le_of_ble_eq_true rfl) (ca_200  a0 i4 w8) fun w11 h12 => ?_
  show sm _ _ _ _ 36 [(0, .ref a0), (1, .int i1), (2, .int i2), (3, .int i3), (4, .int i4), (5, .int i5)] [] _ _
  refine sm_seg 2 39 [(0, .ref a0), (1, .int i1), (2, .int i2), (3, .int i3), (4, .int i4), (5, .int i5)] [.int i5, .ref a0] rfl ?_
  refine sm_gd fun h13 => ?_
  refine sm_cV (as := [.int i5]) (rest := []) rfl rfl rfl rfl h13 (Nat.le_of_ble_eq_true rfl) (ca_200  a0 i5 w11) fun w14 h15 => ?_
  show sm _ _ _ _ 42 [(0, .ref a0), (1, .int i1), (2, .int i2), (3, .int i3), (4, .int i4), (5, .int i5)] [] _ _
  refine sm_seg 1 43 [(0, .ref a0), (1, .int i1), (2, .int i2), (3, .int i3), (4, .int i4), (5, .int i5)] [.ref a0] rfl ?_
  refine sm_gd fun h16 => ?_
  refine sm_gI rfl h16 rfl ?_
  show sm _ _ _ _ 46 [(0, .ref a0), (1, .int i1), (2, .int i2), (3, .int i3), (4, .int i4), (5, .int i5)] [.int (cm_I w14 a0 9)] _ _
  exact sm_rIW rfl rfl
def fn_201 (a0 : Nat) (i1 : Int32) (i2 : Int32) (i3 : Int32) (i4 : Int32) (i5 : Int32) (w : cm_W) : Option (Int32 × cm_W) := (if cm_sh w a0 = some (.inl 11) then (if ((cm_I w a0 9) + (20 : Int32)) ≤ (900 : Int32) then fn_201_15  a0 i1 i2 i3 i4 i5 w else some ((-1 : Int32), w)) else none)
theorem jt_201_0 (a0 : Nat) (i1 : Int32) (i2 : Int32) (i3 : Int32) (i4 : Int32) (i5 : Int32) (w : cm_W) : sm cm_g 201 ck_201 kq_201 0 [(0, .ref a0), (1, .int i1), (2, .int i2), (3, .int i3), (4, .int i4), (5, .int i5)] [] w ((fn_201 a0 i1 i2 i3 i4 i5 w).map cm_gI) := by
  unfold fn_201
  refine sm_seg 1 1 [(0, .ref a0), (1, .int i1), (2, .int i2), (3, .int i3), (4, .int i4), (5, .int i5)] [.ref a0] rfl ?_
  refine sm_gd fun h17 => ?_
  refine sm_gI rfl h17 rfl ?_
  show sm _ _ _ _ 4 [(0, .ref a0), (1, .int i1), (2, .int i2), (3, .int i3), (4, .int i4), (5, .int i5)] [.int (cm_I w a0 9)] _ _
  refine sm_seg 3 10 [(0, .ref a0), (1, .int i1), (2, .int i2), (3, .int i3), (4, .int i4), (5, .int i5)] [.int (900 : Int32), .int ((cm_I w a0 9) + (20 : Int32))] rfl ?_
  refine sm_if (pc1 := 15) (lv1 := [(0, .ref a0), (1, .int i1), (2, .int i2), (3, .int i3), (4, .int i4), (5, .int i5)]) (pc2 := 13) (lv2 := [(0, .ref a0), (1, .int i1), (2, .int i2), (3, .int i3), (4, .int i4), (5, .int i5)]) (st1 := []) rfl rfl rfl (fun h18 => ?_) (fun h18 => ?_)
  · exact jt_201_15  a0 i1 i2 i3 i4 i5 w
  · refine sm_seg 1 14 [(0, .ref a0), (1, .int i1), (2, .int i2), (3, .int i3), (4, .int i4), (5, .int i5)] [.int (-1 : Int32)] rfl ?_
    exact sm_rIW rfl rfl
theorem ca_201 (a0 : Nat) (i1 : Int32) (i2 : Int32) (i3 : Int32) (i4 : Int32) (i5 : Int32) (w : cm_W) : cm_ca cm_g 201 [.ref a0, .int i1, .int i2, .int i3, .int i4, .int i5] w ((fn_201 a0 i1 i2 i3 i4 i5 w).map cm_gI) := cm_ca_of (cm_me_of rfl rfl) rfl (jt_201_0 a0 i1 i2 i3 i4 i5 w)
-- NailedBoxesModel.blanks()V
def fn_202_39 (k_0 : Nat → cm_W → Option cm_W) (a0 : Nat) (w : cm_W) : Option cm_W := (if cm_sh w a0 = some (.inl 11) then (if cm_w2 96 143 a0 = true then k_0 a0 (cm_sI w a0 11 ((cm_I w a0 11) + (1 : Int32))) else none) else none)
theorem jt_202_39 (k_0 : Nat → cm_W → Option cm_W) (hk_0 : ∀ (a0 : Nat) (w : cm_W), sm cm_g 202 ck_202 kq_202 0 [(0, .ref a0)] [] w ((k_0 a0 w).map cm_gV)) (a0 : Nat) (w : cm_W) : sm cm_g 202 ck_202 kq_202 39 [(0, .ref a0)] [] w ((fn_202_39 k_0 a0 w).map cm_gV) := by
  unfold fn_202_39
  refine sm_seg 2 41 [(0, .ref a0)] [.ref a0, .ref a0] rfl ?_
  refine sm_gd fun h1 => ?_
  refine sm_gI rfl h1 rfl ?_
  show sm _ _ _ _ 44 [(0, .ref a0)] [.int (cm_I w a0 11), .ref a0] _ _
  refine sm_seg 2 46 [(0, .ref a0)] [.int ((cm_I w a0 11) + (1 : Int32)), .ref a0] rfl ?_
  refine sm_gd fun h2 => ?_
  refine sm_pI rfl h1 rfl h2 rfl ?_
  show sm _ _ _ _ 49 [(0, .ref a0)] [] _ _
  refine sm_seg 1 0 [(0, .ref a0)] [] rfl ?_
  exact hk_0 a0 (cm_sI w a0 11 ((cm_I w a0 11) + (1 : Int32)))
def fn_202_0 : Nat → Nat → cm_W → Option cm_W
  | 0, _, _ => none
  | n + 1, a0, w => (if cm_sh w a0 = some (.inl 11) then (if (cm_I w a0 10) ≤ (cm_I w a0 11) then some w else (cm_R w a0 35).bind fun r5 => (if cm_ga w .byte r5 (cm_I w a0 11) = true then (if 2 ≤ r5 then (if (cm_I w r5 (cm_I w a0 11).toNatClampNeg) = (32 : Int32) then fn_202_39  (fn_202_0 n) a0 w else (cm_R w a0 35).bind fun r10 => (if cm_ga w .byte r10 (cm_I w a0 11) = true then (if 2 ≤ r10 then (if ¬ (cm_I w r10 (cm_I w a0 11).toNatClampNeg) = (10 : Int32) then some w else fn_202_39  (fn_202_0 n) a0 w) else none) else none)) else none) else none)) else none)
theorem jt_202_0 : ∀ (n : Nat) (a0 : Nat) (w : cm_W), sm cm_g 202 ck_202 kq_202 0 [(0, .ref a0)] [] w ((fn_202_0 n a0 w).map cm_gV) := by
  intro n
  induction n with
  | zero => intro a0 w; exact sm_no
  | succ n ih =>
    intro a0 w
    rw [fn_202_0]
    refine sm_seg 1 1 [(0, .ref a0)] [.ref a0] rfl ?_
    refine sm_gd fun h3 => ?_
    refine sm_gI rfl h3 rfl ?_
    show sm _ _ _ _ 4 [(0, .ref a0)] [.int (cm_I w a0 11)] _ _
    refine sm_seg 1 5 [(0, .ref a0)] [.ref a0, .int (cm_I w a0 11)] rfl ?_
    refine sm_gI rfl h3 rfl ?_
    show sm _ _ _ _ 8 [(0, .ref a0)] [.int (cm_I w a0 10), .int (cm_I w a0 11)] _ _
    refine sm_if (pc1 := 52) (lv1 := []) (pc2 := 11) (lv2 := [(0, .ref a0)]) (st1 := []) rfl rfl rfl (fun h4 => ?_) (fun h4 => ?_)
    · exact sm_rV rfl rfl
    · refine sm_seg 1 12 [(0, .ref a0)] [.ref a0] rfl ?_
      refine sm_gR rfl h3 rfl rfl fun r5 h6 => ?_
      show sm _ _ _ _ 15 [(0, .ref a0)] [.ref r5] _ _
      refine sm_seg 1 16 [(0, .ref a0)] [.ref a0, .ref r5] rfl ?_
      refine sm_gI rfl h3 rfl ?_
      show sm _ _ _ _ 19 [(0, .ref a0)] [.int (cm_I w a0 11), .ref r5] _ _
      refine sm_gd fun h7 => ?_
      refine sm_gd fun h8 => ?_
      refine sm_ab rfl h7 h8 rfl ?_
      show sm _ _ _ _ 20 [(0, .ref a0)] [.int (cm_I w r5 (cm_I w a0 11).toNatClampNeg)] _ _
      refine sm_seg 1 22 [(0, .ref a0)] [.int (32 : Int32), .int (cm_I w r5 (cm_I w a0 11).toNatClampNeg)] rfl ?_
      refine sm_if (pc1 := 39) (lv1 := [(0, .ref a0)]) (pc2 := 25) (lv2 := [(0, .ref a0)]) (st1 := []) rfl rfl rfl (fun h9 => ?_) (fun h9 => ?_)
      · exact jt_202_39  (fn_202_0 n) ih a0 w
      · refine sm_seg 1 26 [(0, .ref a0)] [.ref a0] rfl ?_
        refine sm_gR rfl h3 rfl rfl fun r10 h11 => ?_
        show sm _ _ _ _ 29 [(0, .ref a0)] [.ref r10] _ _
        refine sm_seg 1 30 [(0, .ref a0)] [.ref a0, .ref r10] rfl ?_
        refine sm_gI rfl h3 rfl ?_
        show sm _ _ _ _ 33 [(0, .ref a0)] [.int (cm_I w a0 11), .ref r10] _ _
        refine sm_gd fun h12 => ?_
        refine sm_gd fun h13 => ?_
        refine sm_ab rfl h12 h13 rfl ?_
        show sm _ _ _ _ 34 [(0, .ref a0)] [.int (cm_I w r10 (cm_I w a0 11).toNatClampNeg)] _ _
        refine sm_seg 1 36 [(0, .ref a0)] [.int (10 : Int32), .int (cm_I w r10 (cm_I w a0 11).toNatClampNeg)] rfl ?_
        refine sm_if (pc1 := 52) (lv1 := []) (pc2 := 39) (lv2 := [(0, .ref a0)]) (st1 := []) rfl rfl rfl (fun h14 => ?_) (fun h14 => ?_)
        · exact sm_rV rfl rfl
        · exact jt_202_39  (fn_202_0 n) ih a0 w
def fn_202 (a0 : Nat) (w : cm_W) : Option cm_W := fn_202_0 cm_N a0 w
theorem ca_202 (a0 : Nat) (w : cm_W) : cm_ca cm_g 202 [.ref a0] w ((fn_202 a0 w).map cm_gV) := cm_ca_of (cm_me_of rfl rfl) rfl (jt_202_0 cm_N a0 w)
-- NailedBoxesModel.word()J
def fn_203_85 (k_14 : Nat → Int64 → cm_W → Option (Int64 × cm_W)) (a0 : Nat) (w : cm_W) : Option (Int64 × cm_W) := (if cm_sh w a0 = some (.inl 11) then (if cm_w2 96 143 a0 = true then k_14 a0 (0 : Int64) (cm_sI w a0 36 ((cm_I w a0 36) + (1 : Int32))) else none) else none)
theorem jt_203_85 (k_14 : Nat → Int64 → cm_W → Option (Int64 × cm_W)) (hk_14 : ∀ (a0 : Nat) (j1 : Int64) (w : cm_W), sm cm_g 203 ck_203 kq_203 14 [(0, .ref a0), (1, .long j1)] [] w ((k_14 a0 j1 w).map cm_gL)) (a0 : Nat) (w : cm_W) : sm cm_g 203 ck_203 kq_203 85 [(0, .ref a0)] [] w ((fn_203_85 k_14 a0 w).map cm_gL) := by
  unfold fn_203_85
  refine sm_seg 4 89 [(1, .long (0 : Int64)), (0, .ref a0)] [.ref a0, .ref a0] rfl ?_
  refine sm_gd fun h1 => ?_
  refine sm_gI rfl h1 rfl ?_
  show sm _ _ _ _ 92 [(1, .long (0 : Int64)), (0, .ref a0)] [.int (cm_I w a0 36), .ref a0] _ _
  refine sm_seg 2 94 [(1, .long (0 : Int64)), (0, .ref a0)] [.int ((cm_I w a0 36) + (1 : Int32)), .ref a0] rfl ?_
  refine sm_gd fun h2 => ?_
  refine sm_pI rfl h1 rfl h2 rfl ?_
  show sm _ _ _ _ 97 [(1, .long (0 : Int64)), (0, .ref a0)] [] _ _
  refine sm_seg 1 14 [(0, .ref a0), (1, .long (0 : Int64))] [] rfl ?_
  exact hk_14 a0 (0 : Int64) (cm_sI w a0 36 ((cm_I w a0 36) + (1 : Int32)))
def fn_203_100 (a0 : Nat) (j1 : Int64) (w : cm_W) : Option (Int64 × cm_W) := (if cm_sh w a0 = some (.inl 11) then (if ((cm_I w a0 36) - (cm_I w a0 11)) ≤ (8 : Int32) then some (j1, w) else some ((0 : Int64), w)) else none)
theorem jt_203_100 (a0 : Nat) (j1 : Int64) (w : cm_W) : sm cm_g 203 ck_203 kq_203 100 [(0, .ref a0), (1, .long j1)] [] w ((fn_203_100 a0 j1 w).map cm_gL) := by
  unfold fn_203_100
  refine sm_seg 1 101 [(0, .ref a0), (1, .long j1)] [.ref a0] rfl ?_
  refine sm_gd fun h3 => ?_
  refine sm_gI rfl h3 rfl ?_
  show sm _ _ _ _ 104 [(0, .ref a0), (1, .long j1)] [.int (cm_I w a0 36)] _ _
  refine sm_seg 1 105 [(0, .ref a0), (1, .long j1)] [.ref a0, .int (cm_I w a0 36)] rfl ?_
  refine sm_gI rfl h3 rfl ?_
  show sm _ _ _ _ 108 [(0, .ref a0), (1, .long j1)] [.int (cm_I w a0 11), .int (cm_I w a0 36)] _ _
  refine sm_seg 2 111 [(0, .ref a0), (1, .long j1)] [.int (8 : Int32), .int ((cm_I w a0 36) - (cm_I w a0 11))] rfl ?_
  refine sm_if (pc1 := 118) (lv1 := [(1, .long j1)]) (pc2 := 114) (lv2 := [(0, .ref a0), (1, .long j1)]) (st1 := []) rfl rfl rfl (fun h4 => ?_) (fun h4 => ?_)
  · refine sm_seg 1 119 [] [.long j1] rfl ?_
    exact sm_rLW rfl rfl
  · refine sm_seg 2 119 [] [.long (0 : Int64)] rfl ?_
    exact sm_rLW rfl rfl
def fn_203_14 : Nat → Nat → Int64 → cm_W → Option (Int64 × cm_W)
  | 0, _, _, _ => none
  | n + 1, a0, j1, w => (if cm_sh w a0 = some (.inl 11) then (if (cm_I w a0 10) ≤ (cm_I w a0 36) then fn_203_100  a0 j1 w else (cm_R w a0 35).bind fun r7 => (if cm_ga w .byte r7 (cm_I w a0 36) = true then (if 2 ≤ r7 then (if (cm_I w r7 (cm_I w a0 36).toNatClampNeg) < (97 : Int32) then fn_203_100  a0 j1 w else (cm_R w a0 35).bind fun r12 => (if cm_ga w .byte r12 (cm_I w a0 36) = true then (if 2 ≤ r12 then (if (122 : Int32) < (cm_I w r12 (cm_I w a0 36).toNatClampNeg) then fn_203_100  a0 j1 w else (if (8 : Int32) ≤ ((cm_I w a0 36) - (cm_I w a0 11)) then fn_203_85  (fn_203_14 n) a0 w else (cm_R w a0 35).bind fun r18 => (if cm_ga w .byte r18 (cm_I w a0 36) = true then (if 2 ≤ r18 then (if cm_w2 96 143 a0 = true then fn_203_14 n a0 ((j1 <<< (Int32.toInt64 (8 : Int32) &&& 63)) ||| (Int32.toInt64 (cm_I w r18 (cm_I w a0 36).toNatClampNeg))) (cm_sI w a0 36 ((cm_I w a0 36) + (1 : Int32))) else none) else none) else none))) else none) else none)) else none) else none)) else none)
theorem jt_203_14 : ∀ (n : Nat) (a0 : Nat) (j1 : Int64) (w : cm_W), sm cm_g 203 ck_203 kq_203 14 [(0, .ref a0), (1, .long j1)] [] w ((fn_203_14 n a0 j1 w).map cm_gL) := by
  intro n
  induction n with
  | zero => intro a0 j1 w; exact sm_no
  | succ n ih =>
    intro a0 j1 w
    rw [fn_203_14]
    refine sm_seg 1 15 [(0, .ref a0), (1, .long j1)] [.ref a0] rfl ?_
    refine sm_gd fun h5 => ?_
    refine sm_gI rfl h5 rfl ?_
    show sm _ _ _ _ 18 [(0, .ref a0), (1, .long j1)] [.int (cm_I w a0 36)] _ _
    refine sm_seg 1 19 [(0, .ref a0), (1, .long j1)] [.ref a0, .int (cm_I w a0 36)] rfl ?_
    refine sm_gI rfl h5 rfl ?_
    show sm _ _ _ _ 22 [(0, .ref a0), (1, .long j1)] [.int (cm_I w a0 10), .int (cm_I w a0 36)] _ _
    refine sm_if (pc1 := 100) (lv1 := [(0, .ref a0), (1, .long j1)]) (pc2 := 25) (lv2 := [(0, .ref a0), (1, .long j1)]) (st1 := []) rfl rfl rfl (fun h6 => ?_) (fun h6 => ?_)
    · exact jt_203_100  a0 j1 w
    · refine sm_seg 1 26 [(0, .ref a0), (1, .long j1)] [.ref a0] rfl ?_
      refine sm_gR rfl h5 rfl rfl fun r7 h8 => ?_
      show sm _ _ _ _ 29 [(0, .ref a0), (1, .long j1)] [.ref r7] _ _
      refine sm_seg 1 30 [(0, .ref a0), (1, .long j1)] [.ref a0, .ref r7] rfl ?_
      refine sm_gI rfl h5 rfl ?_
      show sm _ _ _ _ 33 [(0, .ref a0), (1, .long j1)] [.int (cm_I w a0 36), .ref r7] _ _
      refine sm_gd fun h9 => ?_
      refine sm_gd fun h10 => ?_
      refine sm_ab rfl h9 h10 rfl ?_
      show sm _ _ _ _ 34 [(0, .ref a0), (1, .long j1)] [.int (cm_I w r7 (cm_I w a0 36).toNatClampNeg)] _ _
      refine sm_seg 1 36 [(0, .ref a0), (1, .long j1)] [.int (97 : Int32), .int (cm_I w r7 (cm_I w a0 36).toNatClampNeg)] rfl ?_
      refine sm_if (pc1 := 100) (lv1 := [(0, .ref a0), (1, .long j1)]) (pc2 := 39) (lv2 := [(0, .ref a0), (1, .long j1)]) (st1 := []) rfl rfl rfl (fun h11 => ?_) (fun h11 => ?_)
      · exact jt_203_100  a0 j1 w
      · refine sm_seg 1 40 [(0, .ref a0), (1, .long j1)] [.ref a0] rfl ?_
        refine sm_gR rfl h5 rfl rfl fun r12 h13 => ?_
        show sm _ _ _ _ 43 [(0, .ref a0), (1, .long j1)] [.ref r12] _ _
        refine sm_seg 1 44 [(0, .ref a0), (1, .long j1)] [.ref a0, .ref r12] rfl ?_
        refine sm_gI rfl h5 rfl ?_
        show sm _ _ _ _ 47 [(0, .ref a0), (1, .long j1)] [.int (cm_I w a0 36), .ref r12] _ _
        refine sm_gd fun h14 => ?_
        refine sm_gd fun h15 => ?_
        refine sm_ab rfl h14 h15 rfl ?_
        show sm _ _ _ _ 48 [(0, .ref a0), (1, .long j1)] [.int (cm_I w r12 (cm_I w a0 36).toNatClampNeg)] _ _
        refine sm_seg 1 50 [(0, .ref a0), (1, .long j1)] [.int (122 : Int32), .int (cm_I w r12 (cm_I w a0 36).toNatClampNeg)] rfl ?_
        refine sm_if (pc1 := 100) (lv1 := [(0, .ref a0), (1, .long j1)]) (pc2 := 53) (lv2 := [(0, .ref a0), (1, .long j1)]) (st1 := []) rfl rfl rfl (fun h16 => ?_) (fun h16 => ?_)
        · exact jt_203_100  a0 j1 w
        · refine sm_seg 1 54 [(0, .ref a0), (1, .long j1)] [.ref a0] rfl ?_
          refine sm_gI rfl h5 rfl ?_
          show sm _ _ _ _ 57 [(0, .ref a0), (1, .long j1)] [.int (cm_I w a0 36)] _ _
          refine sm_seg 1 58 [(0, .ref a0), (1, .long j1)] [.ref a0, .int (cm_I w a0 36)] rfl ?_
          refine sm_gI rfl h5 rfl ?_
          show sm _ _ _ _ 61 [(0, .ref a0), (1, .long j1)] [.int (cm_I w a0 11), .int (cm_I w a0 36)] _ _
          refine sm_seg 2 64 [(0, .ref a0), (1, .long j1)] [.int (8 : Int32), .int ((cm_I w a0 36) - (cm_I w a0 11))] rfl ?_
          refine sm_if (pc1 := 85) (lv1 := [(0, .ref a0)]) (pc2 := 67) (lv2 := [(0, .ref a0), (1, .long j1)]) (st1 := []) rfl rfl rfl (fun h17 => ?_) (fun h17 => ?_)
          · exact jt_203_85  (fn_203_14 n) ih a0 w
          · refine sm_seg 4 72 [(0, .ref a0), (1, .long j1)] [.ref a0, .long (j1 <<< (Int32.toInt64 (8 : Int32) &&& 63))] rfl ?_
            refine sm_gR rfl h5 rfl rfl fun r18 h19 => ?_
            show sm _ _ _ _ 75 [(0, .ref a0), (1, .long j1)] [.ref r18, .long (j1 <<< (Int32.toInt64 (8 : Int32) &&& 63))] _ _
            refine sm_seg 1 76 [(0, .ref a0), (1, .long j1)] [.ref a0, .ref r18, .long (j1 <<< (Int32.toInt64 (8 : Int32) &&& 63))] rfl ?_
            refine sm_gI rfl h5 rfl ?_
            show sm _ _ _ _ 79 [(0, .ref a0), (1, .long j1)] [.int (cm_I w a0 36), .ref r18, .long (j1 <<< (Int32.toInt64 (8 : Int32) &&& 63))] _ _
            refine sm_gd fun h20 => ?_
            refine sm_gd fun h21 => ?_
            refine sm_ab rfl h20 h21 rfl ?_
            show sm _ _ _ _ 80 [(0, .ref a0), (1, .long j1)] [.int (cm_I w r18 (cm_I w a0 36).toNatClampNeg), .long (j1 <<< (Int32.toInt64 (8 : Int32) &&& 63))] _ _
            refine sm_seg 6 89 [(1, .long ((j1 <<< (Int32.toInt64 (8 : Int32) &&& 63)) ||| (Int32.toInt64 (cm_I w r18 (cm_I w a0 36).toNatClampNeg)))), (0, .ref a0)] [.ref a0, .ref a0] rfl ?_
            refine sm_gI rfl h5 rfl ?_
            show sm _ _ _ _ 92 [(1, .long ((j1 <<< (Int32.toInt64 (8 : Int32) &&& 63)) ||| (Int32.toInt64 (cm_I w r18 (cm_I w a0 36).toNatClampNeg)))), (0, .ref a0)] [.int (cm_I w a0 36), .ref a0] _ _
            refine sm_seg 2 94 [(1, .long ((j1 <<< (Int32.toInt64 (8 : Int32) &&& 63)) ||| (Int32.toInt64 (cm_I w r18 (cm_I w a0 36).toNatClampNeg)))), (0, .ref a0)] [.int ((cm_I w a0 36) + (1 : Int32)), .ref a0] rfl ?_
            refine sm_gd fun h22 => ?_
            refine sm_pI rfl h5 rfl h22 rfl ?_
            show sm _ _ _ _ 97 [(1, .long ((j1 <<< (Int32.toInt64 (8 : Int32) &&& 63)) ||| (Int32.toInt64 (cm_I w r18 (cm_I w a0 36).toNatClampNeg)))), (0, .ref a0)] [] _ _
            refine sm_seg 1 14 [(0, .ref a0), (1, .long ((j1 <<< (Int32.toInt64 (8 : Int32) &&& 63)) ||| (Int32.toInt64 (cm_I w r18 (cm_I w a0 36).toNatClampNeg))))] [] rfl ?_
            exact ih a0 ((j1 <<< (Int32.toInt64 (8 : Int32) &&& 63)) ||| (Int32.toInt64 (cm_I w r18 (cm_I w a0 36).toNatClampNeg))) (cm_sI w a0 36 ((cm_I w a0 36) + (1 : Int32)))
def fn_203 (a0 : Nat) (w : cm_W) : Option (Int64 × cm_W) := (if cm_sh w a0 = some (.inl 11) then (fn_202 a0 w).bind fun w24 => (if cm_sh w24 a0 = some (.inl 11) then (if cm_w2 96 143 a0 = true then fn_203_14  cm_N a0 (0 : Int64) (cm_sI w24 a0 36 (cm_I w24 a0 11)) else none) else none) else none)
theorem jt_203_0 (a0 : Nat) (w : cm_W) : sm cm_g 203 ck_203 kq_203 0 [(0, .ref a0)] [] w ((fn_203 a0 w).map cm_gL) := by
  unfold fn_203
  refine sm_seg 1 1 [(0, .ref a0)] [.ref a0] rfl ?_
  refine sm_gd fun h23 => ?_
  refine sm_cV (as := []) (rest := []) rfl rfl rfl rfl h23 (Nat.le_of_ble_eq_true rfl) (ca_202  a0 w) fun w24 h25 => ?_
  show sm _ _ _ _ 4 [(0, .ref a0)] [] _ _
  refine sm_seg 2 6 [(0, .ref a0)] [.ref a0, .ref a0] rfl ?_
  refine sm_gd fun h26 => ?_
  refine sm_gI rfl h26 rfl ?_
  show sm _ _ _ _ 9 [(0, .ref a0)] [.int (cm_I w24 a0 11), .ref a0] _ _
  refine sm_gd fun h27 => ?_
  refine sm_pI rfl h26 rfl h27 rfl ?_
  show sm _ _ _ _ 12 [(0, .ref a0)] [] _ _
  refine sm_seg 2 14 [(0, .ref a0), (1, .long (0 : Int64))] [] rfl ?_
  exact jt_203_14  cm_N a0 (0 : Int64) (cm_sI w24 a0 36 (cm_I w24 a0 11))
theorem ca_203 (a0 : Nat) (w : cm_W) : cm_ca cm_g 203 [.ref a0] w ((fn_203 a0 w).map cm_gL) := cm_ca_of (cm_me_of rfl rfl) rfl (jt_203_0 a0 w)
-- NailedBoxesModel.takes(J)Z
def fn_204_11 (a0 : Nat) (w : cm_W) : Option (Bool × cm_W) := (if cm_sh w a0 = some (.inl 11) then (if cm_w2 96 143 a0 = true then some (true, (cm_sI w a0 11 (cm_I w a0 36))) else none) else none)
theorem jt_204_11 (a0 : Nat) (w : cm_W) : sm cm_g 204 ck_204 kq_204 11 [(0, .ref a0)] [] w ((fn_204_11 a0 w).map cm_gB) := by
  unfold fn_204_11
  refine sm_seg 2 13 [(0, .ref a0)] [.ref a0, .ref a0] rfl ?_
  refine sm_gd fun h1 => ?_
  refine sm_gI rfl h1 rfl ?_
  show sm _ _ _ _ 16 [(0, .ref a0)] [.int (cm_I w a0 36), .ref a0] _ _
  refine sm_gd fun h2 => ?_
  refine sm_pI rfl h1 rfl h2 rfl ?_
  show sm _ _ _ _ 19 [(0, .ref a0)] [] _ _
  refine sm_seg 1 20 [(0, .ref a0)] [.int (1 : Int32)] rfl ?_
  exact sm_rBW (b := true) rfl rfl
def fn_204 (a0 : Nat) (j1 : Int64) (w : cm_W) : Option (Bool × cm_W) := (if cm_sh w a0 = some (.inl 11) then (fn_203 a0 w).bind fun v4 => (if (lg_cmp v4.1 j1) = 0 then fn_204_11  a0 v4.2 else some (false, v4.2)) else none)
theorem jt_204_0 (a0 : Nat) (j1 : Int64) (w : cm_W) : sm cm_g 204 ck_204 kq_204 0 [(0, .ref a0), (1, .long j1)] [] w ((fn_204 a0 j1 w).map cm_gB) := by
  unfold fn_204
  refine sm_seg 1 1 [(0, .ref a0), (1, .long j1)] [.ref a0] rfl ?_
  refine sm_gd fun h3 => ?_
  refine sm_cV (as := []) (rest := []) rfl rfl rfl rfl h3 (Nat.le_of_ble_eq_true rfl) (ca_203  a0 w) fun v4 h5 => ?_
  show sm _ _ _ _ 4 [(0, .ref a0), (1, .long j1)] [.long v4.1] _ _
  refine sm_seg 2 6 [(0, .ref a0), (1, .long j1)] [.int (lg_cmp v4.1 j1)] rfl ?_
  refine sm_if (pc1 := 11) (lv1 := [(0, .ref a0)]) (pc2 := 9) (lv2 := [(0, .ref a0), (1, .long j1)]) (st1 := []) rfl rfl rfl (fun h6 => ?_) (fun h6 => ?_)
  · exact jt_204_11  a0 v4.2
  · refine sm_seg 1 10 [(0, .ref a0), (1, .long j1)] [.int (0 : Int32)] rfl ?_
    exact sm_rBW (b := false) rfl rfl
theorem ca_204 (a0 : Nat) (j1 : Int64) (w : cm_W) : cm_ca cm_g 204 [.ref a0, .long j1] w ((fn_204 a0 j1 w).map cm_gB) := cm_ca_of (cm_me_of rfl rfl) rfl (jt_204_0 a0 j1 w)
-- NailedBoxesModel.takesSign(I)Z
def fn_205_30 (a0 : Nat) (w : cm_W) : Option (Bool × cm_W) := (if cm_sh w a0 = some (.inl 11) then (if cm_w2 96 143 a0 = true then some (true, (cm_sI w a0 11 ((cm_I w a0 11) + (1 : Int32)))) else none) else none)
theorem jt_205_30 (a0 : Nat) (w : cm_W) : sm cm_g 205 ck_205 kq_205 30 [(0, .ref a0)] [] w ((fn_205_30 a0 w).map cm_gB) := by
  unfold fn_205_30
  refine sm_seg 2 32 [(0, .ref a0)] [.ref a0, .ref a0] rfl ?_
  refine sm_gd fun h1 => ?_
  refine sm_gI rfl h1 rfl ?_
  show sm _ _ _ _ 35 [(0, .ref a0)] [.int (cm_I w a0 11), .ref a0] _ _
  refine sm_seg 2 37 [(0, .ref a0)] [.int ((cm_I w a0 11) + (1 : Int32)), .ref a0] rfl ?_
  refine sm_gd fun h2 => ?_
  refine sm_pI rfl h1 rfl h2 rfl ?_
  show sm _ _ _ _ 40 [(0, .ref a0)] [] _ _
  refine sm_seg 1 41 [(0, .ref a0)] [.int (1 : Int32)] rfl ?_
  exact sm_rBW (b := true) rfl rfl
def fn_205 (a0 : Nat) (i1 : Int32) (w : cm_W) : Option (Bool × cm_W) := (if cm_sh w a0 = some (.inl 11) then (fn_202 a0 w).bind fun w4 => (if cm_sh w4 a0 = some (.inl 11) then (if (cm_I w4 a0 11) = (cm_I w4 a0 10) then some (false, w4) else (cm_R w4 a0 35).bind fun r8 => (if cm_ga w4 .byte r8 (cm_I w4 a0 11) = true then (if 2 ≤ r8 then (if (cm_I w4 r8 (cm_I w4 a0 11).toNatClampNeg) = i1 then fn_205_30  a0 w4 else some (false, w4)) else none) else none)) else none) else none)
theorem jt_205_0 (a0 : Nat) (i1 : Int32) (w : cm_W) : sm cm_g 205 ck_205 kq_205 0 [(0, .ref a0), (1, .int i1)] [] w ((fn_205 a0 i1 w).map cm_gB) := by
  unfold fn_205
  refine sm_seg 1 1 [(0, .ref a0), (1, .int i1)] [.ref a0] rfl ?_
  refine sm_gd fun h3 => ?_
  refine sm_cV (as := []) (rest := []) rfl rfl rfl rfl h3 (Nat.le_of_ble_eq_true rfl) (ca_202  a0 w) fun w4 h5 => ?_
  show sm _ _ _ _ 4 [(0, .ref a0), (1, .int i1)] [] _ _
  refine sm_seg 1 5 [(0, .ref a0), (1, .int i1)] [.ref a0] rfl ?_
  refine sm_gd fun h6 => ?_
  refine sm_gI rfl h6 rfl ?_
  show sm _ _ _ _ 8 [(0, .ref a0), (1, .int i1)] [.int (cm_I w4 a0 11)] _ _
  refine sm_seg 1 9 [(0, .ref a0), (1, .int i1)] [.ref a0, .int (cm_I w4 a0 11)] rfl ?_
  refine sm_gI rfl h6 rfl ?_
  show sm _ _ _ _ 12 [(0, .ref a0), (1, .int i1)] [.int (cm_I w4 a0 10), .int (cm_I w4 a0 11)] _ _
  refine sm_if (pc1 := 28) (lv1 := []) (pc2 := 15) (lv2 := [(0, .ref a0), (1, .int i1)]) (st1 := []) rfl rfl rfl (fun h7 => ?_) (fun h7 => ?_)
  · refine sm_seg 1 29 [] [.int (0 : Int32)] rfl ?_
    exact sm_rBW (b := false) rfl rfl
  · refine sm_seg 1 16 [(0, .ref a0), (1, .int i1)] [.ref a0] rfl ?_
    refine sm_gR rfl h6 rfl rfl fun r8 h9 => ?_
    show sm _ _ _ _ 19 [(0, .ref a0), (1, .int i1)] [.ref r8] _ _
    refine sm_seg 1 20 [(0, .ref a0), (1, .int i1)] [.ref a0, .ref r8] rfl ?_
    refine sm_gI rfl h6 rfl ?_
    show sm _ _ _ _ 23 [(0, .ref a0), (1, .int i1)] [.int (cm_I w4 a0 11), .ref r8] _ _
    refine sm_gd fun h10 => ?_
    refine sm_gd fun h11 => ?_
    refine sm_ab rfl h10 h11 rfl ?_
    show sm _ _ _ _ 24 [(0, .ref a0), (1, .int i1)] [.int (cm_I w4 r8 (cm_I w4 a0 11).toNatClampNeg)] _ _
    refine sm_seg 1 25 [(0, .ref a0), (1, .int i1)] [.int i1, .int (cm_I w4 r8 (cm_I w4 a0 11).toNatClampNeg)] rfl ?_
    refine sm_if (pc1 := 30) (lv1 := [(0, .ref a0)]) (pc2 := 28) (lv2 := []) (st1 := []) rfl rfl rfl (fun h12 => ?_) (fun h12 => ?_)
    · exact jt_205_30  a0 w4
    · refine sm_seg 1 29 [] [.int (0 : Int32)] rfl ?_
      exact sm_rBW (b := false) rfl rfl
theorem ca_205 (a0 : Nat) (i1 : Int32) (w : cm_W) : cm_ca cm_g 205 [.ref a0, .int i1] w ((fn_205 a0 i1 w).map cm_gB) := cm_ca_of (cm_me_of rfl rfl) rfl (jt_205_0 a0 i1 w)
-- NailedBoxesModel.takesNumber(II)Z
def fn_206_75 (k_14 : Nat → Int32 → Int32 → Int32 → cm_W → Option (Bool × cm_W)) (a0 : Nat) (i1 : Int32) (i2 : Int32) (i3 : Int32) (w : cm_W) : Option (Bool × cm_W) := k_14 a0 i1 i2 (i3 + (1 : Int32)) w
theorem jt_206_75 (k_14 : Nat → Int32 → Int32 → Int32 → cm_W → Option (Bool × cm_W)) (hk_14 : ∀ (a0 : Nat) (i1 : Int32) (i2 : Int32) (i3 : Int32) (w : cm_W), sm cm_g 206 ck_206 kq_206 14 [(0, .ref a0), (1, .int i1), (2, .int i2), (3, .int i3)] [] w ((k_14 a0 i1 i2 i3 w).map cm_gB)) (a0 : Nat) (i1 : Int32) (i2 : Int32) (i3 : Int32) (w : cm_W) : sm cm_g 206 ck_206 kq_206 75 [(0, .ref a0), (1, .int i1), (2, .int i2), (3, .int i3)] [] w ((fn_206_75 k_14 a0 i1 i2 i3 w).map cm_gB) := by
  unfold fn_206_75
  refine sm_seg 2 14 [(0, .ref a0), (1, .int i1), (2, .int i2), (3, .int (i3 + (1 : Int32)))] [] rfl ?_
  exact hk_14 a0 i1 i2 (i3 + (1 : Int32)) w
def fn_206_113 (a0 : Nat) (i3 : Int32) (w : cm_W) : Option (Bool × cm_W) := (if cm_sh w a0 = some (.inl 11) then (if cm_w2 96 143 a0 = true then some (true, (cm_sI w a0 11 i3)) else none) else none)
theorem jt_206_113 (a0 : Nat) (i3 : Int32) (w : cm_W) : sm cm_g 206 ck_206 kq_206 113 [(0, .ref a0), (3, .int i3)] [] w ((fn_206_113 a0 i3 w).map cm_gB) := by
  unfold fn_206_113
  refine sm_seg 2 115 [(0, .ref a0), (3, .int i3)] [.int i3, .ref a0] rfl ?_
  refine sm_gd fun h1 => ?_
  refine sm_gd fun h2 => ?_
  refine sm_pI rfl h1 rfl h2 rfl ?_
  show sm _ _ _ _ 118 [(0, .ref a0), (3, .int i3)] [] _ _
  refine sm_seg 1 119 [(0, .ref a0), (3, .int i3)] [.int (1 : Int32)] rfl ?_
  exact sm_rBW (b := true) rfl rfl
def fn_206_81 (a0 : Nat) (i1 : Int32) (i2 : Int32) (i3 : Int32) (w : cm_W) : Option (Bool × cm_W) := (if cm_sh w a0 = some (.inl 11) then (if i3 = (cm_I w a0 11) then some (false, w) else (if (4 : Int32) < (i3 - (cm_I w a0 11)) then some (false, w) else (fn_194 w (cm_I w a0 37) i1 i2).bind fun v6 => (if ¬ (cm_b v6) = 0 then fn_206_113  a0 i3 w else some (false, w)))) else none)
theorem jt_206_81 (a0 : Nat) (i1 : Int32) (i2 : Int32) (i3 : Int32) (w : cm_W) : sm cm_g 206 ck_206 kq_206 81 [(0, .ref a0), (1, .int i1), (2, .int i2), (3, .int i3)] [] w ((fn_206_81 a0 i1 i2 i3 w).map cm_gB) := by
  unfold fn_206_81
  refine sm_seg 2 83 [(0, .ref a0), (1, .int i1), (2, .int i2), (3, .int i3)] [.ref a0, .int i3] rfl ?_
  refine sm_gd fun h3 => ?_
  refine sm_gI rfl h3 rfl ?_
  show sm _ _ _ _ 86 [(0, .ref a0), (1, .int i1), (2, .int i2), (3, .int i3)] [.int (cm_I w a0 11), .int i3] _ _
  refine sm_if (pc1 := 111) (lv1 := []) (pc2 := 89) (lv2 := [(0, .ref a0), (1, .int i1), (2, .int i2), (3, .int i3)]) (st1 := []) rfl rfl rfl (fun h4 => ?_) (fun h4 => ?_)
  · refine sm_seg 1 112 [] [.int (0 : Int32)] rfl ?_
    exact sm_rBW (b := false) rfl rfl
  · refine sm_seg 2 91 [(0, .ref a0), (1, .int i1), (2, .int i2), (3, .int i3)] [.ref a0, .int i3] rfl ?_
    refine sm_gI rfl h3 rfl ?_
    show sm _ _ _ _ 94 [(0, .ref a0), (1, .int i1), (2, .int i2), (3, .int i3)] [.int (cm_I w a0 11), .int i3] _ _
    refine sm_seg 2 96 [(0, .ref a0), (1, .int i1), (2, .int i2), (3, .int i3)] [.int (4 : Int32), .int (i3 - (cm_I w a0 11))] rfl ?_
    refine sm_if (pc1 := 111) (lv1 := []) (pc2 := 99) (lv2 := [(0, .ref a0), (1, .int i1), (2, .int i2), (3, .int i3)]) (st1 := []) rfl rfl rfl (fun h5 => ?_) (fun h5 => ?_)
    · refine sm_seg 1 112 [] [.int (0 : Int32)] rfl ?_
      exact sm_rBW (b := false) rfl rfl
    · refine sm_seg 1 100 [(0, .ref a0), (1, .int i1), (2, .int i2), (3, .int i3)] [.ref a0] rfl ?_
      refine sm_gI rfl h3 rfl ?_
      show sm _ _ _ _ 103 [(0, .ref a0), (1, .int i1), (2, .int i2), (3, .int i3)] [.int (cm_I w a0 37)] _ _
      refine sm_seg 2 105 [(0, .ref a0), (1, .int i1), (2, .int i2), (3, .int i3)] [.int i2, .int i1, .int (cm_I w a0 37)] rfl ?_
      refine sm_cS (av := [.int (cm_I w a0 37), .int i1, .int i2]) (rest := []) rfl rfl rfl rfl (Nat.le_of_ble_eq_true rfl) (ca_194 w (cm_I w a0 37) i1 i2) fun v6 h7 => ?_
      show sm _ _ _ _ 108 [(0, .ref a0), (1, .int i1), (2, .int i2), (3, .int i3)] [.int (cm_b v6)] _ _
      refine sm_if (pc1 := 113) (lv1 := [(0, .ref a0), (3, .int i3)]) (pc2 := 111) (lv2 := []) (st1 := []) rfl rfl rfl (fun h8 => ?_) (fun h8 => ?_)
      · exact jt_206_113  a0 i3 w
      · refine sm_seg 1 112 [] [.int (0 : Int32)] rfl ?_
        exact sm_rBW (b := false) rfl rfl
def fn_206_14 : Nat → Nat → Int32 → Int32 → Int32 → cm_W → Option (Bool × cm_W)
  | 0, _, _, _, _, _ => none
  | n + 1, a0, i1, i2, i3, w => (if cm_sh w a0 = some (.inl 11) then (if (cm_I w a0 10) ≤ i3 then fn_206_81  a0 i1 i2 i3 w else (cm_R w a0 35).bind fun r11 => (if cm_ga w .byte r11 i3 = true then (if 2 ≤ r11 then (if (cm_I w r11 i3.toNatClampNeg) < (48 : Int32) then fn_206_81  a0 i1 i2 i3 w else (cm_R w a0 35).bind fun r16 => (if cm_ga w .byte r16 i3 = true then (if 2 ≤ r16 then (if (57 : Int32) < (cm_I w r16 i3.toNatClampNeg) then fn_206_81  a0 i1 i2 i3 w else (if (4 : Int32) ≤ (i3 - (cm_I w a0 11)) then fn_206_75  (fn_206_14 n) a0 i1 i2 i3 w else (cm_R w a0 35).bind fun r22 => (if cm_ga w .byte r22 i3 = true then (if 2 ≤ r22 then (if cm_w2 96 143 a0 = true then fn_206_75  (fn_206_14 n) a0 i1 i2 i3 (cm_sI w a0 37 ((((10 : Int32) * (cm_I w a0 37)) + (cm_I w r22 i3.toNatClampNeg)) - (48 : Int32))) else none) else none) else none))) else none) else none)) else none) else none)) else none)
theorem jt_206_14 : ∀ (n : Nat) (a0 : Nat) (i1 : Int32) (i2 : Int32) (i3 : Int32) (w : cm_W), sm cm_g 206 ck_206 kq_206 14 [(0, .ref a0), (1, .int i1), (2, .int i2), (3, .int i3)] [] w ((fn_206_14 n a0 i1 i2 i3 w).map cm_gB) := by
  intro n
  induction n with
  | zero => intro a0 i1 i2 i3 w; exact sm_no
  | succ n ih =>
    intro a0 i1 i2 i3 w
    rw [fn_206_14]
    refine sm_seg 2 16 [(0, .ref a0), (1, .int i1), (2, .int i2), (3, .int i3)] [.ref a0, .int i3] rfl ?_
    refine sm_gd fun h9 => ?_
    refine sm_gI rfl h9 rfl ?_
    show sm _ _ _ _ 19 [(0, .ref a0), (1, .int i1), (2, .int i2), (3, .int i3)] [.int (cm_I w a0 10), .int i3] _ _
    refine sm_if (pc1 := 81) (lv1 := [(0, .ref a0), (1, .int i1), (2, .int i2), (3, .int i3)]) (pc2 := 22) (lv2 := [(0, .ref a0), (1, .int i1), (2, .int i2), (3, .int i3)]) (st1 := []) rfl rfl rfl (fun h10 => ?_) (fun h10 => ?_)
    · exact jt_206_81  a0 i1 i2 i3 w
    · refine sm_seg 1 23 [(0, .ref a0), (1, .int i1), (2, .int i2), (3, .int i3)] [.ref a0] rfl ?_
      refine sm_gR rfl h9 rfl rfl fun r11 h12 => ?_
      show sm _ _ _ _ 26 [(0, .ref a0), (1, .int i1), (2, .int i2), (3, .int i3)] [.ref r11] _ _
      refine sm_seg 1 27 [(0, .ref a0), (1, .int i1), (2, .int i2), (3, .int i3)] [.int i3, .ref r11] rfl ?_
      refine sm_gd fun h13 => ?_
      refine sm_gd fun h14 => ?_
      refine sm_ab rfl h13 h14 rfl ?_
      show sm _ _ _ _ 28 [(0, .ref a0), (1, .int i1), (2, .int i2), (3, .int i3)] [.int (cm_I w r11 i3.toNatClampNeg)] _ _
      refine sm_seg 1 30 [(0, .ref a0), (1, .int i1), (2, .int i2), (3, .int i3)] [.int (48 : Int32), .int (cm_I w r11 i3.toNatClampNeg)] rfl ?_
      refine sm_if (pc1 := 81) (lv1 := [(0, .ref a0), (1, .int i1), (2, .int i2), (3, .int i3)]) (pc2 := 33) (lv2 := [(0, .ref a0), (1, .int i1), (2, .int i2), (3, .int i3)]) (st1 := []) rfl rfl rfl (fun h15 => ?_) (fun h15 => ?_)
      · exact jt_206_81  a0 i1 i2 i3 w
      · refine sm_seg 1 34 [(0, .ref a0), (1, .int i1), (2, .int i2), (3, .int i3)] [.ref a0] rfl ?_
        refine sm_gR rfl h9 rfl rfl fun r16 h17 => ?_
        show sm _ _ _ _ 37 [(0, .ref a0), (1, .int i1), (2, .int i2), (3, .int i3)] [.ref r16] _ _
        refine sm_seg 1 38 [(0, .ref a0), (1, .int i1), (2, .int i2), (3, .int i3)] [.int i3, .ref r16] rfl ?_
        refine sm_gd fun h18 => ?_
        refine sm_gd fun h19 => ?_
        refine sm_ab rfl h18 h19 rfl ?_
        show sm _ _ _ _ 39 [(0, .ref a0), (1, .int i1), (2, .int i2), (3, .int i3)] [.int (cm_I w r16 i3.toNatClampNeg)] _ _
        refine sm_seg 1 41 [(0, .ref a0), (1, .int i1), (2, .int i2), (3, .int i3)] [.int (57 : Int32), .int (cm_I w r16 i3.toNatClampNeg)] rfl ?_
        refine sm_if (pc1 := 81) (lv1 := [(0, .ref a0), (1, .int i1), (2, .int i2), (3, .int i3)]) (pc2 := 44) (lv2 := [(0, .ref a0), (1, .int i1), (2, .int i2), (3, .int i3)]) (st1 := []) rfl rfl rfl (fun h20 => ?_) (fun h20 => ?_)
        · exact jt_206_81  a0 i1 i2 i3 w
        · refine sm_seg 2 46 [(0, .ref a0), (1, .int i1), (2, .int i2), (3, .int i3)] [.ref a0, .int i3] rfl ?_
          refine sm_gI rfl h9 rfl ?_
          show sm _ _ _ _ 49 [(0, .ref a0), (1, .int i1), (2, .int i2), (3, .int i3)] [.int (cm_I w a0 11), .int i3] _ _
          refine sm_seg 2 51 [(0, .ref a0), (1, .int i1), (2, .int i2), (3, .int i3)] [.int (4 : Int32), .int (i3 - (cm_I w a0 11))] rfl ?_
          refine sm_if (pc1 := 75) (lv1 := [(0, .ref a0), (1, .int i1), (2, .int i2), (3, .int i3)]) (pc2 := 54) (lv2 := [(0, .ref a0), (1, .int i1), (2, .int i2), (3, .int i3)]) (st1 := []) rfl rfl rfl (fun h21 => ?_) (fun h21 => ?_)
          · exact jt_206_75  (fn_206_14 n) ih a0 i1 i2 i3 w
          · refine sm_seg 3 58 [(0, .ref a0), (1, .int i1), (2, .int i2), (3, .int i3)] [.ref a0, .int (10 : Int32), .ref a0] rfl ?_
            refine sm_gI rfl h9 rfl ?_
            show sm _ _ _ _ 61 [(0, .ref a0), (1, .int i1), (2, .int i2), (3, .int i3)] [.int (cm_I w a0 37), .int (10 : Int32), .ref a0] _ _
            refine sm_seg 2 63 [(0, .ref a0), (1, .int i1), (2, .int i2), (3, .int i3)] [.ref a0, .int ((10 : Int32) * (cm_I w a0 37)), .ref a0] rfl ?_
            refine sm_gR rfl h9 rfl rfl fun r22 h23 => ?_
            show sm _ _ _ _ 66 [(0, .ref a0), (1, .int i1), (2, .int i2), (3, .int i3)] [.ref r22, .int ((10 : Int32) * (cm_I w a0 37)), .ref a0] _ _
            refine sm_seg 1 67 [(0, .ref a0), (1, .int i1), (2, .int i2), (3, .int i3)] [.int i3, .ref r22, .int ((10 : Int32) * (cm_I w a0 37)), .ref a0] rfl ?_
            refine sm_gd fun h24 => ?_
            refine sm_gd fun h25 => ?_
            refine sm_ab rfl h24 h25 rfl ?_
            show sm _ _ _ _ 68 [(0, .ref a0), (1, .int i1), (2, .int i2), (3, .int i3)] [.int (cm_I w r22 i3.toNatClampNeg), .int ((10 : Int32) * (cm_I w a0 37)), .ref a0] _ _
            refine sm_seg 3 72 [(0, .ref a0), (1, .int i1), (2, .int i2), (3, .int i3)] [.int ((((10 : Int32) * (cm_I w a0 37)) + (cm_I w r22 i3.toNatClampNeg)) - (48 : Int32)), .ref a0] rfl ?_
            refine sm_gd fun h26 => ?_
            refine sm_pI rfl h9 rfl h26 rfl ?_
            show sm _ _ _ _ 75 [(0, .ref a0), (1, .int i1), (2, .int i2), (3, .int i3)] [] _ _
            exact jt_206_75  (fn_206_14 n) ih a0 i1 i2 i3 (cm_sI w a0 37 ((((10 : Int32) * (cm_I w a0 37)) + (cm_I w r22 i3.toNatClampNeg)) - (48 : Int32)))
def fn_206 (a0 : Nat) (i1 : Int32) (i2 : Int32) (w : cm_W) : Option (Bool × cm_W) := (if cm_sh w a0 = some (.inl 11) then (fn_202 a0 w).bind fun w28 => (if cm_sh w28 a0 = some (.inl 11) then (if cm_w2 96 143 a0 = true then fn_206_14  cm_N a0 i1 i2 (cm_I w28 a0 11) (cm_sI w28 a0 37 (0 : Int32)) else none) else none) else none)
theorem jt_206_0 (a0 : Nat) (i1 : Int32) (i2 : Int32) (w : cm_W) : sm cm_g 206 ck_206 kq_206 0 [(0, .ref a0), (1, .int i1), (2, .int i2)] [] w ((fn_206 a0 i1 i2 w).map cm_gB) := by
  unfold fn_206
  refine sm_seg 1 1 [(0, .ref a0), (1, .int i1), (2, .int i2)] [.ref a0] rfl ?_
  refine sm_gd fun h27 => ?_
  refine sm_cV (as := []) (rest := []) rfl rfl rfl rfl h27 (Nat.le_of_ble_eq_true rfl) (ca_202  a0 w) fun w28 h29 => ?_
  show sm _ _ _ _ 4 [(0, .ref a0), (1, .int i1), (2, .int i2)] [] _ _
  refine sm_seg 1 5 [(0, .ref a0), (1, .int i1), (2, .int i2)] [.ref a0] rfl ?_
  refine sm_gd fun h30 => ?_
  refine sm_gI rfl h30 rfl ?_
  show sm _ _ _ _ 8 [(0, .ref a0), (1, .int i1), (2, .int i2)] [.int (cm_I w28 a0 11)] _ _
  refine sm_seg 3 11 [(3, .int (cm_I w28 a0 11)), (0, .ref a0), (1, .int i1), (2, .int i2)] [.int (0 : Int32), .ref a0] rfl ?_
  refine sm_gd fun h31 => ?_
  refine sm_pI rfl h30 rfl h31 rfl ?_
  show sm _ _ _ _ 14 [(0, .ref a0), (1, .int i1), (2, .int i2), (3, .int (cm_I w28 a0 11))] [] _ _
  exact jt_206_14  cm_N a0 i1 i2 (cm_I w28 a0 11) (cm_sI w28 a0 37 (0 : Int32))
theorem ca_206 (a0 : Nat) (i1 : Int32) (i2 : Int32) (w : cm_W) : cm_ca cm_g 206 [.ref a0, .int i1, .int i2] w ((fn_206 a0 i1 i2 w).map cm_gB) := cm_ca_of (cm_me_of rfl rfl) rfl (jt_206_0 a0 i1 i2 w)
-- NailedBoxesModel.mannerOf(J)I
def fn_207_60 (w : cm_W) (j0 : Int64) : Option Int32 := (if ¬ (lg_cmp j0 (495925031534 : Int64)) = 0 then some (-1 : Int32) else some (5 : Int32))
theorem jt_207_60 (w : cm_W) (j0 : Int64) : sm cm_g 207 ck_207 kq_207 60 [(0, .long j0)] [] w ((fn_207_60 w j0).map (cm_fI w)) := by
  unfold fn_207_60
  refine sm_seg 3 65 [(0, .long j0)] [.int (lg_cmp j0 (495925031534 : Int64))] rfl ?_
  refine sm_if (pc1 := 72) (lv1 := []) (pc2 := 68) (lv2 := [(0, .long j0)]) (st1 := []) rfl rfl rfl (fun h1 => ?_) (fun h1 => ?_)
  · refine sm_seg 1 73 [] [.int (-1 : Int32)] rfl ?_
    exact sm_rI rfl rfl
  · refine sm_seg 2 73 [] [.int (5 : Int32)] rfl ?_
    exact sm_rI rfl rfl
def fn_207_48 (w : cm_W) (j0 : Int64) : Option Int32 := (if ¬ (lg_cmp j0 (426952976750 : Int64)) = 0 then fn_207_60 w j0 else some (4 : Int32))
theorem jt_207_48 (w : cm_W) (j0 : Int64) : sm cm_g 207 ck_207 kq_207 48 [(0, .long j0)] [] w ((fn_207_48 w j0).map (cm_fI w)) := by
  unfold fn_207_48
  refine sm_seg 3 53 [(0, .long j0)] [.int (lg_cmp j0 (426952976750 : Int64))] rfl ?_
  refine sm_if (pc1 := 60) (lv1 := [(0, .long j0)]) (pc2 := 56) (lv2 := [(0, .long j0)]) (st1 := []) rfl rfl rfl (fun h2 => ?_) (fun h2 => ?_)
  · exact jt_207_60 w j0
  · refine sm_seg 2 73 [] [.int (4 : Int32)] rfl ?_
    exact sm_rI rfl rfl
def fn_207_36 (w : cm_W) (j0 : Int64) : Option Int32 := (if ¬ (lg_cmp j0 (1650815860 : Int64)) = 0 then fn_207_48 w j0 else some (3 : Int32))
theorem jt_207_36 (w : cm_W) (j0 : Int64) : sm cm_g 207 ck_207 kq_207 36 [(0, .long j0)] [] w ((fn_207_36 w j0).map (cm_fI w)) := by
  unfold fn_207_36
  refine sm_seg 3 41 [(0, .long j0)] [.int (lg_cmp j0 (1650815860 : Int64))] rfl ?_
  refine sm_if (pc1 := 48) (lv1 := [(0, .long j0)]) (pc2 := 44) (lv2 := [(0, .long j0)]) (st1 := []) rfl rfl rfl (fun h3 => ?_) (fun h3 => ?_)
  · exact jt_207_48 w j0
  · refine sm_seg 2 73 [] [.int (3 : Int32)] rfl ?_
    exact sm_rI rfl rfl
def fn_207_24 (w : cm_W) (j0 : Int64) : Option Int32 := (if ¬ (lg_cmp j0 (465558138734 : Int64)) = 0 then fn_207_36 w j0 else some (2 : Int32))
theorem jt_207_24 (w : cm_W) (j0 : Int64) : sm cm_g 207 ck_207 kq_207 24 [(0, .long j0)] [] w ((fn_207_24 w j0).map (cm_fI w)) := by
  unfold fn_207_24
  refine sm_seg 3 29 [(0, .long j0)] [.int (lg_cmp j0 (465558138734 : Int64))] rfl ?_
  refine sm_if (pc1 := 36) (lv1 := [(0, .long j0)]) (pc2 := 32) (lv2 := [(0, .long j0)]) (st1 := []) rfl rfl rfl (fun h4 => ?_) (fun h4 => ?_)
  · exact jt_207_36 w j0
  · refine sm_seg 2 73 [] [.int (2 : Int32)] rfl ?_
    exact sm_rI rfl rfl
def fn_207_12 (w : cm_W) (j0 : Int64) : Option Int32 := (if ¬ (lg_cmp j0 (1851878757 : Int64)) = 0 then fn_207_24 w j0 else some (1 : Int32))
theorem jt_207_12 (w : cm_W) (j0 : Int64) : sm cm_g 207 ck_207 kq_207 12 [(0, .long j0)] [] w ((fn_207_12 w j0).map (cm_fI w)) := by
  unfold fn_207_12
  refine sm_seg 3 17 [(0, .long j0)] [.int (lg_cmp j0 (1851878757 : Int64))] rfl ?_
  refine sm_if (pc1 := 24) (lv1 := [(0, .long j0)]) (pc2 := 20) (lv2 := [(0, .long j0)]) (st1 := []) rfl rfl rfl (fun h5 => ?_) (fun h5 => ?_)
  · exact jt_207_24 w j0
  · refine sm_seg 2 73 [] [.int (1 : Int32)] rfl ?_
    exact sm_rI rfl rfl
def fn_207 (w : cm_W) (j0 : Int64) : Option Int32 := (if ¬ (lg_cmp j0 (1717660018 : Int64)) = 0 then fn_207_12 w j0 else some (0 : Int32))
theorem jt_207_0 (w : cm_W) (j0 : Int64) : sm cm_g 207 ck_207 kq_207 0 [(0, .long j0)] [] w ((fn_207 w j0).map (cm_fI w)) := by
  unfold fn_207
  refine sm_seg 3 5 [(0, .long j0)] [.int (lg_cmp j0 (1717660018 : Int64))] rfl ?_
  refine sm_if (pc1 := 12) (lv1 := [(0, .long j0)]) (pc2 := 8) (lv2 := [(0, .long j0)]) (st1 := []) rfl rfl rfl (fun h6 => ?_) (fun h6 => ?_)
  · exact jt_207_12 w j0
  · refine sm_seg 2 73 [] [.int (0 : Int32)] rfl ?_
    exact sm_rI rfl rfl
theorem ca_207 (w : cm_W) (j0 : Int64) : cm_ca cm_g 207 [.long j0] w ((fn_207 w j0).map (cm_fI w)) := cm_ca_of (cm_me_of rfl rfl) rfl (jt_207_0 w j0)
-- NailedBoxesModel.isKept(J)Z
def fn_208 (w : cm_W) (j0 : Int64) : Option Bool := (if (lg_cmp j0 (499967946343 : Int64)) = 0 then some true else (if (lg_cmp j0 (126926742711411 : Int64)) = 0 then some true else (if (lg_cmp j0 (7825519 : Int64)) = 0 then some true else (if (lg_cmp j0 (439855377523 : Int64)) = 0 then some true else (if (lg_cmp j0 (1885432178 : Int64)) = 0 then some true else (if (lg_cmp j0 (461262647411 : Int64)) = 0 then some true else (if (lg_cmp j0 (512802514792 : Int64)) = 0 then some true else (if (lg_cmp j0 (495672453989 : Int64)) = 0 then some true else (fn_207 w j0).bind fun v9 => (if v9 = (-1 : Int32) then some false else some true)))))))))
theorem jt_208_0 (w : cm_W) (j0 : Int64) : sm cm_g 208 ck_208 kq_208 0 [(0, .long j0)] [] w ((fn_208 w j0).map (cm_fB w)) := by
  unfold fn_208
  refine sm_seg 3 5 [(0, .long j0)] [.int (lg_cmp j0 (499967946343 : Int64))] rfl ?_
  refine sm_if (pc1 := 72) (lv1 := []) (pc2 := 8) (lv2 := [(0, .long j0)]) (st1 := []) rfl rfl rfl (fun h1 => ?_) (fun h1 => ?_)
  · refine sm_seg 2 77 [] [.int (1 : Int32)] rfl ?_
    exact sm_rB (b := true) rfl rfl
  · refine sm_seg 3 13 [(0, .long j0)] [.int (lg_cmp j0 (126926742711411 : Int64))] rfl ?_
    refine sm_if (pc1 := 72) (lv1 := []) (pc2 := 16) (lv2 := [(0, .long j0)]) (st1 := []) rfl rfl rfl (fun h2 => ?_) (fun h2 => ?_)
    · refine sm_seg 2 77 [] [.int (1 : Int32)] rfl ?_
      exact sm_rB (b := true) rfl rfl
    · refine sm_seg 3 21 [(0, .long j0)] [.int (lg_cmp j0 (7825519 : Int64))] rfl ?_
      refine sm_if (pc1 := 72) (lv1 := []) (pc2 := 24) (lv2 := [(0, .long j0)]) (st1 := []) rfl rfl rfl (fun h3 => ?_) (fun h3 => ?_)
      · refine sm_seg 2 77 [] [.int (1 : Int32)] rfl ?_
        exact sm_rB (b := true) rfl rfl
      · refine sm_seg 3 29 [(0, .long j0)] [.int (lg_cmp j0 (439855377523 : Int64))] rfl ?_
        refine sm_if (pc1 := 72) (lv1 := []) (pc2 := 32) (lv2 := [(0, .long j0)]) (st1 := []) rfl rfl rfl (fun h4 => ?_) (fun h4 => ?_)
        · refine sm_seg 2 77 [] [.int (1 : Int32)] rfl ?_
          exact sm_rB (b := true) rfl rfl
        · refine sm_seg 3 37 [(0, .long j0)] [.int (lg_cmp j0 (1885432178 : Int64))] rfl ?_
          refine sm_if (pc1 := 72) (lv1 := []) (pc2 := 40) (lv2 := [(0, .long j0)]) (st1 := []) rfl rfl rfl (fun h5 => ?_) (fun h5 => ?_)
          · refine sm_seg 2 77 [] [.int (1 : Int32)] rfl ?_
            exact sm_rB (b := true) rfl rfl
          · refine sm_seg 3 45 [(0, .long j0)] [.int (lg_cmp j0 (461262647411 : Int64))] rfl ?_
            refine sm_if (pc1 := 72) (lv1 := []) (pc2 := 48) (lv2 := [(0, .long j0)]) (st1 := []) rfl rfl rfl (fun h6 => ?_) (fun h6 => ?_)
            · refine sm_seg 2 77 [] [.int (1 : Int32)] rfl ?_
              exact sm_rB (b := true) rfl rfl
            · refine sm_seg 3 53 [(0, .long j0)] [.int (lg_cmp j0 (512802514792 : Int64))] rfl ?_
              refine sm_if (pc1 := 72) (lv1 := []) (pc2 := 56) (lv2 := [(0, .long j0)]) (st1 := []) rfl rfl rfl (fun h7 => ?_) (fun h7 => ?_)
              · refine sm_seg 2 77 [] [.int (1 : Int32)] rfl ?_
                exact sm_rB (b := true) rfl rfl
              · refine sm_seg 3 61 [(0, .long j0)] [.int (lg_cmp j0 (495672453989 : Int64))] rfl ?_
                refine sm_if (pc1 := 72) (lv1 := []) (pc2 := 64) (lv2 := [(0, .long j0)]) (st1 := []) rfl rfl rfl (fun h8 => ?_) (fun h8 => ?_)
                · refine sm_seg 2 77 [] [.int (1 : Int32)] rfl ?_
                  exact sm_rB (b := true) rfl rfl
                · refine sm_seg 1 65 [(0, .long j0)] [.long j0] rfl ?_
                  refine sm_cS (av := [.long j0]) (rest := []) rfl rfl rfl rfl (Nat.le_of_ble_eq_true rfl) (ca_207 w j0) fun v9 h10 => ?_
                  show sm _ _ _ _ 68 [(0, .long j0)] [.int v9] _ _
                  refine sm_seg 1 69 [(0, .long j0)] [.int (-1 : Int32), .int v9] rfl ?_
                  refine sm_if (pc1 := 76) (lv1 := []) (pc2 := 72) (lv2 := []) (st1 := []) rfl rfl rfl (fun h11 => ?_) (fun h11 => ?_)
                  · refine sm_seg 1 77 [] [.int (0 : Int32)] rfl ?_
                    exact sm_rB (b := false) rfl rfl
                  · refine sm_seg 2 77 [] [.int (1 : Int32)] rfl ?_
                    exact sm_rB (b := true) rfl rfl
theorem ca_208 (w : cm_W) (j0 : Int64) : cm_ca cm_g 208 [.long j0] w ((fn_208 w j0).map (cm_fB w)) := cm_ca_of (cm_me_of rfl rfl) rfl (jt_208_0 w j0)
-- NailedBoxesModel.thingNamed(J)I
def fn_209_26 (w : cm_W) (k_2 : Nat → Int64 → Int32 → Option Int32) (a0 : Nat) (j1 : Int64) (i3 : Int32) : Option Int32 := k_2 a0 j1 (i3 + (1 : Int32))
theorem jt_209_26 (w : cm_W) (k_2 : Nat → Int64 → Int32 → Option Int32) (hk_2 : ∀ (a0 : Nat) (j1 : Int64) (i3 : Int32), sm cm_g 209 ck_209 kq_209 2 [(0, .ref a0), (1, .long j1), (3, .int i3)] [] w ((k_2 a0 j1 i3).map (cm_fI w))) (a0 : Nat) (j1 : Int64) (i3 : Int32) : sm cm_g 209 ck_209 kq_209 26 [(0, .ref a0), (1, .long j1), (3, .int i3)] [] w ((fn_209_26 w k_2 a0 j1 i3).map (cm_fI w)) := by
  unfold fn_209_26
  refine sm_seg 2 2 [(0, .ref a0), (1, .long j1), (3, .int (i3 + (1 : Int32)))] [] rfl ?_
  exact hk_2 a0 j1 (i3 + (1 : Int32))
def fn_209_2 (w : cm_W) : Nat → Nat → Int64 → Int32 → Option Int32
  | 0, _, _, _ => none
  | n + 1, a0, j1, i3 => (if cm_sh w a0 = some (.inl 11) then (if (cm_I w a0 13) ≤ i3 then some (-1 : Int32) else (cm_R w a0 20).bind fun r3 => (if cm_ga w .long r3 ((8 : Int32) + i3) = true then (if ¬ (lg_cmp (cm_L w r3 ((8 : Int32) + i3).toNatClampNeg) j1) = 0 then fn_209_26 w (fn_209_2 w n) a0 j1 i3 else some i3) else none)) else none)
theorem jt_209_2 (w : cm_W) : ∀ (n : Nat) (a0 : Nat) (j1 : Int64) (i3 : Int32), sm cm_g 209 ck_209 kq_209 2 [(0, .ref a0), (1, .long j1), (3, .int i3)] [] w ((fn_209_2 w n a0 j1 i3).map (cm_fI w)) := by
  intro n
  induction n with
  | zero => intro a0 j1 i3; exact sm_no
  | succ n ih =>
    intro a0 j1 i3
    rw [fn_209_2]
    refine sm_seg 2 4 [(0, .ref a0), (1, .long j1), (3, .int i3)] [.ref a0, .int i3] rfl ?_
    refine sm_gd fun h1 => ?_
    refine sm_gI rfl h1 rfl ?_
    show sm _ _ _ _ 7 [(0, .ref a0), (1, .long j1), (3, .int i3)] [.int (cm_I w a0 13), .int i3] _ _
    refine sm_if (pc1 := 32) (lv1 := []) (pc2 := 10) (lv2 := [(0, .ref a0), (1, .long j1), (3, .int i3)]) (st1 := []) rfl rfl rfl (fun h2 => ?_) (fun h2 => ?_)
    · refine sm_seg 1 33 [] [.int (-1 : Int32)] rfl ?_
      exact sm_rI rfl rfl
    · refine sm_seg 1 11 [(0, .ref a0), (1, .long j1), (3, .int i3)] [.ref a0] rfl ?_
      refine sm_gR rfl h1 rfl rfl fun r3 h4 => ?_
      show sm _ _ _ _ 14 [(0, .ref a0), (1, .long j1), (3, .int i3)] [.ref r3] _ _
      refine sm_seg 3 18 [(0, .ref a0), (1, .long j1), (3, .int i3)] [.int ((8 : Int32) + i3), .ref r3] rfl ?_
      refine sm_gd fun h5 => ?_
      refine sm_al rfl h5 rfl ?_
      show sm _ _ _ _ 19 [(0, .ref a0), (1, .long j1), (3, .int i3)] [.long (cm_L w r3 ((8 : Int32) + i3).toNatClampNeg)] _ _
      refine sm_seg 2 21 [(0, .ref a0), (1, .long j1), (3, .int i3)] [.int (lg_cmp (cm_L w r3 ((8 : Int32) + i3).toNatClampNeg) j1)] rfl ?_
      refine sm_if (pc1 := 26) (lv1 := [(0, .ref a0), (1, .long j1), (3, .int i3)]) (pc2 := 24) (lv2 := [(0, .ref a0), (1, .long j1), (3, .int i3)]) (st1 := []) rfl rfl rfl (fun h6 => ?_) (fun h6 => ?_)
      · exact jt_209_26 w (fn_209_2 w n) ih a0 j1 i3
      · refine sm_seg 1 25 [(0, .ref a0), (1, .long j1), (3, .int i3)] [.int i3] rfl ?_
        exact sm_rI rfl rfl
def fn_209 (w : cm_W) (a0 : Nat) (j1 : Int64) : Option Int32 := fn_209_2 w cm_N a0 j1 (0 : Int32)
theorem jt_209_0 (w : cm_W) (a0 : Nat) (j1 : Int64) : sm cm_g 209 ck_209 kq_209 0 [(0, .ref a0), (1, .long j1)] [] w ((fn_209 w a0 j1).map (cm_fI w)) := by
  unfold fn_209
  refine sm_seg 2 2 [(0, .ref a0), (1, .long j1), (3, .int (0 : Int32))] [] rfl ?_
  exact jt_209_2 w cm_N a0 j1 (0 : Int32)
theorem ca_209 (w : cm_W) (a0 : Nat) (j1 : Int64) : cm_ca cm_g 209 [.ref a0, .long j1] w ((fn_209 w a0 j1).map (cm_fI w)) := cm_ca_of (cm_me_of rfl rfl) rfl (jt_209_0 w a0 j1)
-- NailedBoxesModel.whoNamed(J)I
def fn_210_26 (w : cm_W) (k_2 : Nat → Int64 → Int32 → Option Int32) (a0 : Nat) (j1 : Int64) (i3 : Int32) : Option Int32 := k_2 a0 j1 (i3 + (1 : Int32))
theorem jt_210_26 (w : cm_W) (k_2 : Nat → Int64 → Int32 → Option Int32) (hk_2 : ∀ (a0 : Nat) (j1 : Int64) (i3 : Int32), sm cm_g 210 ck_210 kq_210 2 [(0, .ref a0), (1, .long j1), (3, .int i3)] [] w ((k_2 a0 j1 i3).map (cm_fI w))) (a0 : Nat) (j1 : Int64) (i3 : Int32) : sm cm_g 210 ck_210 kq_210 26 [(0, .ref a0), (1, .long j1), (3, .int i3)] [] w ((fn_210_26 w k_2 a0 j1 i3).map (cm_fI w)) := by
  unfold fn_210_26
  refine sm_seg 2 2 [(0, .ref a0), (1, .long j1), (3, .int (i3 + (1 : Int32)))] [] rfl ?_
  exact hk_2 a0 j1 (i3 + (1 : Int32))
def fn_210_2 (w : cm_W) : Nat → Nat → Int64 → Int32 → Option Int32
  | 0, _, _, _ => none
  | n + 1, a0, j1, i3 => (if cm_sh w a0 = some (.inl 11) then (if (cm_I w a0 14) ≤ i3 then some (-1 : Int32) else (cm_R w a0 21).bind fun r3 => (if cm_ga w .long r3 ((12 : Int32) + i3) = true then (if ¬ (lg_cmp (cm_L w r3 ((12 : Int32) + i3).toNatClampNeg) j1) = 0 then fn_210_26 w (fn_210_2 w n) a0 j1 i3 else some i3) else none)) else none)
theorem jt_210_2 (w : cm_W) : ∀ (n : Nat) (a0 : Nat) (j1 : Int64) (i3 : Int32), sm cm_g 210 ck_210 kq_210 2 [(0, .ref a0), (1, .long j1), (3, .int i3)] [] w ((fn_210_2 w n a0 j1 i3).map (cm_fI w)) := by
  intro n
  induction n with
  | zero => intro a0 j1 i3; exact sm_no
  | succ n ih =>
    intro a0 j1 i3
    rw [fn_210_2]
    refine sm_seg 2 4 [(0, .ref a0), (1, .long j1), (3, .int i3)] [.ref a0, .int i3] rfl ?_
    refine sm_gd fun h1 => ?_
    refine sm_gI rfl h1 rfl ?_
    show sm _ _ _ _ 7 [(0, .ref a0), (1, .long j1), (3, .int i3)] [.int (cm_I w a0 14), .int i3] _ _
    refine sm_if (pc1 := 32) (lv1 := []) (pc2 := 10) (lv2 := [(0, .ref a0), (1, .long j1), (3, .int i3)]) (st1 := []) rfl rfl rfl (fun h2 => ?_) (fun h2 => ?_)
    · refine sm_seg 1 33 [] [.int (-1 : Int32)] rfl ?_
      exact sm_rI rfl rfl
    · refine sm_seg 1 11 [(0, .ref a0), (1, .long j1), (3, .int i3)] [.ref a0] rfl ?_
      refine sm_gR rfl h1 rfl rfl fun r3 h4 => ?_
      show sm _ _ _ _ 14 [(0, .ref a0), (1, .long j1), (3, .int i3)] [.ref r3] _ _
      refine sm_seg 3 18 [(0, .ref a0), (1, .long j1), (3, .int i3)] [.int ((12 : Int32) + i3), .ref r3] rfl ?_
      refine sm_gd fun h5 => ?_
      refine sm_al rfl h5 rfl ?_
      show sm _ _ _ _ 19 [(0, .ref a0), (1, .long j1), (3, .int i3)] [.long (cm_L w r3 ((12 : Int32) + i3).toNatClampNeg)] _ _
      refine sm_seg 2 21 [(0, .ref a0), (1, .long j1), (3, .int i3)] [.int (lg_cmp (cm_L w r3 ((12 : Int32) + i3).toNatClampNeg) j1)] rfl ?_
      refine sm_if (pc1 := 26) (lv1 := [(0, .ref a0), (1, .long j1), (3, .int i3)]) (pc2 := 24) (lv2 := [(0, .ref a0), (1, .long j1), (3, .int i3)]) (st1 := []) rfl rfl rfl (fun h6 => ?_) (fun h6 => ?_)
      · exact jt_210_26 w (fn_210_2 w n) ih a0 j1 i3
      · refine sm_seg 1 25 [(0, .ref a0), (1, .long j1), (3, .int i3)] [.int i3] rfl ?_
        exact sm_rI rfl rfl
def fn_210 (w : cm_W) (a0 : Nat) (j1 : Int64) : Option Int32 := fn_210_2 w cm_N a0 j1 (0 : Int32)
theorem jt_210_0 (w : cm_W) (a0 : Nat) (j1 : Int64) : sm cm_g 210 ck_210 kq_210 0 [(0, .ref a0), (1, .long j1)] [] w ((fn_210 w a0 j1).map (cm_fI w)) := by
  unfold fn_210
  refine sm_seg 2 2 [(0, .ref a0), (1, .long j1), (3, .int (0 : Int32))] [] rfl ?_
  exact jt_210_2 w cm_N a0 j1 (0 : Int32)
theorem ca_210 (w : cm_W) (a0 : Nat) (j1 : Int64) : cm_ca cm_g 210 [.ref a0, .long j1] w ((fn_210 w a0 j1).map (cm_fI w)) := cm_ca_of (cm_me_of rfl rfl) rfl (jt_210_0 w a0 j1)
-- NailedBoxesModel.newName()J
def fn_211_38 (a0 : Nat) (j1 : Int64) (w : cm_W) : Option (Int64 × cm_W) := (if cm_sh w a0 = some (.inl 11) then (if cm_w2 96 143 a0 = true then some (j1, (cm_sI w a0 11 (cm_I w a0 36))) else none) else none)
theorem jt_211_38 (a0 : Nat) (j1 : Int64) (w : cm_W) : sm cm_g 211 ck_211 kq_211 38 [(0, .ref a0), (1, .long j1)] [] w ((fn_211_38 a0 j1 w).map cm_gL) := by
  unfold fn_211_38
  refine sm_seg 2 40 [(0, .ref a0), (1, .long j1)] [.ref a0, .ref a0] rfl ?_
  refine sm_gd fun h1 => ?_
  refine sm_gI rfl h1 rfl ?_
  show sm _ _ _ _ 43 [(0, .ref a0), (1, .long j1)] [.int (cm_I w a0 36), .ref a0] _ _
  refine sm_gd fun h2 => ?_
  refine sm_pI rfl h1 rfl h2 rfl ?_
  show sm _ _ _ _ 46 [(0, .ref a0), (1, .long j1)] [] _ _
  refine sm_seg 1 47 [(0, .ref a0), (1, .long j1)] [.long j1] rfl ?_
  exact sm_rLW rfl rfl
def fn_211 (a0 : Nat) (w : cm_W) : Option (Int64 × cm_W) := (if cm_sh w a0 = some (.inl 11) then (fn_203 a0 w).bind fun v4 => (if (lg_cmp v4.1 (0 : Int64)) = 0 then some ((0 : Int64), v4.2) else (fn_208 v4.2 v4.1).bind fun v7 => (if ¬ (cm_b v7) = 0 then some ((0 : Int64), v4.2) else (if cm_sh v4.2 a0 = some (.inl 11) then (fn_209 v4.2 a0 v4.1).bind fun v11 => (if ¬ v11 = (-1 : Int32) then some ((0 : Int64), v4.2) else (fn_210 v4.2 a0 v4.1).bind fun v14 => (if v14 = (-1 : Int32) then fn_211_38  a0 v4.1 v4.2 else some ((0 : Int64), v4.2))) else none))) else none)
theorem jt_211_0 (a0 : Nat) (w : cm_W) : sm cm_g 211 ck_211 kq_211 0 [(0, .ref a0)] [] w ((fn_211 a0 w).map cm_gL) := by
  unfold fn_211
  refine sm_seg 1 1 [(0, .ref a0)] [.ref a0] rfl ?_
  refine sm_gd fun h3 => ?_
  refine sm_cV (as := []) (rest := []) rfl rfl rfl rfl h3 (Nat.le_of_ble_eq_true rfl) (ca_203  a0 w) fun v4 h5 => ?_
  show sm _ _ _ _ 4 [(0, .ref a0)] [.long v4.1] _ _
  refine sm_seg 4 8 [(1, .long v4.1), (0, .ref a0)] [.int (lg_cmp v4.1 (0 : Int64))] rfl ?_
  refine sm_if (pc1 := 36) (lv1 := []) (pc2 := 11) (lv2 := [(1, .long v4.1), (0, .ref a0)]) (st1 := []) rfl rfl rfl (fun h6 => ?_) (fun h6 => ?_)
  · refine sm_seg 1 37 [] [.long (0 : Int64)] rfl ?_
    exact sm_rLW rfl rfl
  · refine sm_seg 1 12 [(1, .long v4.1), (0, .ref a0)] [.long v4.1] rfl ?_
    refine sm_cS (av := [.long v4.1]) (rest := []) rfl rfl rfl rfl (Nat.le_of_ble_eq_true rfl) (ca_208 v4.2 v4.1) fun v7 h8 => ?_
    show sm _ _ _ _ 15 [(1, .long v4.1), (0, .ref a0)] [.int (cm_b v7)] _ _
    refine sm_if (pc1 := 36) (lv1 := []) (pc2 := 18) (lv2 := [(1, .long v4.1), (0, .ref a0)]) (st1 := []) rfl rfl rfl (fun h9 => ?_) (fun h9 => ?_)
    · refine sm_seg 1 37 [] [.long (0 : Int64)] rfl ?_
      exact sm_rLW rfl rfl
    · refine sm_seg 2 20 [(1, .long v4.1), (0, .ref a0)] [.long v4.1, .ref a0] rfl ?_
      refine sm_gd fun h10 => ?_
      refine sm_cV (as := [.long v4.1]) (rest := []) rfl rfl rfl rfl h10 (Nat.le_of_ble_eq_true rfl) (ca_209 v4.2 a0 v4.1) fun v11 h12 => ?_
      show sm _ _ _ _ 23 [(1, .long v4.1), (0, .ref a0)] [.int v11] _ _
      refine sm_seg 1 24 [(1, .long v4.1), (0, .ref a0)] [.int (-1 : Int32), .int v11] rfl ?_
      refine sm_if (pc1 := 36) (lv1 := []) (pc2 := 27) (lv2 := [(1, .long v4.1), (0, .ref a0)]) (st1 := []) rfl rfl rfl (fun h13 => ?_) (fun h13 => ?_)
      · refine sm_seg 1 37 [] [.long (0 : Int64)] rfl ?_
        exact sm_rLW rfl rfl
      · refine sm_seg 2 29 [(1, .long v4.1), (0, .ref a0)] [.long v4.1, .ref a0] rfl ?_
        refine sm_cV (as := [.long v4.1]) (rest := []) rfl rfl rfl rfl h10 (Nat.le_of_ble_eq_true rfl) (ca_210 v4.2 a0 v4.1) fun v14 h15 => ?_
        show sm _ _ _ _ 32 [(1, .long v4.1), (0, .ref a0)] [.int v14] _ _
        refine sm_seg 1 33 [(1, .long v4.1), (0, .ref a0)] [.int (-1 : Int32), .int v14] rfl ?_
        refine sm_if (pc1 := 38) (lv1 := [(0, .ref a0), (1, .long v4.1)]) (pc2 := 36) (lv2 := []) (st1 := []) rfl rfl rfl (fun h16 => ?_) (fun h16 => ?_)
        · exact jt_211_38  a0 v4.1 v4.2
        · refine sm_seg 1 37 [] [.long (0 : Int64)] rfl ?_
          exact sm_rLW rfl rfl
theorem ca_211 (a0 : Nat) (w : cm_W) : cm_ca cm_g 211 [.ref a0] w ((fn_211 a0 w).map cm_gL) := cm_ca_of (cm_me_of rfl rfl) rfl (jt_211_0 a0 w)
-- NailedBoxesModel.oldThing()I
def fn_212_15 (a0 : Nat) (j1 : Int64) (w : cm_W) : Option (Int32 × cm_W) := (if cm_sh w a0 = some (.inl 11) then (fn_209 w a0 j1).bind fun v2 => (if v2 = (-1 : Int32) then some (v2, w) else (if cm_w2 96 143 a0 = true then some (v2, (cm_sI w a0 11 (cm_I w a0 36))) else none)) else none)
theorem jt_212_15 (a0 : Nat) (j1 : Int64) (w : cm_W) : sm cm_g 212 ck_212 kq_212 15 [(0, .ref a0), (1, .long j1)] [] w ((fn_212_15 a0 j1 w).map cm_gI) := by
  unfold fn_212_15
  refine sm_seg 2 17 [(0, .ref a0), (1, .long j1)] [.long j1, .ref a0] rfl ?_
  refine sm_gd fun h1 => ?_
  refine sm_cV (as := [.long j1]) (rest := []) rfl rfl rfl rfl h1 (Nat.le_of_ble_eq_true rfl) (ca_209 w a0 j1) fun v2 h3 => ?_
  show sm _ _ _ _ 20 [(0, .ref a0)] [.int v2] _ _
  refine sm_seg 3 23 [(3, .int v2), (0, .ref a0)] [.int (-1 : Int32), .int v2] rfl ?_
  refine sm_if (pc1 := 34) (lv1 := [(3, .int v2)]) (pc2 := 26) (lv2 := [(3, .int v2), (0, .ref a0)]) (st1 := []) rfl rfl rfl (fun h4 => ?_) (fun h4 => ?_)
  · refine sm_seg 1 35 [(3, .int v2)] [.int v2] rfl ?_
    exact sm_rIW rfl rfl
  · refine sm_seg 2 28 [(3, .int v2), (0, .ref a0)] [.ref a0, .ref a0] rfl ?_
    refine sm_gI rfl h1 rfl ?_
    show sm _ _ _ _ 31 [(3, .int v2), (0, .ref a0)] [.int (cm_I w a0 36), .ref a0] _ _
    refine sm_gd fun h5 => ?_
    refine sm_pI rfl h1 rfl h5 rfl ?_
    show sm _ _ _ _ 34 [(3, .int v2)] [] _ _
    refine sm_seg 1 35 [(3, .int v2)] [.int v2] rfl ?_
    exact sm_rIW rfl rfl
def fn_212 (a0 : Nat) (w : cm_W) : Option (Int32 × cm_W) := (if cm_sh w a0 = some (.inl 11) then (fn_203 a0 w).bind fun v7 => (if ¬ (lg_cmp v7.1 (0 : Int64)) = 0 then fn_212_15  a0 v7.1 v7.2 else some ((-1 : Int32), v7.2)) else none)
theorem jt_212_0 (a0 : Nat) (w : cm_W) : sm cm_g 212 ck_212 kq_212 0 [(0, .ref a0)] [] w ((fn_212 a0 w).map cm_gI) := by
  unfold fn_212
  refine sm_seg 1 1 [(0, .ref a0)] [.ref a0] rfl ?_
  refine sm_gd fun h6 => ?_
  refine sm_cV (as := []) (rest := []) rfl rfl rfl rfl h6 (Nat.le_of_ble_eq_true rfl) (ca_203  a0 w) fun v7 h8 => ?_
  show sm _ _ _ _ 4 [(0, .ref a0)] [.long v7.1] _ _
  refine sm_seg 4 8 [(1, .long v7.1), (0, .ref a0)] [.int (lg_cmp v7.1 (0 : Int64))] rfl ?_
  refine sm_if (pc1 := 15) (lv1 := [(0, .ref a0), (1, .long v7.1)]) (pc2 := 11) (lv2 := [(1, .long v7.1), (0, .ref a0)]) (st1 := []) rfl rfl rfl (fun h9 => ?_) (fun h9 => ?_)
  · exact jt_212_15  a0 v7.1 v7.2
  · refine sm_seg 5 23 [(3, .int (-1 : Int32)), (0, .ref a0)] [.int (-1 : Int32), .int (-1 : Int32)] rfl ?_
    refine sm_ift (c := (-1 : Int32) = (-1 : Int32)) (pc1 := 34) (pc2 := 26) (lv1 := [(3, .int (-1 : Int32))]) (st1 := []) rfl (by decide) rfl ?_
    refine sm_seg 1 35 [(3, .int (-1 : Int32))] [.int (-1 : Int32)] rfl ?_
    exact sm_rIW rfl rfl
theorem ca_212 (a0 : Nat) (w : cm_W) : cm_ca cm_g 212 [.ref a0] w ((fn_212 a0 w).map cm_gI) := cm_ca_of (cm_me_of rfl rfl) rfl (jt_212_0 a0 w)
-- NailedBoxesModel.thingTold()Z
def fn_213_136 (a0 : Nat) (i1 : Int32) (j2 : Int64) (w : cm_W) : Option (Bool × cm_W) := (if cm_sh w a0 = some (.inl 11) then (cm_R w a0 20).bind fun r2 => (if cm_ga w .long r2 i1 = true then (if cm_w2 96 143 r2 = true then (if cm_w2 96 143 a0 = true then some (true, (cm_sI (cm_sL w r2 i1.toNatClampNeg j2) a0 13 ((cm_I (cm_sL w r2 i1.toNatClampNeg j2) a0 13) + (1 : Int32)))) else none) else none) else none) else none)
theorem jt_213_136 (a0 : Nat) (i1 : Int32) (j2 : Int64) (w : cm_W) : sm cm_g 213 ck_213 kq_213 136 [(0, .ref a0), (1, .int i1), (2, .long j2)] [] w ((fn_213_136 a0 i1 j2 w).map cm_gB) := by
  unfold fn_213_136
  refine sm_seg 1 137 [(0, .ref a0), (1, .int i1), (2, .long j2)] [.ref a0] rfl ?_
  refine sm_gd fun h1 => ?_
  refine sm_gR rfl h1 rfl rfl fun r2 h3 => ?_
  show sm _ _ _ _ 140 [(0, .ref a0), (1, .int i1), (2, .long j2)] [.ref r2] _ _
  refine sm_seg 2 142 [(0, .ref a0), (1, .int i1), (2, .long j2)] [.long j2, .int i1, .ref r2] rfl ?_
  refine sm_gd fun h4 => ?_
  refine sm_gd fun h5 => ?_
  refine sm_sl rfl h4 h5 rfl rfl ?_
  show sm _ _ _ _ 143 [(0, .ref a0), (1, .int i1), (2, .long j2)] [] _ _
  refine sm_seg 2 145 [(0, .ref a0), (1, .int i1), (2, .long j2)] [.ref a0, .ref a0] rfl ?_
  refine sm_gI rfl h1 rfl ?_
  show sm _ _ _ _ 148 [(0, .ref a0), (1, .int i1), (2, .long j2)] [.int (cm_I (cm_sL w r2 i1.toNatClampNeg j2) a0 13), .ref a0] _ _
  refine sm_seg 2 150 [(0, .ref a0), (1, .int i1), (2, .long j2)] [.int ((cm_I (cm_sL w r2 i1.toNatClampNeg j2) a0 13) + (1 : Int32)), .ref a0] rfl ?_
  refine sm_gd fun h6 => ?_
  refine sm_pI rfl h1 rfl h6 rfl ?_
  show sm _ _ _ _ 153 [(0, .ref a0), (1, .int i1), (2, .long j2)] [] _ _
  refine sm_seg 1 154 [(0, .ref a0), (1, .int i1), (2, .long j2)] [.int (1 : Int32)] rfl ?_
  exact sm_rBW (b := true) rfl rfl
def fn_213_126 (a0 : Nat) (i1 : Int32) (j2 : Int64) (w : cm_W) : Option (Bool × cm_W) := (if cm_sh w a0 = some (.inl 11) then (cm_R w a0 25).bind fun r8 => (if cm_ga w .int r8 i1 = true then (if cm_w2 96 143 r8 = true then fn_213_136  a0 i1 j2 (cm_sI w r8 i1.toNatClampNeg (cm_I w a0 37)) else none) else none) else none)
theorem jt_213_126 (a0 : Nat) (i1 : Int32) (j2 : Int64) (w : cm_W) : sm cm_g 213 ck_213 kq_213 126 [(0, .ref a0), (1, .int i1), (2, .long j2)] [] w ((fn_213_126 a0 i1 j2 w).map cm_gB) := by
  unfold fn_213_126
  refine sm_seg 1 127 [(0, .ref a0), (1, .int i1), (2, .long j2)] [.ref a0] rfl ?_
  refine sm_gd fun h7 => ?_
  refine sm_gR rfl h7 rfl rfl fun r8 h9 => ?_
  show sm _ _ _ _ 130 [(0, .ref a0), (1, .int i1), (2, .long j2)] [.ref r8] _ _
  refine sm_seg 2 132 [(0, .ref a0), (1, .int i1), (2, .long j2)] [.ref a0, .int i1, .ref r8] rfl ?_
  refine sm_gI rfl h7 rfl ?_
  show sm _ _ _ _ 135 [(0, .ref a0), (1, .int i1), (2, .long j2)] [.int (cm_I w a0 37), .int i1, .ref r8] _ _
  refine sm_gd fun h10 => ?_
  refine sm_gd fun h11 => ?_
  refine sm_si rfl h10 h11 rfl rfl ?_
  show sm _ _ _ _ 136 [(0, .ref a0), (1, .int i1), (2, .long j2)] [] _ _
  exact jt_213_136  a0 i1 j2 (cm_sI w r8 i1.toNatClampNeg (cm_I w a0 37))
def fn_213_87 (a0 : Nat) (i1 : Int32) (j2 : Int64) (w : cm_W) : Option (Bool × cm_W) := (if cm_sh w a0 = some (.inl 11) then (cm_R w a0 24).bind fun r13 => (if cm_ga w .int r13 i1 = true then (if cm_w2 96 143 r13 = true then (cm_R (cm_sI w r13 i1.toNatClampNeg (cm_I w a0 37)) a0 25).bind fun r17 => (if cm_ga w .int r17 i1 = true then (if cm_w2 96 143 r17 = true then (fn_204 a0 (126926742711411 : Int64) (cm_sI (cm_sI w r13 i1.toNatClampNeg (cm_I w a0 37)) r17 i1.toNatClampNeg (0 : Int32))).bind fun v21 => (if (cm_b v21.1) = 0 then fn_213_136  a0 i1 j2 v21.2 else (if cm_sh v21.2 a0 = some (.inl 11) then (fn_206 a0 (0 : Int32) (99 : Int32) v21.2).bind fun v25 => (if ¬ (cm_b v25.1) = 0 then fn_213_126  a0 i1 j2 v25.2 else some (false, v25.2)) else none)) else none) else none) else none) else none) else none)
theorem jt_213_87 (a0 : Nat) (i1 : Int32) (j2 : Int64) (w : cm_W) : sm cm_g 213 ck_213 kq_213 87 [(0, .ref a0), (1, .int i1), (2, .long j2)] [] w ((fn_213_87 a0 i1 j2 w).map cm_gB) := by
  unfold fn_213_87
  refine sm_seg 1 88 [(0, .ref a0), (1, .int i1), (2, .long j2)] [.ref a0] rfl ?_
  refine sm_gd fun h12 => ?_
  refine sm_gR rfl h12 rfl rfl fun r13 h14 => ?_
  show sm _ _ _ _ 91 [(0, .ref a0), (1, .int i1), (2, .long j2)] [.ref r13] _ _
  refine sm_seg 2 93 [(0, .ref a0), (1, .int i1), (2, .long j2)] [.ref a0, .int i1, .ref r13] rfl ?_
  refine sm_gI rfl h12 rfl ?_
  show sm _ _ _ _ 96 [(0, .ref a0), (1, .int i1), (2, .long j2)] [.int (cm_I w a0 37), .int i1, .ref r13] _ _
  refine sm_gd fun h15 => ?_
  refine sm_gd fun h16 => ?_
  refine sm_si rfl h15 h16 rfl rfl ?_
  show sm _ _ _ _ 97 [(0, .ref a0), (1, .int i1), (2, .long j2)] [] _ _
  refine sm_seg 1 98 [(0, .ref a0), (1, .int i1), (2, .long j2)] [.ref a0] rfl ?_
  refine sm_gR rfl h12 rfl rfl fun r17 h18 => ?_
  show sm _ _ _ _ 101 [(0, .ref a0), (1, .int i1), (2, .long j2)] [.ref r17] _ _
  refine sm_seg 2 103 [(0, .ref a0), (1, .int i1), (2, .long j2)] [.int (0 : Int32), .int i1, .ref r17] rfl ?_
  refine sm_gd fun h19 => ?_
  refine sm_gd fun h20 => ?_
  refine sm_si rfl h19 h20 rfl rfl ?_
  show sm _ _ _ _ 104 [(0, .ref a0), (1, .int i1), (2, .long j2)] [] _ _
  refine sm_seg 2 108 [(0, .ref a0), (1, .int i1), (2, .long j2)] [.long (126926742711411 : Int64), .ref a0] rfl ?_
  refine sm_cV (as := [.long (126926742711411 : Int64)]) (rest := []) rfl rfl rfl rfl h12 (Nat.le_of_ble_eq_true rfl) (ca_204  a0 (126926742711411 : Int64) (cm_sI (cm_sI w r13 i1.toNatClampNeg (cm_I w a0 37)) r17 i1.toNatClampNeg (0 : Int32))) fun v21 h22 => ?_
  show sm _ _ _ _ 111 [(0, .ref a0), (1, .int i1), (2, .long j2)] [.int (cm_b v21.1)] _ _
  refine sm_if (pc1 := 136) (lv1 := [(0, .ref a0), (1, .int i1), (2, .long j2)]) (pc2 := 114) (lv2 := [(0, .ref a0), (1, .int i1), (2, .long j2)]) (st1 := []) rfl rfl rfl (fun h23 => ?_) (fun h23 => ?_)
  · exact jt_213_136  a0 i1 j2 v21.2
  · refine sm_seg 3 118 [(0, .ref a0), (1, .int i1), (2, .long j2)] [.int (99 : Int32), .int (0 : Int32), .ref a0] rfl ?_
    refine sm_gd fun h24 => ?_
    refine sm_cV (as := [.int (0 : Int32), .int (99 : Int32)]) (rest := []) rfl rfl rfl rfl h24 (Nat.le_of_ble_eq_true rfl) (ca_206  a0 (0 : Int32) (99 : Int32) v21.2) fun v25 h26 => ?_
    show sm _ _ _ _ 121 [(0, .ref a0), (1, .int i1), (2, .long j2)] [.int (cm_b v25.1)] _ _
    refine sm_if (pc1 := 126) (lv1 := [(0, .ref a0), (1, .int i1), (2, .long j2)]) (pc2 := 124) (lv2 := [(0, .ref a0), (1, .int i1), (2, .long j2)]) (st1 := []) rfl rfl rfl (fun h27 => ?_) (fun h27 => ?_)
    · exact jt_213_126  a0 i1 j2 v25.2
    · refine sm_seg 1 125 [(0, .ref a0), (1, .int i1), (2, .long j2)] [.int (0 : Int32)] rfl ?_
      exact sm_rBW (b := false) rfl rfl
def fn_213_65 (a0 : Nat) (i1 : Int32) (j2 : Int64) (w : cm_W) : Option (Bool × cm_W) := (if cm_sh w a0 = some (.inl 11) then (cm_R w a0 23).bind fun r29 => (if cm_ga w .int r29 i1 = true then (if cm_w2 96 143 r29 = true then (fn_206 a0 (0 : Int32) (9 : Int32) (cm_sI w r29 i1.toNatClampNeg (cm_I w a0 37))).bind fun v33 => (if ¬ (cm_b v33.1) = 0 then fn_213_87  a0 i1 j2 v33.2 else some (false, v33.2)) else none) else none) else none)
theorem jt_213_65 (a0 : Nat) (i1 : Int32) (j2 : Int64) (w : cm_W) : sm cm_g 213 ck_213 kq_213 65 [(0, .ref a0), (1, .int i1), (2, .long j2)] [] w ((fn_213_65 a0 i1 j2 w).map cm_gB) := by
  unfold fn_213_65
  refine sm_seg 1 66 [(0, .ref a0), (1, .int i1), (2, .long j2)] [.ref a0] rfl ?_
  refine sm_gd fun h28 => ?_
  refine sm_gR rfl h28 rfl rfl fun r29 h30 => ?_
  show sm _ _ _ _ 69 [(0, .ref a0), (1, .int i1), (2, .long j2)] [.ref r29] _ _
  refine sm_seg 2 71 [(0, .ref a0), (1, .int i1), (2, .long j2)] [.ref a0, .int i1, .ref r29] rfl ?_
  refine sm_gI rfl h28 rfl ?_
  show sm _ _ _ _ 74 [(0, .ref a0), (1, .int i1), (2, .long j2)] [.int (cm_I w a0 37), .int i1, .ref r29] _ _
  refine sm_gd fun h31 => ?_
  refine sm_gd fun h32 => ?_
  refine sm_si rfl h31 h32 rfl rfl ?_
  show sm _ _ _ _ 75 [(0, .ref a0), (1, .int i1), (2, .long j2)] [] _ _
  refine sm_seg 3 79 [(0, .ref a0), (1, .int i1), (2, .long j2)] [.int (9 : Int32), .int (0 : Int32), .ref a0] rfl ?_
  refine sm_cV (as := [.int (0 : Int32), .int (9 : Int32)]) (rest := []) rfl rfl rfl rfl h28 (Nat.le_of_ble_eq_true rfl) (ca_206  a0 (0 : Int32) (9 : Int32) (cm_sI w r29 i1.toNatClampNeg (cm_I w a0 37))) fun v33 h34 => ?_
  show sm _ _ _ _ 82 [(0, .ref a0), (1, .int i1), (2, .long j2)] [.int (cm_b v33.1)] _ _
  refine sm_if (pc1 := 87) (lv1 := [(0, .ref a0), (1, .int i1), (2, .long j2)]) (pc2 := 85) (lv2 := [(0, .ref a0), (1, .int i1), (2, .long j2)]) (st1 := []) rfl rfl rfl (fun h35 => ?_) (fun h35 => ?_)
  · exact jt_213_87  a0 i1 j2 v33.2
  · refine sm_seg 1 86 [(0, .ref a0), (1, .int i1), (2, .long j2)] [.int (0 : Int32)] rfl ?_
    exact sm_rBW (b := false) rfl rfl
def fn_213_43 (a0 : Nat) (i1 : Int32) (j2 : Int64) (w : cm_W) : Option (Bool × cm_W) := (if cm_sh w a0 = some (.inl 11) then (cm_R w a0 22).bind fun r37 => (if cm_ga w .int r37 i1 = true then (if cm_w2 96 143 r37 = true then (fn_206 a0 (0 : Int32) (99 : Int32) (cm_sI w r37 i1.toNatClampNeg (cm_I w a0 37))).bind fun v41 => (if ¬ (cm_b v41.1) = 0 then fn_213_65  a0 i1 j2 v41.2 else some (false, v41.2)) else none) else none) else none)
theorem jt_213_43 (a0 : Nat) (i1 : Int32) (j2 : Int64) (w : cm_W) : sm cm_g 213 ck_213 kq_213 43 [(0, .ref a0), (1, .int i1), (2, .long j2)] [] w ((fn_213_43 a0 i1 j2 w).map cm_gB) := by
  unfold fn_213_43
  refine sm_seg 1 44 [(0, .ref a0), (1, .int i1), (2, .long j2)] [.ref a0] rfl ?_
  refine sm_gd fun h36 => ?_
  refine sm_gR rfl h36 rfl rfl fun r37 h38 => ?_
  show sm _ _ _ _ 47 [(0, .ref a0), (1, .int i1), (2, .long j2)] [.ref r37] _ _
  refine sm_seg 2 49 [(0, .ref a0), (1, .int i1), (2, .long j2)] [.ref a0, .int i1, .ref r37] rfl ?_
  refine sm_gI rfl h36 rfl ?_
  show sm _ _ _ _ 52 [(0, .ref a0), (1, .int i1), (2, .long j2)] [.int (cm_I w a0 37), .int i1, .ref r37] _ _
  refine sm_gd fun h39 => ?_
  refine sm_gd fun h40 => ?_
  refine sm_si rfl h39 h40 rfl rfl ?_
  show sm _ _ _ _ 53 [(0, .ref a0), (1, .int i1), (2, .long j2)] [] _ _
  refine sm_seg 3 57 [(0, .ref a0), (1, .int i1), (2, .long j2)] [.int (99 : Int32), .int (0 : Int32), .ref a0] rfl ?_
  refine sm_cV (as := [.int (0 : Int32), .int (99 : Int32)]) (rest := []) rfl rfl rfl rfl h36 (Nat.le_of_ble_eq_true rfl) (ca_206  a0 (0 : Int32) (99 : Int32) (cm_sI w r37 i1.toNatClampNeg (cm_I w a0 37))) fun v41 h42 => ?_
  show sm _ _ _ _ 60 [(0, .ref a0), (1, .int i1), (2, .long j2)] [.int (cm_b v41.1)] _ _
  refine sm_if (pc1 := 65) (lv1 := [(0, .ref a0), (1, .int i1), (2, .long j2)]) (pc2 := 63) (lv2 := [(0, .ref a0), (1, .int i1), (2, .long j2)]) (st1 := []) rfl rfl rfl (fun h43 => ?_) (fun h43 => ?_)
  · exact jt_213_65  a0 i1 j2 v41.2
  · refine sm_seg 1 64 [(0, .ref a0), (1, .int i1), (2, .long j2)] [.int (0 : Int32)] rfl ?_
    exact sm_rBW (b := false) rfl rfl
def fn_213_19 (a0 : Nat) (i1 : Int32) (w : cm_W) : Option (Bool × cm_W) := (if cm_sh w a0 = some (.inl 11) then (fn_211 a0 w).bind fun v45 => (if (lg_cmp v45.1 (0 : Int64)) = 0 then some (false, v45.2) else (if cm_sh v45.2 a0 = some (.inl 11) then (fn_206 a0 (0 : Int32) (999 : Int32) v45.2).bind fun v49 => (if ¬ (cm_b v49.1) = 0 then fn_213_43  a0 i1 v45.1 v49.2 else some (false, v49.2)) else none)) else none)
theorem jt_213_19 (a0 : Nat) (i1 : Int32) (w : cm_W) : sm cm_g 213 ck_213 kq_213 19 [(0, .ref a0), (1, .int i1)] [] w ((fn_213_19 a0 i1 w).map cm_gB) := by
  unfold fn_213_19
  refine sm_seg 1 20 [(0, .ref a0), (1, .int i1)] [.ref a0] rfl ?_
  refine sm_gd fun h44 => ?_
  refine sm_cV (as := []) (rest := []) rfl rfl rfl rfl h44 (Nat.le_of_ble_eq_true rfl) (ca_211  a0 w) fun v45 h46 => ?_
  show sm _ _ _ _ 23 [(0, .ref a0), (1, .int i1)] [.long v45.1] _ _
  refine sm_seg 4 27 [(2, .long v45.1), (0, .ref a0), (1, .int i1)] [.int (lg_cmp v45.1 (0 : Int64))] rfl ?_
  refine sm_if (pc1 := 41) (lv1 := []) (pc2 := 30) (lv2 := [(2, .long v45.1), (0, .ref a0), (1, .int i1)]) (st1 := []) rfl rfl rfl (fun h47 => ?_) (fun h47 => ?_)
  · refine sm_seg 1 42 [] [.int (0 : Int32)] rfl ?_
    exact sm_rBW (b := false) rfl rfl
  · refine sm_seg 3 35 [(2, .long v45.1), (0, .ref a0), (1, .int i1)] [.int (999 : Int32), .int (0 : Int32), .ref a0] rfl ?_
    refine sm_gd fun h48 => ?_
    refine sm_cV (as := [.int (0 : Int32), .int (999 : Int32)]) (rest := []) rfl rfl rfl rfl h48 (Nat.le_of_ble_eq_true rfl) (ca_206  a0 (0 : Int32) (999 : Int32) v45.2) fun v49 h50 => ?_
    show sm _ _ _ _ 38 [(2, .long v45.1), (0, .ref a0), (1, .int i1)] [.int (cm_b v49.1)] _ _
    refine sm_if (pc1 := 43) (lv1 := [(0, .ref a0), (1, .int i1), (2, .long v45.1)]) (pc2 := 41) (lv2 := []) (st1 := []) rfl rfl rfl (fun h51 => ?_) (fun h51 => ?_)
    · exact jt_213_43  a0 i1 v45.1 v49.2
    · refine sm_seg 1 42 [] [.int (0 : Int32)] rfl ?_
      exact sm_rBW (b := false) rfl rfl
def fn_213 (a0 : Nat) (w : cm_W) : Option (Bool × cm_W) := (if cm_sh w a0 = some (.inl 11) then (if ¬ (cm_I w a0 13) = (8 : Int32) then fn_213_19  a0 ((8 : Int32) + (cm_I w a0 13)) w else some (false, w)) else none)
theorem jt_213_0 (a0 : Nat) (w : cm_W) : sm cm_g 213 ck_213 kq_213 0 [(0, .ref a0)] [] w ((fn_213 a0 w).map cm_gB) := by
  unfold fn_213
  refine sm_seg 2 3 [(0, .ref a0)] [.ref a0, .int (8 : Int32)] rfl ?_
  refine sm_gd fun h52 => ?_
  refine sm_gI rfl h52 rfl ?_
  show sm _ _ _ _ 6 [(0, .ref a0)] [.int (cm_I w a0 13), .int (8 : Int32)] _ _
  refine sm_seg 3 9 [(1, .int ((8 : Int32) + (cm_I w a0 13))), (0, .ref a0)] [.ref a0] rfl ?_
  refine sm_gI rfl h52 rfl ?_
  show sm _ _ _ _ 12 [(1, .int ((8 : Int32) + (cm_I w a0 13))), (0, .ref a0)] [.int (cm_I w a0 13)] _ _
  refine sm_seg 1 14 [(1, .int ((8 : Int32) + (cm_I w a0 13))), (0, .ref a0)] [.int (8 : Int32), .int (cm_I w a0 13)] rfl ?_
  refine sm_if (pc1 := 19) (lv1 := [(0, .ref a0), (1, .int ((8 : Int32) + (cm_I w a0 13)))]) (pc2 := 17) (lv2 := [(1, .int ((8 : Int32) + (cm_I w a0 13))), (0, .ref a0)]) (st1 := []) rfl rfl rfl (fun h53 => ?_) (fun h53 => ?_)
  · exact jt_213_19  a0 ((8 : Int32) + (cm_I w a0 13)) w
  · refine sm_seg 1 18 [(1, .int ((8 : Int32) + (cm_I w a0 13))), (0, .ref a0)] [.int (0 : Int32)] rfl ?_
    exact sm_rBW (b := false) rfl rfl
theorem ca_213 (a0 : Nat) (w : cm_W) : cm_ca cm_g 213 [.ref a0] w ((fn_213 a0 w).map cm_gB) := cm_ca_of (cm_me_of rfl rfl) rfl (jt_213_0 a0 w)
-- NailedBoxesModel.whoTold()Z
def fn_214_78 (a0 : Nat) (i1 : Int32) (j2 : Int64) (w : cm_W) : Option (Bool × cm_W) := (if cm_sh w a0 = some (.inl 11) then (cm_R w a0 27).bind fun r2 => (if cm_ga w .int r2 i1 = true then (if cm_w2 96 143 r2 = true then (cm_R (cm_sI w r2 i1.toNatClampNeg (cm_I w a0 37)) a0 28).bind fun r6 => (if cm_ga w .int r6 i1 = true then (if cm_w2 96 143 r6 = true then (cm_R (cm_sI (cm_sI w r2 i1.toNatClampNeg (cm_I w a0 37)) r6 i1.toNatClampNeg (0 : Int32)) a0 21).bind fun r10 => (if cm_ga w .long r10 i1 = true then (if cm_w2 96 143 r10 = true then (if cm_w2 96 143 a0 = true then some (true, (cm_sI (cm_sL (cm_sI (cm_sI w r2 i1.toNatClampNeg (cm_I w a0 37)) r6 i1.toNatClampNeg (0 : Int32)) r10 i1.toNatClampNeg j2) a0 14 ((cm_I (cm_sL (cm_sI (cm_sI w r2 i1.toNatClampNeg (cm_I w a0 37)) r6 i1.toNatClampNeg (0 : Int32)) r10 i1.toNatClampNeg j2) a0 14) + (1 : Int32)))) else none) else none) else none) else none) else none) else none) else none) else none)
theorem jt_214_78 (a0 : Nat) (i1 : Int32) (j2 : Int64) (w : cm_W) : sm cm_g 214 ck_214 kq_214 78 [(0, .ref a0), (1, .int i1), (2, .long j2)] [] w ((fn_214_78 a0 i1 j2 w).map cm_gB) := by
  unfold fn_214_78
  refine sm_seg 1 79 [(0, .ref a0), (1, .int i1), (2, .long j2)] [.ref a0] rfl ?_
  refine sm_gd fun h1 => ?_
  refine sm_gR rfl h1 rfl rfl fun r2 h3 => ?_
  show sm _ _ _ _ 82 [(0, .ref a0), (1, .int i1), (2, .long j2)] [.ref r2] _ _
  refine sm_seg 2 84 [(0, .ref a0), (1, .int i1), (2, .long j2)] [.ref a0, .int i1, .ref r2] rfl ?_
  refine sm_gI rfl h1 rfl ?_
  show sm _ _ _ _ 87 [(0, .ref a0), (1, .int i1), (2, .long j2)] [.int (cm_I w a0 37), .int i1, .ref r2] _ _
  refine sm_gd fun h4 => ?_
  refine sm_gd fun h5 => ?_
  refine sm_si rfl h4 h5 rfl rfl ?_
  show sm _ _ _ _ 88 [(0, .ref a0), (1, .int i1), (2, .long j2)] [] _ _
  refine sm_seg 1 89 [(0, .ref a0), (1, .int i1), (2, .long j2)] [.ref a0] rfl ?_
  refine sm_gR rfl h1 rfl rfl fun r6 h7 => ?_
  show sm _ _ _ _ 92 [(0, .ref a0), (1, .int i1), (2, .long j2)] [.ref r6] _ _
  refine sm_seg 2 94 [(0, .ref a0), (1, .int i1), (2, .long j2)] [.int (0 : Int32), .int i1, .ref r6] rfl ?_
  refine sm_gd fun h8 => ?_
  refine sm_gd fun h9 => ?_
  refine sm_si rfl h8 h9 rfl rfl ?_
  show sm _ _ _ _ 95 [(0, .ref a0), (1, .int i1), (2, .long j2)] [] _ _
  refine sm_seg 1 96 [(0, .ref a0), (1, .int i1), (2, .long j2)] [.ref a0] rfl ?_
  refine sm_gR rfl h1 rfl rfl fun r10 h11 => ?_
  show sm _ _ _ _ 99 [(0, .ref a0), (1, .int i1), (2, .long j2)] [.ref r10] _ _
  refine sm_seg 2 101 [(0, .ref a0), (1, .int i1), (2, .long j2)] [.long j2, .int i1, .ref r10] rfl ?_
  refine sm_gd fun h12 => ?_
  refine sm_gd fun h13 => ?_
  refine sm_sl rfl h12 h13 rfl rfl ?_
  show sm _ _ _ _ 102 [(0, .ref a0), (1, .int i1), (2, .long j2)] [] _ _
  refine sm_seg 2 104 [(0, .ref a0), (1, .int i1), (2, .long j2)] [.ref a0, .ref a0] rfl ?_
  refine sm_gI rfl h1 rfl ?_
  show sm _ _ _ _ 107 [(0, .ref a0), (1, .int i1), (2, .long j2)] [.int (cm_I (cm_sL (cm_sI (cm_sI w r2 i1.toNatClampNeg (cm_I w a0 37)) r6 i1.toNatClampNeg (0 : Int32)) r10 i1.toNatClampNeg j2) a0 14), .ref a0] _ _
  refine sm_seg 2 109 [(0, .ref a0), (1, .int i1), (2, .long j2)] [.int ((cm_I (cm_sL (cm_sI (cm_sI w r2 i1.toNatClampNeg (cm_I w a0 37)) r6 i1.toNatClampNeg (0 : Int32)) r10 i1.toNatClampNeg j2) a0 14) + (1 : Int32)), .ref a0] rfl ?_
  refine sm_gd fun h14 => ?_
  refine sm_pI rfl h1 rfl h14 rfl ?_
  show sm _ _ _ _ 112 [(0, .ref a0), (1, .int i1), (2, .long j2)] [] _ _
  refine sm_seg 1 113 [(0, .ref a0), (1, .int i1), (2, .long j2)] [.int (1 : Int32)] rfl ?_
  exact sm_rBW (b := true) rfl rfl
def fn_214_57 (a0 : Nat) (i1 : Int32) (j2 : Int64) (w : cm_W) : Option (Bool × cm_W) := (if cm_sh w a0 = some (.inl 11) then (if cm_w2 96 143 a0 = true then (fn_206 a0 (0 : Int32) (9999 : Int32) (cm_sI w a0 11 (cm_I w a0 36))).bind fun v17 => (if ¬ (cm_b v17.1) = 0 then fn_214_78  a0 i1 j2 v17.2 else some (false, v17.2)) else none) else none)
theorem jt_214_57 (a0 : Nat) (i1 : Int32) (j2 : Int64) (w : cm_W) : sm cm_g 214 ck_214 kq_214 57 [(0, .ref a0), (1, .int i1), (2, .long j2)] [] w ((fn_214_57 a0 i1 j2 w).map cm_gB) := by
  unfold fn_214_57
  refine sm_seg 2 59 [(0, .ref a0), (1, .int i1), (2, .long j2)] [.ref a0, .ref a0] rfl ?_
  refine sm_gd fun h15 => ?_
  refine sm_gI rfl h15 rfl ?_
  show sm _ _ _ _ 62 [(0, .ref a0), (1, .int i1), (2, .long j2)] [.int (cm_I w a0 36), .ref a0] _ _
  refine sm_gd fun h16 => ?_
  refine sm_pI rfl h15 rfl h16 rfl ?_
  show sm _ _ _ _ 65 [(0, .ref a0), (1, .int i1), (2, .long j2)] [] _ _
  refine sm_seg 3 70 [(0, .ref a0), (1, .int i1), (2, .long j2)] [.int (9999 : Int32), .int (0 : Int32), .ref a0] rfl ?_
  refine sm_cV (as := [.int (0 : Int32), .int (9999 : Int32)]) (rest := []) rfl rfl rfl rfl h15 (Nat.le_of_ble_eq_true rfl) (ca_206  a0 (0 : Int32) (9999 : Int32) (cm_sI w a0 11 (cm_I w a0 36))) fun v17 h18 => ?_
  show sm _ _ _ _ 73 [(0, .ref a0), (1, .int i1), (2, .long j2)] [.int (cm_b v17.1)] _ _
  refine sm_if (pc1 := 78) (lv1 := [(0, .ref a0), (1, .int i1), (2, .long j2)]) (pc2 := 76) (lv2 := [(0, .ref a0), (1, .int i1), (2, .long j2)]) (st1 := []) rfl rfl rfl (fun h19 => ?_) (fun h19 => ?_)
  · exact jt_214_78  a0 i1 j2 v17.2
  · refine sm_seg 1 77 [(0, .ref a0), (1, .int i1), (2, .long j2)] [.int (0 : Int32)] rfl ?_
    exact sm_rBW (b := false) rfl rfl
def fn_214_32 (a0 : Nat) (i1 : Int32) (j2 : Int64) (w : cm_W) : Option (Bool × cm_W) := (if cm_sh w a0 = some (.inl 11) then (cm_R w a0 26).bind fun r21 => (fn_203 a0 w).bind fun v23 => (fn_207 v23.2 v23.1).bind fun v25 => (if cm_ga v23.2 .int r21 i1 = true then (if cm_w2 96 143 r21 = true then (if cm_sh v23.2 a0 = some (.inl 11) then (cm_R (cm_sI v23.2 r21 i1.toNatClampNeg v25) a0 26).bind fun r30 => (if cm_ga v23.2 .int r30 i1 = true then (if ¬ (cm_I (cm_sI v23.2 r21 i1.toNatClampNeg v25) r30 i1.toNatClampNeg) = (-1 : Int32) then fn_214_57  a0 i1 j2 (cm_sI v23.2 r21 i1.toNatClampNeg v25) else some (false, (cm_sI v23.2 r21 i1.toNatClampNeg v25))) else none) else none) else none) else none) else none)
theorem jt_214_32 (a0 : Nat) (i1 : Int32) (j2 : Int64) (w : cm_W) : sm cm_g 214 ck_214 kq_214 32 [(0, .ref a0), (1, .int i1), (2, .long j2)] [] w ((fn_214_32 a0 i1 j2 w).map cm_gB) := by
  unfold fn_214_32
  refine sm_seg 1 33 [(0, .ref a0), (1, .int i1), (2, .long j2)] [.ref a0] rfl ?_
  refine sm_gd fun h20 => ?_
  refine sm_gR rfl h20 rfl rfl fun r21 h22 => ?_
  show sm _ _ _ _ 36 [(0, .ref a0), (1, .int i1), (2, .long j2)] [.ref r21] _ _
  refine sm_seg 2 38 [(0, .ref a0), (1, .int i1), (2, .long j2)] [.ref a0, .int i1, .ref r21] rfl ?_
  refine sm_cV (as := []) (rest := [.int i1, .ref r21]) rfl rfl rfl rfl h20 (Nat.le_of_ble_eq_true rfl) (ca_203  a0 w) fun v23 h24 => ?_
  show sm _ _ _ _ 41 [(0, .ref a0), (1, .int i1), (2, .long j2)] [.long v23.1, .int i1, .ref r21] _ _
  refine sm_cS (av := [.long v23.1]) (rest := [.int i1, .ref r21]) rfl rfl rfl rfl (Nat.le_of_ble_eq_true rfl) (ca_207 v23.2 v23.1) fun v25 h26 => ?_
  show sm _ _ _ _ 44 [(0, .ref a0), (1, .int i1), (2, .long j2)] [.int v25, .int i1, .ref r21] _ _
  refine sm_gd fun h27 => ?_
  refine sm_gd fun h28 => ?_
  refine sm_si rfl h27 h28 rfl rfl ?_
  show sm _ _ _ _ 45 [(0, .ref a0), (1, .int i1), (2, .long j2)] [] _ _
  refine sm_seg 1 46 [(0, .ref a0), (1, .int i1), (2, .long j2)] [.ref a0] rfl ?_
  refine sm_gd fun h29 => ?_
  refine sm_gR rfl h29 rfl rfl fun r30 h31 => ?_
  show sm _ _ _ _ 49 [(0, .ref a0), (1, .int i1), (2, .long j2)] [.ref r30] _ _
  refine sm_seg 1 50 [(0, .ref a0), (1, .int i1), (2, .long j2)] [.int i1, .ref r30] rfl ?_
  refine sm_gd fun h32 => ?_
  refine sm_ai rfl h32 rfl ?_
  show sm _ _ _ _ 51 [(0, .ref a0), (1, .int i1), (2, .long j2)] [.int (cm_I (cm_sI v23.2 r21 i1.toNatClampNeg v25) r30 i1.toNatClampNeg)] _ _
  refine sm_seg 1 52 [(0, .ref a0), (1, .int i1), (2, .long j2)] [.int (-1 : Int32), .int (cm_I (cm_sI v23.2 r21 i1.toNatClampNeg v25) r30 i1.toNatClampNeg)] rfl ?_
  refine sm_if (pc1 := 57) (lv1 := [(0, .ref a0), (1, .int i1), (2, .long j2)]) (pc2 := 55) (lv2 := [(0, .ref a0), (1, .int i1), (2, .long j2)]) (st1 := []) rfl rfl rfl (fun h33 => ?_) (fun h33 => ?_)
  · exact jt_214_57  a0 i1 j2 (cm_sI v23.2 r21 i1.toNatClampNeg v25)
  · refine sm_seg 1 56 [(0, .ref a0), (1, .int i1), (2, .long j2)] [.int (0 : Int32)] rfl ?_
    exact sm_rBW (b := false) rfl rfl
def fn_214_19 (a0 : Nat) (i1 : Int32) (w : cm_W) : Option (Bool × cm_W) := (if cm_sh w a0 = some (.inl 11) then (fn_211 a0 w).bind fun v35 => (if ¬ (lg_cmp v35.1 (0 : Int64)) = 0 then fn_214_32  a0 i1 v35.1 v35.2 else some (false, v35.2)) else none)
theorem jt_214_19 (a0 : Nat) (i1 : Int32) (w : cm_W) : sm cm_g 214 ck_214 kq_214 19 [(0, .ref a0), (1, .int i1)] [] w ((fn_214_19 a0 i1 w).map cm_gB) := by
  unfold fn_214_19
  refine sm_seg 1 20 [(0, .ref a0), (1, .int i1)] [.ref a0] rfl ?_
  refine sm_gd fun h34 => ?_
  refine sm_cV (as := []) (rest := []) rfl rfl rfl rfl h34 (Nat.le_of_ble_eq_true rfl) (ca_211  a0 w) fun v35 h36 => ?_
  show sm _ _ _ _ 23 [(0, .ref a0), (1, .int i1)] [.long v35.1] _ _
  refine sm_seg 4 27 [(2, .long v35.1), (0, .ref a0), (1, .int i1)] [.int (lg_cmp v35.1 (0 : Int64))] rfl ?_
  refine sm_if (pc1 := 32) (lv1 := [(0, .ref a0), (1, .int i1), (2, .long v35.1)]) (pc2 := 30) (lv2 := [(2, .long v35.1), (0, .ref a0), (1, .int i1)]) (st1 := []) rfl rfl rfl (fun h37 => ?_) (fun h37 => ?_)
  · exact jt_214_32  a0 i1 v35.1 v35.2
  · refine sm_seg 1 31 [(2, .long v35.1), (0, .ref a0), (1, .int i1)] [.int (0 : Int32)] rfl ?_
    exact sm_rBW (b := false) rfl rfl
def fn_214 (a0 : Nat) (w : cm_W) : Option (Bool × cm_W) := (if cm_sh w a0 = some (.inl 11) then (if ¬ (cm_I w a0 14) = (12 : Int32) then fn_214_19  a0 ((12 : Int32) + (cm_I w a0 14)) w else some (false, w)) else none)
theorem jt_214_0 (a0 : Nat) (w : cm_W) : sm cm_g 214 ck_214 kq_214 0 [(0, .ref a0)] [] w ((fn_214 a0 w).map cm_gB) := by
  unfold fn_214
  refine sm_seg 2 3 [(0, .ref a0)] [.ref a0, .int (12 : Int32)] rfl ?_
  refine sm_gd fun h38 => ?_
  refine sm_gI rfl h38 rfl ?_
  show sm _ _ _ _ 6 [(0, .ref a0)] [.int (cm_I w a0 14), .int (12 : Int32)] _ _
  refine sm_seg 3 9 [(1, .int ((12 : Int32) + (cm_I w a0 14))), (0, .ref a0)] [.ref a0] rfl ?_
  refine sm_gI rfl h38 rfl ?_
  show sm _ _ _ _ 12 [(1, .int ((12 : Int32) + (cm_I w a0 14))), (0, .ref a0)] [.int (cm_I w a0 14)] _ _
  refine sm_seg 1 14 [(1, .int ((12 : Int32) + (cm_I w a0 14))), (0, .ref a0)] [.int (12 : Int32), .int (cm_I w a0 14)] rfl ?_
  refine sm_if (pc1 := 19) (lv1 := [(0, .ref a0), (1, .int ((12 : Int32) + (cm_I w a0 14)))]) (pc2 := 17) (lv2 := [(1, .int ((12 : Int32) + (cm_I w a0 14))), (0, .ref a0)]) (st1 := []) rfl rfl rfl (fun h39 => ?_) (fun h39 => ?_)
  · exact jt_214_19  a0 ((12 : Int32) + (cm_I w a0 14)) w
  · refine sm_seg 1 18 [(1, .int ((12 : Int32) + (cm_I w a0 14))), (0, .ref a0)] [.int (0 : Int32)] rfl ?_
    exact sm_rBW (b := false) rfl rfl
theorem ca_214 (a0 : Nat) (w : cm_W) : cm_ca cm_g 214 [.ref a0] w ((fn_214 a0 w).map cm_gB) := cm_ca_of (cm_me_of rfl rfl) rfl (jt_214_0 a0 w)
-- NailedBoxesModel.fillsTold()Z
def fn_215_145 (k_82 : Nat → Int32 → cm_W → Option (Bool × cm_W)) (a0 : Nat) (i4 : Int32) (i5 : Int32) (i7 : Int32) (w : cm_W) : Option (Bool × cm_W) := (if cm_sh w a0 = some (.inl 11) then (cm_R w a0 29).bind fun r2 => (if cm_ga w .int r2 (i4 + i7) = true then (if cm_w2 96 143 r2 = true then (fn_205 a0 (44 : Int32) (cm_sI w r2 (i4 + i7).toNatClampNeg i5)).bind fun v6 => (if ¬ (cm_b v6.1) = 0 then k_82 a0 i4 v6.2 else some (true, v6.2)) else none) else none) else none)
theorem jt_215_145 (k_82 : Nat → Int32 → cm_W → Option (Bool × cm_W)) (hk_82 : ∀ (a0 : Nat) (i4 : Int32) (w : cm_W), sm cm_g 215 ck_215 kq_215 82 [(0, .ref a0), (4, .int i4)] [] w ((k_82 a0 i4 w).map cm_gB)) (a0 : Nat) (i4 : Int32) (i5 : Int32) (i7 : Int32) (w : cm_W) : sm cm_g 215 ck_215 kq_215 145 [(0, .ref a0), (4, .int i4), (5, .int i5), (7, .int i7)] [] w ((fn_215_145 k_82 a0 i4 i5 i7 w).map cm_gB) := by
  unfold fn_215_145
  refine sm_seg 1 146 [(0, .ref a0), (4, .int i4), (5, .int i5), (7, .int i7)] [.ref a0] rfl ?_
  refine sm_gd fun h1 => ?_
  refine sm_gR rfl h1 rfl rfl fun r2 h3 => ?_
  show sm _ _ _ _ 149 [(0, .ref a0), (4, .int i4), (5, .int i5), (7, .int i7)] [.ref r2] _ _
  refine sm_seg 4 156 [(0, .ref a0), (4, .int i4), (5, .int i5), (7, .int i7)] [.int i5, .int (i4 + i7), .ref r2] rfl ?_
  refine sm_gd fun h4 => ?_
  refine sm_gd fun h5 => ?_
  refine sm_si rfl h4 h5 rfl rfl ?_
  show sm _ _ _ _ 157 [(0, .ref a0), (4, .int i4), (5, .int i5), (7, .int i7)] [] _ _
  refine sm_seg 2 160 [(0, .ref a0), (4, .int i4), (5, .int i5), (7, .int i7)] [.int (44 : Int32), .ref a0] rfl ?_
  refine sm_cV (as := [.int (44 : Int32)]) (rest := []) rfl rfl rfl rfl h1 (Nat.le_of_ble_eq_true rfl) (ca_205  a0 (44 : Int32) (cm_sI w r2 (i4 + i7).toNatClampNeg i5)) fun v6 h7 => ?_
  show sm _ _ _ _ 163 [(0, .ref a0), (4, .int i4), (5, .int i5), (7, .int i7)] [.int (cm_b v6.1)] _ _
  refine sm_if (pc1 := 82) (lv1 := [(0, .ref a0), (4, .int i4)]) (pc2 := 166) (lv2 := [(0, .ref a0), (4, .int i4), (5, .int i5), (7, .int i7)]) (st1 := []) rfl rfl rfl (fun h8 => ?_) (fun h8 => ?_)
  · exact hk_82 a0 i4 v6.2
  · refine sm_seg 1 167 [(0, .ref a0), (4, .int i4), (5, .int i5), (7, .int i7)] [.int (1 : Int32)] rfl ?_
    exact sm_rBW (b := true) rfl rfl
def fn_215_124 (k_82 : Nat → Int32 → cm_W → Option (Bool × cm_W)) (a0 : Nat) (i4 : Int32) (i5 : Int32) (i6 : Int32) (i7 : Int32) (w : cm_W) : Option (Bool × cm_W) := (if cm_sh w a0 = some (.inl 11) then (cm_R w a0 29).bind fun r10 => (if cm_ga w .int r10 (i4 + i7) = true then (if (cm_I w r10 (i4 + i7).toNatClampNeg) ≤ 0 then fn_215_145  k_82 a0 i4 i5 i7 w else (if cm_w2 96 143 a0 = true then some (false, (cm_sI w a0 11 i6)) else none)) else none) else none)
theorem jt_215_124 (k_82 : Nat → Int32 → cm_W → Option (Bool × cm_W)) (hk_82 : ∀ (a0 : Nat) (i4 : Int32) (w : cm_W), sm cm_g 215 ck_215 kq_215 82 [(0, .ref a0), (4, .int i4)] [] w ((k_82 a0 i4 w).map cm_gB)) (a0 : Nat) (i4 : Int32) (i5 : Int32) (i6 : Int32) (i7 : Int32) (w : cm_W) : sm cm_g 215 ck_215 kq_215 124 [(0, .ref a0), (4, .int i4), (5, .int i5), (6, .int i6), (7, .int i7)] [] w ((fn_215_124 k_82 a0 i4 i5 i6 i7 w).map cm_gB) := by
  unfold fn_215_124
  refine sm_seg 1 125 [(0, .ref a0), (4, .int i4), (5, .int i5), (6, .int i6), (7, .int i7)] [.ref a0] rfl ?_
  refine sm_gd fun h9 => ?_
  refine sm_gR rfl h9 rfl rfl fun r10 h11 => ?_
  show sm _ _ _ _ 128 [(0, .ref a0), (4, .int i4), (5, .int i5), (6, .int i6), (7, .int i7)] [.ref r10] _ _
  refine sm_seg 3 133 [(0, .ref a0), (4, .int i4), (5, .int i5), (6, .int i6), (7, .int i7)] [.int (i4 + i7), .ref r10] rfl ?_
  refine sm_gd fun h12 => ?_
  refine sm_ai rfl h12 rfl ?_
  show sm _ _ _ _ 134 [(0, .ref a0), (4, .int i4), (5, .int i5), (6, .int i6), (7, .int i7)] [.int (cm_I w r10 (i4 + i7).toNatClampNeg)] _ _
  refine sm_if (pc1 := 145) (lv1 := [(0, .ref a0), (4, .int i4), (5, .int i5), (7, .int i7)]) (pc2 := 137) (lv2 := [(0, .ref a0), (4, .int i4), (5, .int i5), (6, .int i6), (7, .int i7)]) (st1 := []) rfl rfl rfl (fun h13 => ?_) (fun h13 => ?_)
  · exact jt_215_145  k_82 hk_82 a0 i4 i5 i7 w
  · refine sm_seg 2 140 [(0, .ref a0), (4, .int i4), (5, .int i5), (6, .int i6), (7, .int i7)] [.int i6, .ref a0] rfl ?_
    refine sm_gd fun h14 => ?_
    refine sm_pI rfl h9 rfl h14 rfl ?_
    show sm _ _ _ _ 143 [(0, .ref a0), (4, .int i4), (5, .int i5), (6, .int i6), (7, .int i7)] [] _ _
    refine sm_seg 1 144 [(0, .ref a0), (4, .int i4), (5, .int i5), (6, .int i6), (7, .int i7)] [.int (0 : Int32)] rfl ?_
    exact sm_rBW (b := false) rfl rfl
def fn_215_94 (k_82 : Nat → Int32 → cm_W → Option (Bool × cm_W)) (a0 : Nat) (i4 : Int32) (w : cm_W) : Option (Bool × cm_W) := (if cm_sh w a0 = some (.inl 11) then (fn_202 a0 w).bind fun w16 => (if cm_sh w16 a0 = some (.inl 11) then (fn_212 a0 w16).bind fun v19 => (if ¬ v19.1 = (-1 : Int32) then fn_215_124  k_82 a0 i4 (cm_I w a0 37) (cm_I w16 a0 11) v19.1 v19.2 else some (false, v19.2)) else none) else none)
theorem jt_215_94 (k_82 : Nat → Int32 → cm_W → Option (Bool × cm_W)) (hk_82 : ∀ (a0 : Nat) (i4 : Int32) (w : cm_W), sm cm_g 215 ck_215 kq_215 82 [(0, .ref a0), (4, .int i4)] [] w ((k_82 a0 i4 w).map cm_gB)) (a0 : Nat) (i4 : Int32) (w : cm_W) : sm cm_g 215 ck_215 kq_215 94 [(0, .ref a0), (4, .int i4)] [] w ((fn_215_94 k_82 a0 i4 w).map cm_gB) := by
  unfold fn_215_94
  refine sm_seg 1 95 [(0, .ref a0), (4, .int i4)] [.ref a0] rfl ?_
  refine sm_gd fun h15 => ?_
  refine sm_gI rfl h15 rfl ?_
  show sm _ _ _ _ 98 [(0, .ref a0), (4, .int i4)] [.int (cm_I w a0 37)] _ _
  refine sm_seg 2 101 [(5, .int (cm_I w a0 37)), (0, .ref a0), (4, .int i4)] [.ref a0] rfl ?_
  refine sm_cV (as := []) (rest := []) rfl rfl rfl rfl h15 (Nat.le_of_ble_eq_true rfl) (ca_202  a0 w) fun w16 h17 => ?_
  show sm _ _ _ _ 104 [(5, .int (cm_I w a0 37)), (0, .ref a0), (4, .int i4)] [] _ _
  refine sm_seg 1 105 [(5, .int (cm_I w a0 37)), (0, .ref a0), (4, .int i4)] [.ref a0] rfl ?_
  refine sm_gd fun h18 => ?_
  refine sm_gI rfl h18 rfl ?_
  show sm _ _ _ _ 108 [(5, .int (cm_I w a0 37)), (0, .ref a0), (4, .int i4)] [.int (cm_I w16 a0 11)] _ _
  refine sm_seg 2 111 [(6, .int (cm_I w16 a0 11)), (5, .int (cm_I w a0 37)), (0, .ref a0), (4, .int i4)] [.ref a0] rfl ?_
  refine sm_cV (as := []) (rest := []) rfl rfl rfl rfl h18 (Nat.le_of_ble_eq_true rfl) (ca_212  a0 w16) fun v19 h20 => ?_
  show sm _ _ _ _ 114 [(6, .int (cm_I w16 a0 11)), (5, .int (cm_I w a0 37)), (0, .ref a0), (4, .int i4)] [.int v19.1] _ _
  refine sm_seg 3 119 [(7, .int v19.1), (6, .int (cm_I w16 a0 11)), (5, .int (cm_I w a0 37)), (0, .ref a0), (4, .int i4)] [.int (-1 : Int32), .int v19.1] rfl ?_
  refine sm_if (pc1 := 124) (lv1 := [(0, .ref a0), (4, .int i4), (5, .int (cm_I w a0 37)), (6, .int (cm_I w16 a0 11)), (7, .int v19.1)]) (pc2 := 122) (lv2 := [(7, .int v19.1), (6, .int (cm_I w16 a0 11)), (5, .int (cm_I w a0 37)), (0, .ref a0), (4, .int i4)]) (st1 := []) rfl rfl rfl (fun h21 => ?_) (fun h21 => ?_)
  · exact jt_215_124  k_82 hk_82 a0 i4 (cm_I w a0 37) (cm_I w16 a0 11) v19.1 v19.2
  · refine sm_seg 1 123 [(7, .int v19.1), (6, .int (cm_I w16 a0 11)), (5, .int (cm_I w a0 37)), (0, .ref a0), (4, .int i4)] [.int (0 : Int32)] rfl ?_
    exact sm_rBW (b := false) rfl rfl
def fn_215_82 : Nat → Nat → Int32 → cm_W → Option (Bool × cm_W)
  | 0, _, _, _ => none
  | n + 1, a0, i4, w => (if cm_sh w a0 = some (.inl 11) then (fn_206 a0 (1 : Int32) (99 : Int32) w).bind fun v23 => (if ¬ (cm_b v23.1) = 0 then fn_215_94  (fn_215_82 n) a0 i4 v23.2 else some (false, v23.2)) else none)
theorem jt_215_82 : ∀ (n : Nat) (a0 : Nat) (i4 : Int32) (w : cm_W), sm cm_g 215 ck_215 kq_215 82 [(0, .ref a0), (4, .int i4)] [] w ((fn_215_82 n a0 i4 w).map cm_gB) := by
  intro n
  induction n with
  | zero => intro a0 i4 w; exact sm_no
  | succ n ih =>
    intro a0 i4 w
    rw [fn_215_82]
    refine sm_seg 3 86 [(0, .ref a0), (4, .int i4)] [.int (99 : Int32), .int (1 : Int32), .ref a0] rfl ?_
    refine sm_gd fun h22 => ?_
    refine sm_cV (as := [.int (1 : Int32), .int (99 : Int32)]) (rest := []) rfl rfl rfl rfl h22 (Nat.le_of_ble_eq_true rfl) (ca_206  a0 (1 : Int32) (99 : Int32) w) fun v23 h24 => ?_
    show sm _ _ _ _ 89 [(0, .ref a0), (4, .int i4)] [.int (cm_b v23.1)] _ _
    refine sm_if (pc1 := 94) (lv1 := [(0, .ref a0), (4, .int i4)]) (pc2 := 92) (lv2 := [(0, .ref a0), (4, .int i4)]) (st1 := []) rfl rfl rfl (fun h25 => ?_) (fun h25 => ?_)
    · exact jt_215_94  (fn_215_82 n) ih a0 i4 v23.2
    · refine sm_seg 1 93 [(0, .ref a0), (4, .int i4)] [.int (0 : Int32)] rfl ?_
      exact sm_rBW (b := false) rfl rfl
def fn_215_72 (a0 : Nat) (i3 : Int32) (i4 : Int32) (w : cm_W) : Option (Bool × cm_W) := (if cm_sh w a0 = some (.inl 11) then (cm_R w a0 28).bind fun r27 => (if cm_ga w .int r27 ((12 : Int32) + i3) = true then (if cm_w2 96 143 r27 = true then fn_215_82  cm_N a0 i4 (cm_sI w r27 ((12 : Int32) + i3).toNatClampNeg (1 : Int32)) else none) else none) else none)
theorem jt_215_72 (a0 : Nat) (i3 : Int32) (i4 : Int32) (w : cm_W) : sm cm_g 215 ck_215 kq_215 72 [(0, .ref a0), (3, .int i3), (4, .int i4)] [] w ((fn_215_72 a0 i3 i4 w).map cm_gB) := by
  unfold fn_215_72
  refine sm_seg 1 73 [(0, .ref a0), (3, .int i3), (4, .int i4)] [.ref a0] rfl ?_
  refine sm_gd fun h26 => ?_
  refine sm_gR rfl h26 rfl rfl fun r27 h28 => ?_
  show sm _ _ _ _ 76 [(0, .ref a0), (3, .int i3), (4, .int i4)] [.ref r27] _ _
  refine sm_seg 4 81 [(0, .ref a0), (3, .int i3), (4, .int i4)] [.int (1 : Int32), .int ((12 : Int32) + i3), .ref r27] rfl ?_
  refine sm_gd fun h29 => ?_
  refine sm_gd fun h30 => ?_
  refine sm_si rfl h29 h30 rfl rfl ?_
  show sm _ _ _ _ 82 [(0, .ref a0), (4, .int i4)] [] _ _
  exact jt_215_82  cm_N a0 i4 (cm_sI w r27 ((12 : Int32) + i3).toNatClampNeg (1 : Int32))
def fn_215_48 : Nat → Nat → Int32 → Int32 → Int32 → cm_W → Option (Bool × cm_W)
  | 0, _, _, _, _, _ => none
  | n + 1, a0, i3, i4, i5, w => (if (8 : Int32) ≤ i5 then fn_215_72  a0 i3 i4 w else (if cm_sh w a0 = some (.inl 11) then (cm_R w a0 29).bind fun r33 => (if cm_ga w .int r33 (i4 + i5) = true then (if cm_w2 96 143 r33 = true then fn_215_48 n a0 i3 i4 (i5 + (1 : Int32)) (cm_sI w r33 (i4 + i5).toNatClampNeg (0 : Int32)) else none) else none) else none))
theorem jt_215_48 : ∀ (n : Nat) (a0 : Nat) (i3 : Int32) (i4 : Int32) (i5 : Int32) (w : cm_W), sm cm_g 215 ck_215 kq_215 48 [(0, .ref a0), (3, .int i3), (4, .int i4), (5, .int i5)] [] w ((fn_215_48 n a0 i3 i4 i5 w).map cm_gB) := by
  intro n
  induction n with
  | zero => intro a0 i3 i4 i5 w; exact sm_no
  | succ n ih =>
    intro a0 i3 i4 i5 w
    rw [fn_215_48]
    refine sm_seg 2 52 [(0, .ref a0), (3, .int i3), (4, .int i4), (5, .int i5)] [.int (8 : Int32), .int i5] rfl ?_
    refine sm_if (pc1 := 72) (lv1 := [(0, .ref a0), (3, .int i3), (4, .int i4)]) (pc2 := 55) (lv2 := [(0, .ref a0), (3, .int i3), (4, .int i4), (5, .int i5)]) (st1 := []) rfl rfl rfl (fun h31 => ?_) (fun h31 => ?_)
    · exact jt_215_72  a0 i3 i4 w
    · refine sm_seg 1 56 [(0, .ref a0), (3, .int i3), (4, .int i4), (5, .int i5)] [.ref a0] rfl ?_
      refine sm_gd fun h32 => ?_
      refine sm_gR rfl h32 rfl rfl fun r33 h34 => ?_
      show sm _ _ _ _ 59 [(0, .ref a0), (3, .int i3), (4, .int i4), (5, .int i5)] [.ref r33] _ _
      refine sm_seg 4 65 [(0, .ref a0), (3, .int i3), (4, .int i4), (5, .int i5)] [.int (0 : Int32), .int (i4 + i5), .ref r33] rfl ?_
      refine sm_gd fun h35 => ?_
      refine sm_gd fun h36 => ?_
      refine sm_si rfl h35 h36 rfl rfl ?_
      show sm _ _ _ _ 66 [(0, .ref a0), (3, .int i3), (4, .int i4), (5, .int i5)] [] _ _
      refine sm_seg 2 48 [(0, .ref a0), (3, .int i3), (4, .int i4), (5, .int (i5 + (1 : Int32)))] [] rfl ?_
      exact ih a0 i3 i4 (i5 + (1 : Int32)) (cm_sI w r33 (i4 + i5).toNatClampNeg (0 : Int32))
def fn_215_28 (a0 : Nat) (i3 : Int32) (w : cm_W) : Option (Bool × cm_W) := (if cm_sh w a0 = some (.inl 11) then (if cm_w2 96 143 a0 = true then fn_215_48  cm_N a0 i3 ((8 : Int32) * ((12 : Int32) + i3)) (0 : Int32) (cm_sI w a0 11 (cm_I w a0 36)) else none) else none)
theorem jt_215_28 (a0 : Nat) (i3 : Int32) (w : cm_W) : sm cm_g 215 ck_215 kq_215 28 [(0, .ref a0), (3, .int i3)] [] w ((fn_215_28 a0 i3 w).map cm_gB) := by
  unfold fn_215_28
  refine sm_seg 2 30 [(0, .ref a0), (3, .int i3)] [.ref a0, .ref a0] rfl ?_
  refine sm_gd fun h37 => ?_
  refine sm_gI rfl h37 rfl ?_
  show sm _ _ _ _ 33 [(0, .ref a0), (3, .int i3)] [.int (cm_I w a0 36), .ref a0] _ _
  refine sm_gd fun h38 => ?_
  refine sm_pI rfl h37 rfl h38 rfl ?_
  show sm _ _ _ _ 36 [(0, .ref a0), (3, .int i3)] [] _ _
  refine sm_seg 8 48 [(0, .ref a0), (3, .int i3), (4, .int ((8 : Int32) * ((12 : Int32) + i3))), (5, .int (0 : Int32))] [] rfl ?_
  exact jt_215_48  cm_N a0 i3 ((8 : Int32) * ((12 : Int32) + i3)) (0 : Int32) (cm_sI w a0 11 (cm_I w a0 36))
def fn_215_15 (a0 : Nat) (j1 : Int64) (w : cm_W) : Option (Bool × cm_W) := (if cm_sh w a0 = some (.inl 11) then (fn_210 w a0 j1).bind fun v40 => (if ¬ v40 = (-1 : Int32) then fn_215_28  a0 v40 w else some (false, w)) else none)
theorem jt_215_15 (a0 : Nat) (j1 : Int64) (w : cm_W) : sm cm_g 215 ck_215 kq_215 15 [(0, .ref a0), (1, .long j1)] [] w ((fn_215_15 a0 j1 w).map cm_gB) := by
  unfold fn_215_15
  refine sm_seg 2 17 [(0, .ref a0), (1, .long j1)] [.long j1, .ref a0] rfl ?_
  refine sm_gd fun h39 => ?_
  refine sm_cV (as := [.long j1]) (rest := []) rfl rfl rfl rfl h39 (Nat.le_of_ble_eq_true rfl) (ca_210 w a0 j1) fun v40 h41 => ?_
  show sm _ _ _ _ 20 [(0, .ref a0)] [.int v40] _ _
  refine sm_seg 3 23 [(3, .int v40), (0, .ref a0)] [.int (-1 : Int32), .int v40] rfl ?_
  refine sm_if (pc1 := 28) (lv1 := [(0, .ref a0), (3, .int v40)]) (pc2 := 26) (lv2 := [(3, .int v40), (0, .ref a0)]) (st1 := []) rfl rfl rfl (fun h42 => ?_) (fun h42 => ?_)
  · exact jt_215_28  a0 v40 w
  · refine sm_seg 1 27 [(3, .int v40), (0, .ref a0)] [.int (0 : Int32)] rfl ?_
    exact sm_rBW (b := false) rfl rfl
def fn_215 (a0 : Nat) (w : cm_W) : Option (Bool × cm_W) := (if cm_sh w a0 = some (.inl 11) then (fn_203 a0 w).bind fun v44 => (if ¬ (lg_cmp v44.1 (0 : Int64)) = 0 then fn_215_15  a0 v44.1 v44.2 else some (false, v44.2)) else none)
theorem jt_215_0 (a0 : Nat) (w : cm_W) : sm cm_g 215 ck_215 kq_215 0 [(0, .ref a0)] [] w ((fn_215 a0 w).map cm_gB) := by
  unfold fn_215
  refine sm_seg 1 1 [(0, .ref a0)] [.ref a0] rfl ?_
  refine sm_gd fun h43 => ?_
  refine sm_cV (as := []) (rest := []) rfl rfl rfl rfl h43 (Nat.le_of_ble_eq_true rfl) (ca_203  a0 w) fun v44 h45 => ?_
  show sm _ _ _ _ 4 [(0, .ref a0)] [.long v44.1] _ _
  refine sm_seg 4 8 [(1, .long v44.1), (0, .ref a0)] [.int (lg_cmp v44.1 (0 : Int64))] rfl ?_
  refine sm_if (pc1 := 15) (lv1 := [(0, .ref a0), (1, .long v44.1)]) (pc2 := 11) (lv2 := [(1, .long v44.1), (0, .ref a0)]) (st1 := []) rfl rfl rfl (fun h46 => ?_) (fun h46 => ?_)
  · exact jt_215_15  a0 v44.1 v44.2
  · refine sm_seg 5 23 [(3, .int (-1 : Int32)), (0, .ref a0)] [.int (-1 : Int32), .int (-1 : Int32)] rfl ?_
    refine sm_iff (c := ¬ (-1 : Int32) = (-1 : Int32)) (pc1 := 28) (pc2 := 26) (lv1 := [(3, .int (-1 : Int32)), (0, .ref a0)]) (st1 := []) rfl (by decide) rfl ?_
    refine sm_seg 1 27 [(3, .int (-1 : Int32)), (0, .ref a0)] [.int (0 : Int32)] rfl ?_
    exact sm_rBW (b := false) rfl rfl
theorem ca_215 (a0 : Nat) (w : cm_W) : cm_ca cm_g 215 [.ref a0] w ((fn_215 a0 w).map cm_gB) := cm_ca_of (cm_me_of rfl rfl) rfl (jt_215_0 a0 w)
-- NailedBoxesModel.pairTold()Z
def fn_216_69 (a0 : Nat) (i1 : Int32) (i2 : Int32) (i4 : Int32) (w : cm_W) : Option (Bool × cm_W) := (if cm_sh w a0 = some (.inl 11) then (cm_R w a0 30).bind fun r2 => (if cm_ga w .int r2 i1 = true then (if cm_w2 96 143 r2 = true then (cm_R (cm_sI w r2 i1.toNatClampNeg i2) a0 31).bind fun r6 => (if cm_ga w .int r6 i1 = true then (if cm_w2 96 143 r6 = true then (cm_R (cm_sI (cm_sI w r2 i1.toNatClampNeg i2) r6 i1.toNatClampNeg i4) a0 32).bind fun r10 => (if cm_ga w .int r10 i1 = true then (if cm_w2 96 143 r10 = true then (if cm_w2 96 143 a0 = true then some (true, (cm_sI (cm_sI (cm_sI (cm_sI w r2 i1.toNatClampNeg i2) r6 i1.toNatClampNeg i4) r10 i1.toNatClampNeg (cm_I (cm_sI (cm_sI w r2 i1.toNatClampNeg i2) r6 i1.toNatClampNeg i4) a0 37)) a0 15 ((cm_I (cm_sI (cm_sI (cm_sI w r2 i1.toNatClampNeg i2) r6 i1.toNatClampNeg i4) r10 i1.toNatClampNeg (cm_I (cm_sI (cm_sI w r2 i1.toNatClampNeg i2) r6 i1.toNatClampNeg i4) a0 37)) a0 15) + (1 : Int32)))) else none) else none) else none) else none) else none) else none) else none) else none)
theorem jt_216_69 (a0 : Nat) (i1 : Int32) (i2 : Int32) (i4 : Int32) (w : cm_W) : sm cm_g 216 ck_216 kq_216 69 [(0, .ref a0), (1, .int i1), (2, .int i2), (4, .int i4)] [] w ((fn_216_69 a0 i1 i2 i4 w).map cm_gB) := by
  unfold fn_216_69
  refine sm_seg 1 70 [(0, .ref a0), (1, .int i1), (2, .int i2), (4, .int i4)] [.ref a0] rfl ?_
  refine sm_gd fun h1 => ?_
  refine sm_gR rfl h1 rfl rfl fun r2 h3 => ?_
  show sm _ _ _ _ 73 [(0, .ref a0), (1, .int i1), (2, .int i2), (4, .int i4)] [.ref r2] _ _
  refine sm_seg 2 75 [(0, .ref a0), (1, .int i1), (2, .int i2), (4, .int i4)] [.int i2, .int i1, .ref r2] rfl ?_
  refine sm_gd fun h4 => ?_
  refine sm_gd fun h5 => ?_
  refine sm_si rfl h4 h5 rfl rfl ?_
  show sm _ _ _ _ 76 [(0, .ref a0), (1, .int i1), (2, .int i2), (4, .int i4)] [] _ _
  refine sm_seg 1 77 [(0, .ref a0), (1, .int i1), (2, .int i2), (4, .int i4)] [.ref a0] rfl ?_
  refine sm_gR rfl h1 rfl rfl fun r6 h7 => ?_
  show sm _ _ _ _ 80 [(0, .ref a0), (1, .int i1), (2, .int i2), (4, .int i4)] [.ref r6] _ _
  refine sm_seg 2 83 [(0, .ref a0), (1, .int i1), (2, .int i2), (4, .int i4)] [.int i4, .int i1, .ref r6] rfl ?_
  refine sm_gd fun h8 => ?_
  refine sm_gd fun h9 => ?_
  refine sm_si rfl h8 h9 rfl rfl ?_
  show sm _ _ _ _ 84 [(0, .ref a0), (1, .int i1), (2, .int i2), (4, .int i4)] [] _ _
  refine sm_seg 1 85 [(0, .ref a0), (1, .int i1), (2, .int i2), (4, .int i4)] [.ref a0] rfl ?_
  refine sm_gR rfl h1 rfl rfl fun r10 h11 => ?_
  show sm _ _ _ _ 88 [(0, .ref a0), (1, .int i1), (2, .int i2), (4, .int i4)] [.ref r10] _ _
  refine sm_seg 2 90 [(0, .ref a0), (1, .int i1), (2, .int i2), (4, .int i4)] [.ref a0, .int i1, .ref r10] rfl ?_
  refine sm_gI rfl h1 rfl ?_
  show sm _ _ _ _ 93 [(0, .ref a0), (1, .int i1), (2, .int i2), (4, .int i4)] [.int (cm_I (cm_sI (cm_sI w r2 i1.toNatClampNeg i2) r6 i1.toNatClampNeg i4) a0 37), .int i1, .ref r10] _ _
  refine sm_gd fun h12 => ?_
  refine sm_gd fun h13 => ?_
  refine sm_si rfl h12 h13 rfl rfl ?_
  show sm _ _ _ _ 94 [(0, .ref a0), (1, .int i1), (2, .int i2), (4, .int i4)] [] _ _
  refine sm_seg 2 96 [(0, .ref a0), (1, .int i1), (2, .int i2), (4, .int i4)] [.ref a0, .ref a0] rfl ?_
  refine sm_gI rfl h1 rfl ?_
  show sm _ _ _ _ 99 [(0, .ref a0), (1, .int i1), (2, .int i2), (4, .int i4)] [.int (cm_I (cm_sI (cm_sI (cm_sI w r2 i1.toNatClampNeg i2) r6 i1.toNatClampNeg i4) r10 i1.toNatClampNeg (cm_I (cm_sI (cm_sI w r2 i1.toNatClampNeg i2) r6 i1.toNatClampNeg i4) a0 37)) a0 15), .ref a0] _ _
  refine sm_seg 2 101 [(0, .ref a0), (1, .int i1), (2, .int i2), (4, .int i4)] [.int ((cm_I (cm_sI (cm_sI (cm_sI w r2 i1.toNatClampNeg i2) r6 i1.toNatClampNeg i4) r10 i1.toNatClampNeg (cm_I (cm_sI (cm_sI w r2 i1.toNatClampNeg i2) r6 i1.toNatClampNeg i4) a0 37)) a0 15) + (1 : Int32)), .ref a0] rfl ?_
  refine sm_gd fun h14 => ?_
  refine sm_pI rfl h1 rfl h14 rfl ?_
  show sm _ _ _ _ 104 [(0, .ref a0), (1, .int i1), (2, .int i2), (4, .int i4)] [] _ _
  refine sm_seg 1 105 [(0, .ref a0), (1, .int i1), (2, .int i2), (4, .int i4)] [.int (1 : Int32)] rfl ?_
  exact sm_rBW (b := true) rfl rfl
def fn_216_56 (a0 : Nat) (i1 : Int32) (i2 : Int32) (i4 : Int32) (w : cm_W) : Option (Bool × cm_W) := (if cm_sh w a0 = some (.inl 11) then (fn_206 a0 (1 : Int32) (999 : Int32) w).bind fun v16 => (if ¬ (cm_b v16.1) = 0 then fn_216_69  a0 i1 i2 i4 v16.2 else some (false, v16.2)) else none)
theorem jt_216_56 (a0 : Nat) (i1 : Int32) (i2 : Int32) (i4 : Int32) (w : cm_W) : sm cm_g 216 ck_216 kq_216 56 [(0, .ref a0), (1, .int i1), (2, .int i2), (4, .int i4)] [] w ((fn_216_56 a0 i1 i2 i4 w).map cm_gB) := by
  unfold fn_216_56
  refine sm_seg 3 61 [(0, .ref a0), (1, .int i1), (2, .int i2), (4, .int i4)] [.int (999 : Int32), .int (1 : Int32), .ref a0] rfl ?_
  refine sm_gd fun h15 => ?_
  refine sm_cV (as := [.int (1 : Int32), .int (999 : Int32)]) (rest := []) rfl rfl rfl rfl h15 (Nat.le_of_ble_eq_true rfl) (ca_206  a0 (1 : Int32) (999 : Int32) w) fun v16 h17 => ?_
  show sm _ _ _ _ 64 [(0, .ref a0), (1, .int i1), (2, .int i2), (4, .int i4)] [.int (cm_b v16.1)] _ _
  refine sm_if (pc1 := 69) (lv1 := [(0, .ref a0), (1, .int i1), (2, .int i2), (4, .int i4)]) (pc2 := 67) (lv2 := [(0, .ref a0), (1, .int i1), (2, .int i2), (4, .int i4)]) (st1 := []) rfl rfl rfl (fun h18 => ?_) (fun h18 => ?_)
  · exact jt_216_69  a0 i1 i2 i4 v16.2
  · refine sm_seg 1 68 [(0, .ref a0), (1, .int i1), (2, .int i2), (4, .int i4)] [.int (0 : Int32)] rfl ?_
    exact sm_rBW (b := false) rfl rfl
def fn_216_43 (a0 : Nat) (i1 : Int32) (i2 : Int32) (i3 : Int32) (i4 : Int32) (w : cm_W) : Option (Bool × cm_W) := (if ¬ i2 = i4 then fn_216_56  a0 i1 i2 i4 w else (if cm_sh w a0 = some (.inl 11) then (if cm_w2 96 143 a0 = true then some (false, (cm_sI w a0 11 i3)) else none) else none))
theorem jt_216_43 (a0 : Nat) (i1 : Int32) (i2 : Int32) (i3 : Int32) (i4 : Int32) (w : cm_W) : sm cm_g 216 ck_216 kq_216 43 [(0, .ref a0), (1, .int i1), (2, .int i2), (3, .int i3), (4, .int i4)] [] w ((fn_216_43 a0 i1 i2 i3 i4 w).map cm_gB) := by
  unfold fn_216_43
  refine sm_seg 2 46 [(0, .ref a0), (1, .int i1), (2, .int i2), (3, .int i3), (4, .int i4)] [.int i4, .int i2] rfl ?_
  refine sm_if (pc1 := 56) (lv1 := [(0, .ref a0), (1, .int i1), (2, .int i2), (4, .int i4)]) (pc2 := 49) (lv2 := [(0, .ref a0), (1, .int i1), (2, .int i2), (3, .int i3), (4, .int i4)]) (st1 := []) rfl rfl rfl (fun h19 => ?_) (fun h19 => ?_)
  · exact jt_216_56  a0 i1 i2 i4 w
  · refine sm_seg 2 51 [(0, .ref a0), (1, .int i1), (2, .int i2), (3, .int i3), (4, .int i4)] [.int i3, .ref a0] rfl ?_
    refine sm_gd fun h20 => ?_
    refine sm_gd fun h21 => ?_
    refine sm_pI rfl h20 rfl h21 rfl ?_
    show sm _ _ _ _ 54 [(0, .ref a0), (1, .int i1), (2, .int i2), (3, .int i3), (4, .int i4)] [] _ _
    refine sm_seg 1 55 [(0, .ref a0), (1, .int i1), (2, .int i2), (3, .int i3), (4, .int i4)] [.int (0 : Int32)] rfl ?_
    exact sm_rBW (b := false) rfl rfl
def fn_216_20 (a0 : Nat) (i1 : Int32) (i2 : Int32) (w : cm_W) : Option (Bool × cm_W) := (if cm_sh w a0 = some (.inl 11) then (fn_202 a0 w).bind fun w23 => (if cm_sh w23 a0 = some (.inl 11) then (fn_212 a0 w23).bind fun v26 => (if ¬ v26.1 = (-1 : Int32) then fn_216_43  a0 i1 i2 (cm_I w23 a0 11) v26.1 v26.2 else some (false, v26.2)) else none) else none)
theorem jt_216_20 (a0 : Nat) (i1 : Int32) (i2 : Int32) (w : cm_W) : sm cm_g 216 ck_216 kq_216 20 [(0, .ref a0), (1, .int i1), (2, .int i2)] [] w ((fn_216_20 a0 i1 i2 w).map cm_gB) := by
  unfold fn_216_20
  refine sm_seg 1 21 [(0, .ref a0), (1, .int i1), (2, .int i2)] [.ref a0] rfl ?_
  refine sm_gd fun h22 => ?_
  refine sm_cV (as := []) (rest := []) rfl rfl rfl rfl h22 (Nat.le_of_ble_eq_true rfl) (ca_202  a0 w) fun w23 h24 => ?_
  show sm _ _ _ _ 24 [(0, .ref a0), (1, .int i1), (2, .int i2)] [] _ _
  refine sm_seg 1 25 [(0, .ref a0), (1, .int i1), (2, .int i2)] [.ref a0] rfl ?_
  refine sm_gd fun h25 => ?_
  refine sm_gI rfl h25 rfl ?_
  show sm _ _ _ _ 28 [(0, .ref a0), (1, .int i1), (2, .int i2)] [.int (cm_I w23 a0 11)] _ _
  refine sm_seg 2 30 [(3, .int (cm_I w23 a0 11)), (0, .ref a0), (1, .int i1), (2, .int i2)] [.ref a0] rfl ?_
  refine sm_cV (as := []) (rest := []) rfl rfl rfl rfl h25 (Nat.le_of_ble_eq_true rfl) (ca_212  a0 w23) fun v26 h27 => ?_
  show sm _ _ _ _ 33 [(3, .int (cm_I w23 a0 11)), (0, .ref a0), (1, .int i1), (2, .int i2)] [.int v26.1] _ _
  refine sm_seg 3 38 [(4, .int v26.1), (3, .int (cm_I w23 a0 11)), (0, .ref a0), (1, .int i1), (2, .int i2)] [.int (-1 : Int32), .int v26.1] rfl ?_
  refine sm_if (pc1 := 43) (lv1 := [(0, .ref a0), (1, .int i1), (2, .int i2), (3, .int (cm_I w23 a0 11)), (4, .int v26.1)]) (pc2 := 41) (lv2 := [(4, .int v26.1), (3, .int (cm_I w23 a0 11)), (0, .ref a0), (1, .int i1), (2, .int i2)]) (st1 := []) rfl rfl rfl (fun h28 => ?_) (fun h28 => ?_)
  · exact jt_216_43  a0 i1 i2 (cm_I w23 a0 11) v26.1 v26.2
  · refine sm_seg 1 42 [(4, .int v26.1), (3, .int (cm_I w23 a0 11)), (0, .ref a0), (1, .int i1), (2, .int i2)] [.int (0 : Int32)] rfl ?_
    exact sm_rBW (b := false) rfl rfl
def fn_216 (a0 : Nat) (w : cm_W) : Option (Bool × cm_W) := (if cm_sh w a0 = some (.inl 11) then (fn_212 a0 w).bind fun v30 => (if ¬ v30.1 = (-1 : Int32) then fn_216_20  a0 ((6 : Int32) + (cm_I w a0 15)) v30.1 v30.2 else some (false, v30.2)) else none)
theorem jt_216_0 (a0 : Nat) (w : cm_W) : sm cm_g 216 ck_216 kq_216 0 [(0, .ref a0)] [] w ((fn_216 a0 w).map cm_gB) := by
  unfold fn_216
  refine sm_seg 2 3 [(0, .ref a0)] [.ref a0, .int (6 : Int32)] rfl ?_
  refine sm_gd fun h29 => ?_
  refine sm_gI rfl h29 rfl ?_
  show sm _ _ _ _ 6 [(0, .ref a0)] [.int (cm_I w a0 15), .int (6 : Int32)] _ _
  refine sm_seg 3 9 [(1, .int ((6 : Int32) + (cm_I w a0 15))), (0, .ref a0)] [.ref a0] rfl ?_
  refine sm_cV (as := []) (rest := []) rfl rfl rfl rfl h29 (Nat.le_of_ble_eq_true rfl) (ca_212  a0 w) fun v30 h31 => ?_
  show sm _ _ _ _ 12 [(1, .int ((6 : Int32) + (cm_I w a0 15))), (0, .ref a0)] [.int v30.1] _ _
  refine sm_seg 3 15 [(2, .int v30.1), (1, .int ((6 : Int32) + (cm_I w a0 15))), (0, .ref a0)] [.int (-1 : Int32), .int v30.1] rfl ?_
  refine sm_if (pc1 := 20) (lv1 := [(0, .ref a0), (1, .int ((6 : Int32) + (cm_I w a0 15))), (2, .int v30.1)]) (pc2 := 18) (lv2 := [(2, .int v30.1), (1, .int ((6 : Int32) + (cm_I w a0 15))), (0, .ref a0)]) (st1 := []) rfl rfl rfl (fun h32 => ?_) (fun h32 => ?_)
  · exact jt_216_20  a0 ((6 : Int32) + (cm_I w a0 15)) v30.1 v30.2
  · refine sm_seg 1 19 [(2, .int v30.1), (1, .int ((6 : Int32) + (cm_I w a0 15))), (0, .ref a0)] [.int (0 : Int32)] rfl ?_
    exact sm_rBW (b := false) rfl rfl
theorem ca_216 (a0 : Nat) (w : cm_W) : cm_ca cm_g 216 [.ref a0] w ((fn_216 a0 w).map cm_gB) := cm_ca_of (cm_me_of rfl rfl) rfl (jt_216_0 a0 w)
-- NailedBoxesModel.statement()Z
def fn_217_67 (a0 : Nat) (w : cm_W) : Option (Bool × cm_W) := (if cm_sh w a0 = some (.inl 11) then (if cm_w2 96 143 a0 = true then (fn_216 a0 (cm_sI w a0 11 (cm_I w a0 36))).bind fun v3 => some (v3.1, v3.2) else none) else none)
theorem jt_217_67 (a0 : Nat) (w : cm_W) : sm cm_g 217 ck_217 kq_217 67 [(0, .ref a0)] [] w ((fn_217_67 a0 w).map cm_gB) := by
  unfold fn_217_67
  refine sm_seg 2 69 [(0, .ref a0)] [.ref a0, .ref a0] rfl ?_
  refine sm_gd fun h1 => ?_
  refine sm_gI rfl h1 rfl ?_
  show sm _ _ _ _ 72 [(0, .ref a0)] [.int (cm_I w a0 36), .ref a0] _ _
  refine sm_gd fun h2 => ?_
  refine sm_pI rfl h1 rfl h2 rfl ?_
  show sm _ _ _ _ 75 [(0, .ref a0)] [] _ _
  refine sm_seg 1 76 [(0, .ref a0)] [.ref a0] rfl ?_
  refine sm_cV (as := []) (rest := []) rfl rfl rfl rfl h1 (Nat.le_of_ble_eq_true rfl) (ca_216  a0 (cm_sI w a0 11 (cm_I w a0 36))) fun v3 h4 => ?_
  show sm _ _ _ _ 79 [(0, .ref a0)] [.int (cm_b v3.1)] _ _
  exact sm_rBW (b := v3.1) rfl rfl
def fn_217_168 (a0 : Nat) (w : cm_W) : Option (Bool × cm_W) := (if cm_sh w a0 = some (.inl 11) then (if cm_w2 96 143 a0 = true then some (true, (cm_sI w a0 19 (cm_I w a0 37))) else none) else none)
theorem jt_217_168 (a0 : Nat) (w : cm_W) : sm cm_g 217 ck_217 kq_217 168 [(0, .ref a0)] [] w ((fn_217_168 a0 w).map cm_gB) := by
  unfold fn_217_168
  refine sm_seg 2 170 [(0, .ref a0)] [.ref a0, .ref a0] rfl ?_
  refine sm_gd fun h5 => ?_
  refine sm_gI rfl h5 rfl ?_
  show sm _ _ _ _ 173 [(0, .ref a0)] [.int (cm_I w a0 37), .ref a0] _ _
  refine sm_gd fun h6 => ?_
  refine sm_pI rfl h5 rfl h6 rfl ?_
  show sm _ _ _ _ 176 [] [] _ _
  refine sm_seg 1 177 [] [.int (1 : Int32)] rfl ?_
  exact sm_rBW (b := true) rfl rfl
def fn_217_153 (a0 : Nat) (i2 : Int32) (w : cm_W) : Option (Bool × cm_W) := (if i2 = 0 then fn_217_168  a0 w else (if cm_sh w a0 = some (.inl 11) then (if cm_w2 96 143 a0 = true then some (true, (cm_sI w a0 18 (cm_I w a0 37))) else none) else none))
theorem jt_217_153 (a0 : Nat) (i2 : Int32) (w : cm_W) : sm cm_g 217 ck_217 kq_217 153 [(0, .ref a0), (2, .int i2)] [] w ((fn_217_153 a0 i2 w).map cm_gB) := by
  unfold fn_217_153
  refine sm_seg 1 154 [(0, .ref a0), (2, .int i2)] [.int i2] rfl ?_
  refine sm_if (pc1 := 168) (lv1 := [(0, .ref a0)]) (pc2 := 157) (lv2 := [(0, .ref a0), (2, .int i2)]) (st1 := []) rfl rfl rfl (fun h7 => ?_) (fun h7 => ?_)
  · exact jt_217_168  a0 w
  · refine sm_seg 2 159 [(0, .ref a0), (2, .int i2)] [.ref a0, .ref a0] rfl ?_
    refine sm_gd fun h8 => ?_
    refine sm_gI rfl h8 rfl ?_
    show sm _ _ _ _ 162 [(0, .ref a0), (2, .int i2)] [.int (cm_I w a0 37), .ref a0] _ _
    refine sm_gd fun h9 => ?_
    refine sm_pI rfl h8 rfl h9 rfl ?_
    show sm _ _ _ _ 165 [(0, .ref a0), (2, .int i2)] [] _ _
    refine sm_seg 2 177 [] [.int (1 : Int32)] rfl ?_
    exact sm_rBW (b := true) rfl rfl
def fn_217_138 (a0 : Nat) (i1 : Int32) (i2 : Int32) (w : cm_W) : Option (Bool × cm_W) := (if i1 = 0 then fn_217_153  a0 i2 w else (if cm_sh w a0 = some (.inl 11) then (if cm_w2 96 143 a0 = true then some (true, (cm_sI w a0 17 (cm_I w a0 37))) else none) else none))
theorem jt_217_138 (a0 : Nat) (i1 : Int32) (i2 : Int32) (w : cm_W) : sm cm_g 217 ck_217 kq_217 138 [(0, .ref a0), (1, .int i1), (2, .int i2)] [] w ((fn_217_138 a0 i1 i2 w).map cm_gB) := by
  unfold fn_217_138
  refine sm_seg 1 139 [(0, .ref a0), (1, .int i1), (2, .int i2)] [.int i1] rfl ?_
  refine sm_if (pc1 := 153) (lv1 := [(0, .ref a0), (2, .int i2)]) (pc2 := 142) (lv2 := [(0, .ref a0), (1, .int i1), (2, .int i2)]) (st1 := []) rfl rfl rfl (fun h10 => ?_) (fun h10 => ?_)
  · exact jt_217_153  a0 i2 w
  · refine sm_seg 2 144 [(0, .ref a0), (1, .int i1), (2, .int i2)] [.ref a0, .ref a0] rfl ?_
    refine sm_gd fun h11 => ?_
    refine sm_gI rfl h11 rfl ?_
    show sm _ _ _ _ 147 [(0, .ref a0), (1, .int i1), (2, .int i2)] [.int (cm_I w a0 37), .ref a0] _ _
    refine sm_gd fun h12 => ?_
    refine sm_pI rfl h11 rfl h12 rfl ?_
    show sm _ _ _ _ 150 [(0, .ref a0), (1, .int i1), (2, .int i2)] [] _ _
    refine sm_seg 2 177 [] [.int (1 : Int32)] rfl ?_
    exact sm_rBW (b := true) rfl rfl
def fn_217_126 (a0 : Nat) (i1 : Int32) (i2 : Int32) (w : cm_W) : Option (Bool × cm_W) := (if cm_sh w a0 = some (.inl 11) then (fn_206 a0 (0 : Int32) (10 : Int32) w).bind fun v14 => (if ¬ (cm_b v14.1) = 0 then fn_217_138  a0 i1 i2 v14.2 else some (false, v14.2)) else none)
theorem jt_217_126 (a0 : Nat) (i1 : Int32) (i2 : Int32) (w : cm_W) : sm cm_g 217 ck_217 kq_217 126 [(0, .ref a0), (1, .int i1), (2, .int i2)] [] w ((fn_217_126 a0 i1 i2 w).map cm_gB) := by
  unfold fn_217_126
  refine sm_seg 3 130 [(0, .ref a0), (1, .int i1), (2, .int i2)] [.int (10 : Int32), .int (0 : Int32), .ref a0] rfl ?_
  refine sm_gd fun h13 => ?_
  refine sm_cV (as := [.int (0 : Int32), .int (10 : Int32)]) (rest := []) rfl rfl rfl rfl h13 (Nat.le_of_ble_eq_true rfl) (ca_206  a0 (0 : Int32) (10 : Int32) w) fun v14 h15 => ?_
  show sm _ _ _ _ 133 [(0, .ref a0), (1, .int i1), (2, .int i2)] [.int (cm_b v14.1)] _ _
  refine sm_if (pc1 := 138) (lv1 := [(0, .ref a0), (1, .int i1), (2, .int i2)]) (pc2 := 136) (lv2 := []) (st1 := []) rfl rfl rfl (fun h16 => ?_) (fun h16 => ?_)
  · exact jt_217_138  a0 i1 i2 v14.2
  · refine sm_seg 1 137 [] [.int (0 : Int32)] rfl ?_
    exact sm_rBW (b := false) rfl rfl
def fn_217_106 (a0 : Nat) (i1 : Int32) (w : cm_W) : Option (Bool × cm_W) := (if ¬ i1 = 0 then fn_217_126  a0 i1 (0 : Int32) w else (if cm_sh w a0 = some (.inl 11) then (fn_204 a0 (495672453989 : Int64) w).bind fun v19 => (if (cm_b v19.1) = 0 then some (false, v19.2) else fn_217_126  a0 i1 (0 : Int32) v19.2) else none))
theorem jt_217_106 (a0 : Nat) (i1 : Int32) (w : cm_W) : sm cm_g 217 ck_217 kq_217 106 [(0, .ref a0), (1, .int i1)] [] w ((fn_217_106 a0 i1 w).map cm_gB) := by
  unfold fn_217_106
  refine sm_seg 3 109 [(2, .int (0 : Int32)), (0, .ref a0), (1, .int i1)] [.int i1] rfl ?_
  refine sm_if (pc1 := 126) (lv1 := [(0, .ref a0), (1, .int i1), (2, .int (0 : Int32))]) (pc2 := 112) (lv2 := [(2, .int (0 : Int32)), (0, .ref a0), (1, .int i1)]) (st1 := []) rfl rfl rfl (fun h17 => ?_) (fun h17 => ?_)
  · exact jt_217_126  a0 i1 (0 : Int32) w
  · refine sm_seg 1 113 [(2, .int (0 : Int32)), (0, .ref a0), (1, .int i1)] [.int (0 : Int32)] rfl ?_
    refine sm_iff (c := ¬ (0 : Int32) = 0) (pc1 := 126) (pc2 := 116) (lv1 := [(2, .int (0 : Int32)), (0, .ref a0), (1, .int i1)]) (st1 := []) rfl (by decide) rfl ?_
    refine sm_seg 2 120 [(2, .int (0 : Int32)), (0, .ref a0), (1, .int i1)] [.long (495672453989 : Int64), .ref a0] rfl ?_
    refine sm_gd fun h18 => ?_
    refine sm_cV (as := [.long (495672453989 : Int64)]) (rest := []) rfl rfl rfl rfl h18 (Nat.le_of_ble_eq_true rfl) (ca_204  a0 (495672453989 : Int64) w) fun v19 h20 => ?_
    show sm _ _ _ _ 123 [(2, .int (0 : Int32)), (0, .ref a0), (1, .int i1)] [.int (cm_b v19.1)] _ _
    refine sm_if (pc1 := 136) (lv1 := []) (pc2 := 126) (lv2 := [(0, .ref a0), (1, .int i1), (2, .int (0 : Int32))]) (st1 := []) rfl rfl rfl (fun h21 => ?_) (fun h21 => ?_)
    · refine sm_seg 1 137 [] [.int (0 : Int32)] rfl ?_
      exact sm_rBW (b := false) rfl rfl
    · exact jt_217_126  a0 i1 (0 : Int32) v19.2
def fn_217_80 (a0 : Nat) (w : cm_W) : Option (Bool × cm_W) := (if cm_sh w a0 = some (.inl 11) then (fn_204 a0 (461262647411 : Int64) w).bind fun v23 => (if ¬ (cm_b v23.1) = 0 then fn_217_106  a0 (cm_b v23.1) v23.2 else (if cm_sh v23.2 a0 = some (.inl 11) then (fn_204 a0 (512802514792 : Int64) v23.2).bind fun v27 => (if (cm_b v27.1) = 0 then fn_217_106  a0 (cm_b v23.1) v27.2 else (if ¬ (cm_b v23.1) = 0 then fn_217_126  a0 (cm_b v23.1) (1 : Int32) v27.2 else fn_217_126  a0 (cm_b v23.1) (1 : Int32) v27.2)) else none)) else none)
theorem jt_217_80 (a0 : Nat) (w : cm_W) : sm cm_g 217 ck_217 kq_217 80 [(0, .ref a0)] [] w ((fn_217_80 a0 w).map cm_gB) := by
  unfold fn_217_80
  refine sm_seg 2 84 [(0, .ref a0)] [.long (461262647411 : Int64), .ref a0] rfl ?_
  refine sm_gd fun h22 => ?_
  refine sm_cV (as := [.long (461262647411 : Int64)]) (rest := []) rfl rfl rfl rfl h22 (Nat.le_of_ble_eq_true rfl) (ca_204  a0 (461262647411 : Int64) w) fun v23 h24 => ?_
  show sm _ _ _ _ 87 [(0, .ref a0)] [.int (cm_b v23.1)] _ _
  refine sm_seg 2 89 [(1, .int (cm_b v23.1)), (0, .ref a0)] [.int (cm_b v23.1)] rfl ?_
  refine sm_if (pc1 := 106) (lv1 := [(0, .ref a0), (1, .int (cm_b v23.1))]) (pc2 := 92) (lv2 := [(1, .int (cm_b v23.1)), (0, .ref a0)]) (st1 := []) rfl rfl rfl (fun h25 => ?_) (fun h25 => ?_)
  · exact jt_217_106  a0 (cm_b v23.1) v23.2
  · refine sm_seg 2 96 [(1, .int (cm_b v23.1)), (0, .ref a0)] [.long (512802514792 : Int64), .ref a0] rfl ?_
    refine sm_gd fun h26 => ?_
    refine sm_cV (as := [.long (512802514792 : Int64)]) (rest := []) rfl rfl rfl rfl h26 (Nat.le_of_ble_eq_true rfl) (ca_204  a0 (512802514792 : Int64) v23.2) fun v27 h28 => ?_
    show sm _ _ _ _ 99 [(1, .int (cm_b v23.1)), (0, .ref a0)] [.int (cm_b v27.1)] _ _
    refine sm_if (pc1 := 106) (lv1 := [(0, .ref a0), (1, .int (cm_b v23.1))]) (pc2 := 102) (lv2 := [(1, .int (cm_b v23.1)), (0, .ref a0)]) (st1 := []) rfl rfl rfl (fun h29 => ?_) (fun h29 => ?_)
    · exact jt_217_106  a0 (cm_b v23.1) v27.2
    · refine sm_seg 4 109 [(2, .int (1 : Int32)), (0, .ref a0), (1, .int (cm_b v23.1))] [.int (cm_b v23.1)] rfl ?_
      refine sm_if (pc1 := 126) (lv1 := [(0, .ref a0), (1, .int (cm_b v23.1)), (2, .int (1 : Int32))]) (pc2 := 112) (lv2 := [(2, .int (1 : Int32)), (0, .ref a0), (1, .int (cm_b v23.1))]) (st1 := []) rfl rfl rfl (fun h30 => ?_) (fun h30 => ?_)
      · exact jt_217_126  a0 (cm_b v23.1) (1 : Int32) v27.2
      · refine sm_seg 1 113 [(2, .int (1 : Int32)), (0, .ref a0), (1, .int (cm_b v23.1))] [.int (1 : Int32)] rfl ?_
        refine sm_ift (c := ¬ (1 : Int32) = 0) (pc1 := 126) (pc2 := 116) (lv1 := [(0, .ref a0), (1, .int (cm_b v23.1)), (2, .int (1 : Int32))]) (st1 := []) rfl (by decide) rfl ?_
        exact jt_217_126  a0 (cm_b v23.1) (1 : Int32) v27.2
def fn_217_45 (a0 : Nat) (w : cm_W) : Option (Bool × cm_W) := (if cm_sh w a0 = some (.inl 11) then (fn_203 a0 w).bind fun v32 => (if ¬ (lg_cmp v32.1 (1885432178 : Int64)) = 0 then fn_217_80  a0 v32.2 else (if cm_sh v32.2 a0 = some (.inl 11) then (if ¬ (cm_I v32.2 a0 15) = (6 : Int32) then fn_217_67  a0 v32.2 else some (false, v32.2)) else none)) else none)
theorem jt_217_45 (a0 : Nat) (w : cm_W) : sm cm_g 217 ck_217 kq_217 45 [(0, .ref a0)] [] w ((fn_217_45 a0 w).map cm_gB) := by
  unfold fn_217_45
  refine sm_seg 1 46 [(0, .ref a0)] [.ref a0] rfl ?_
  refine sm_gd fun h31 => ?_
  refine sm_cV (as := []) (rest := []) rfl rfl rfl rfl h31 (Nat.le_of_ble_eq_true rfl) (ca_203  a0 w) fun v32 h33 => ?_
  show sm _ _ _ _ 49 [(0, .ref a0)] [.long v32.1] _ _
  refine sm_seg 2 53 [(0, .ref a0)] [.int (lg_cmp v32.1 (1885432178 : Int64))] rfl ?_
  refine sm_if (pc1 := 80) (lv1 := [(0, .ref a0)]) (pc2 := 56) (lv2 := [(0, .ref a0)]) (st1 := []) rfl rfl rfl (fun h34 => ?_) (fun h34 => ?_)
  · exact jt_217_80  a0 v32.2
  · refine sm_seg 1 57 [(0, .ref a0)] [.ref a0] rfl ?_
    refine sm_gd fun h35 => ?_
    refine sm_gI rfl h35 rfl ?_
    show sm _ _ _ _ 60 [(0, .ref a0)] [.int (cm_I v32.2 a0 15)] _ _
    refine sm_seg 1 62 [(0, .ref a0)] [.int (6 : Int32), .int (cm_I v32.2 a0 15)] rfl ?_
    refine sm_if (pc1 := 67) (lv1 := [(0, .ref a0)]) (pc2 := 65) (lv2 := [(0, .ref a0)]) (st1 := []) rfl rfl rfl (fun h36 => ?_) (fun h36 => ?_)
    · exact jt_217_67  a0 v32.2
    · refine sm_seg 1 66 [(0, .ref a0)] [.int (0 : Int32)] rfl ?_
      exact sm_rBW (b := false) rfl rfl
def fn_217_30 (a0 : Nat) (w : cm_W) : Option (Bool × cm_W) := (if cm_sh w a0 = some (.inl 11) then (fn_204 a0 (439855377523 : Int64) w).bind fun v38 => (if (cm_b v38.1) = 0 then fn_217_45  a0 v38.2 else (if cm_sh v38.2 a0 = some (.inl 11) then (fn_215 a0 v38.2).bind fun v42 => some (v42.1, v42.2) else none)) else none)
theorem jt_217_30 (a0 : Nat) (w : cm_W) : sm cm_g 217 ck_217 kq_217 30 [(0, .ref a0)] [] w ((fn_217_30 a0 w).map cm_gB) := by
  unfold fn_217_30
  refine sm_seg 2 34 [(0, .ref a0)] [.long (439855377523 : Int64), .ref a0] rfl ?_
  refine sm_gd fun h37 => ?_
  refine sm_cV (as := [.long (439855377523 : Int64)]) (rest := []) rfl rfl rfl rfl h37 (Nat.le_of_ble_eq_true rfl) (ca_204  a0 (439855377523 : Int64) w) fun v38 h39 => ?_
  show sm _ _ _ _ 37 [(0, .ref a0)] [.int (cm_b v38.1)] _ _
  refine sm_if (pc1 := 45) (lv1 := [(0, .ref a0)]) (pc2 := 40) (lv2 := [(0, .ref a0)]) (st1 := []) rfl rfl rfl (fun h40 => ?_) (fun h40 => ?_)
  · exact jt_217_45  a0 v38.2
  · refine sm_seg 1 41 [(0, .ref a0)] [.ref a0] rfl ?_
    refine sm_gd fun h41 => ?_
    refine sm_cV (as := []) (rest := []) rfl rfl rfl rfl h41 (Nat.le_of_ble_eq_true rfl) (ca_215  a0 v38.2) fun v42 h43 => ?_
    show sm _ _ _ _ 44 [(0, .ref a0)] [.int (cm_b v42.1)] _ _
    exact sm_rBW (b := v42.1) rfl rfl
def fn_217_15 (a0 : Nat) (w : cm_W) : Option (Bool × cm_W) := (if cm_sh w a0 = some (.inl 11) then (fn_204 a0 (7825519 : Int64) w).bind fun v45 => (if (cm_b v45.1) = 0 then fn_217_30  a0 v45.2 else (if cm_sh v45.2 a0 = some (.inl 11) then (fn_214 a0 v45.2).bind fun v49 => some (v49.1, v49.2) else none)) else none)
theorem jt_217_15 (a0 : Nat) (w : cm_W) : sm cm_g 217 ck_217 kq_217 15 [(0, .ref a0)] [] w ((fn_217_15 a0 w).map cm_gB) := by
  unfold fn_217_15
  refine sm_seg 2 19 [(0, .ref a0)] [.long (7825519 : Int64), .ref a0] rfl ?_
  refine sm_gd fun h44 => ?_
  refine sm_cV (as := [.long (7825519 : Int64)]) (rest := []) rfl rfl rfl rfl h44 (Nat.le_of_ble_eq_true rfl) (ca_204  a0 (7825519 : Int64) w) fun v45 h46 => ?_
  show sm _ _ _ _ 22 [(0, .ref a0)] [.int (cm_b v45.1)] _ _
  refine sm_if (pc1 := 30) (lv1 := [(0, .ref a0)]) (pc2 := 25) (lv2 := [(0, .ref a0)]) (st1 := []) rfl rfl rfl (fun h47 => ?_) (fun h47 => ?_)
  · exact jt_217_30  a0 v45.2
  · refine sm_seg 1 26 [(0, .ref a0)] [.ref a0] rfl ?_
    refine sm_gd fun h48 => ?_
    refine sm_cV (as := []) (rest := []) rfl rfl rfl rfl h48 (Nat.le_of_ble_eq_true rfl) (ca_214  a0 v45.2) fun v49 h50 => ?_
    show sm _ _ _ _ 29 [(0, .ref a0)] [.int (cm_b v49.1)] _ _
    exact sm_rBW (b := v49.1) rfl rfl
def fn_217 (a0 : Nat) (w : cm_W) : Option (Bool × cm_W) := (if cm_sh w a0 = some (.inl 11) then (fn_204 a0 (499967946343 : Int64) w).bind fun v52 => (if (cm_b v52.1) = 0 then fn_217_15  a0 v52.2 else (if cm_sh v52.2 a0 = some (.inl 11) then (fn_213 a0 v52.2).bind fun v56 => some (v56.1, v56.2) else none)) else none)
theorem jt_217_0 (a0 : Nat) (w : cm_W) : sm cm_g 217 ck_217 kq_217 0 [(0, .ref a0)] [] w ((fn_217 a0 w).map cm_gB) := by
  unfold fn_217
  refine sm_seg 2 4 [(0, .ref a0)] [.long (499967946343 : Int64), .ref a0] rfl ?_
  refine sm_gd fun h51 => ?_
  refine sm_cV (as := [.long (499967946343 : Int64)]) (rest := []) rfl rfl rfl rfl h51 (Nat.le_of_ble_eq_true rfl) (ca_204  a0 (499967946343 : Int64) w) fun v52 h53 => ?_
  show sm _ _ _ _ 7 [(0, .ref a0)] [.int (cm_b v52.1)] _ _
  refine sm_if (pc1 := 15) (lv1 := [(0, .ref a0)]) (pc2 := 10) (lv2 := [(0, .ref a0)]) (st1 := []) rfl rfl rfl (fun h54 => ?_) (fun h54 => ?_)
  · exact jt_217_15  a0 v52.2
  · refine sm_seg 1 11 [(0, .ref a0)] [.ref a0] rfl ?_
    refine sm_gd fun h55 => ?_
    refine sm_cV (as := []) (rest := []) rfl rfl rfl rfl h55 (Nat.le_of_ble_eq_true rfl) (ca_213  a0 v52.2) fun v56 h57 => ?_
    show sm _ _ _ _ 14 [(0, .ref a0)] [.int (cm_b v56.1)] _ _
    exact sm_rBW (b := v56.1) rfl rfl
theorem ca_217 (a0 : Nat) (w : cm_W) : cm_ca cm_g 217 [.ref a0] w ((fn_217 a0 w).map cm_gB) := cm_ca_of (cm_me_of rfl rfl) rfl (jt_217_0 a0 w)
-- NailedBoxesModel.villageTold()Z
def fn_218_80 (k_42 : Nat → cm_W → Option (Bool × cm_W)) (a0 : Nat) (w : cm_W) : Option (Bool × cm_W) := (if cm_sh w a0 = some (.inl 11) then (if cm_w2 96 143 a0 = true then (fn_202 a0 (cm_sI w a0 16 ((cm_I w a0 16) + (1 : Int32)))).bind fun w3 => k_42 a0 w3 else none) else none)
theorem jt_218_80 (k_42 : Nat → cm_W → Option (Bool × cm_W)) (hk_42 : ∀ (a0 : Nat) (w : cm_W), sm cm_g 218 ck_218 kq_218 42 [(0, .ref a0)] [] w ((k_42 a0 w).map cm_gB)) (a0 : Nat) (w : cm_W) : sm cm_g 218 ck_218 kq_218 80 [(0, .ref a0)] [] w ((fn_218_80 k_42 a0 w).map cm_gB) := by
  unfold fn_218_80
  refine sm_seg 2 82 [(0, .ref a0)] [.ref a0, .ref a0] rfl ?_
  refine sm_gd fun h1 => ?_
  refine sm_gI rfl h1 rfl ?_
  show sm _ _ _ _ 85 [(0, .ref a0)] [.int (cm_I w a0 16), .ref a0] _ _
  refine sm_seg 2 87 [(0, .ref a0)] [.int ((cm_I w a0 16) + (1 : Int32)), .ref a0] rfl ?_
  refine sm_gd fun h2 => ?_
  refine sm_pI rfl h1 rfl h2 rfl ?_
  show sm _ _ _ _ 90 [(0, .ref a0)] [] _ _
  refine sm_seg 1 91 [(0, .ref a0)] [.ref a0] rfl ?_
  refine sm_cV (as := []) (rest := []) rfl rfl rfl rfl h1 (Nat.le_of_ble_eq_true rfl) (ca_202  a0 (cm_sI w a0 16 ((cm_I w a0 16) + (1 : Int32)))) fun w3 h4 => ?_
  show sm _ _ _ _ 94 [(0, .ref a0)] [] _ _
  refine sm_seg 1 42 [(0, .ref a0)] [] rfl ?_
  exact hk_42 a0 w3
def fn_218_42 : Nat → Nat → cm_W → Option (Bool × cm_W)
  | 0, _, _ => none
  | n + 1, a0, w => (if cm_sh w a0 = some (.inl 11) then (if (cm_I w a0 10) ≤ (cm_I w a0 11) then some (true, w) else (if (cm_I w a0 16) = (50 : Int32) then some (false, w) else (fn_217 a0 w).bind fun v8 => (if (cm_b v8.1) = 0 then some (false, v8.2) else (if cm_sh v8.2 a0 = some (.inl 11) then (fn_205 a0 (59 : Int32) v8.2).bind fun v12 => (if ¬ (cm_b v12.1) = 0 then fn_218_80  (fn_218_42 n) a0 v12.2 else some (false, v12.2)) else none)))) else none)
theorem jt_218_42 : ∀ (n : Nat) (a0 : Nat) (w : cm_W), sm cm_g 218 ck_218 kq_218 42 [(0, .ref a0)] [] w ((fn_218_42 n a0 w).map cm_gB) := by
  intro n
  induction n with
  | zero => intro a0 w; exact sm_no
  | succ n ih =>
    intro a0 w
    rw [fn_218_42]
    refine sm_seg 1 43 [(0, .ref a0)] [.ref a0] rfl ?_
    refine sm_gd fun h5 => ?_
    refine sm_gI rfl h5 rfl ?_
    show sm _ _ _ _ 46 [(0, .ref a0)] [.int (cm_I w a0 11)] _ _
    refine sm_seg 1 47 [(0, .ref a0)] [.ref a0, .int (cm_I w a0 11)] rfl ?_
    refine sm_gI rfl h5 rfl ?_
    show sm _ _ _ _ 50 [(0, .ref a0)] [.int (cm_I w a0 10), .int (cm_I w a0 11)] _ _
    refine sm_if (pc1 := 97) (lv1 := []) (pc2 := 53) (lv2 := [(0, .ref a0)]) (st1 := []) rfl rfl rfl (fun h6 => ?_) (fun h6 => ?_)
    · refine sm_seg 1 98 [] [.int (1 : Int32)] rfl ?_
      exact sm_rBW (b := true) rfl rfl
    · refine sm_seg 1 54 [(0, .ref a0)] [.ref a0] rfl ?_
      refine sm_gI rfl h5 rfl ?_
      show sm _ _ _ _ 57 [(0, .ref a0)] [.int (cm_I w a0 16)] _ _
      refine sm_seg 1 59 [(0, .ref a0)] [.int (50 : Int32), .int (cm_I w a0 16)] rfl ?_
      refine sm_if (pc1 := 78) (lv1 := []) (pc2 := 62) (lv2 := [(0, .ref a0)]) (st1 := []) rfl rfl rfl (fun h7 => ?_) (fun h7 => ?_)
      · refine sm_seg 1 79 [] [.int (0 : Int32)] rfl ?_
        exact sm_rBW (b := false) rfl rfl
      · refine sm_seg 1 63 [(0, .ref a0)] [.ref a0] rfl ?_
        refine sm_cV (as := []) (rest := []) rfl rfl rfl rfl h5 (Nat.le_of_ble_eq_true rfl) (ca_217  a0 w) fun v8 h9 => ?_
        show sm _ _ _ _ 66 [(0, .ref a0)] [.int (cm_b v8.1)] _ _
        refine sm_if (pc1 := 78) (lv1 := []) (pc2 := 69) (lv2 := [(0, .ref a0)]) (st1 := []) rfl rfl rfl (fun h10 => ?_) (fun h10 => ?_)
        · refine sm_seg 1 79 [] [.int (0 : Int32)] rfl ?_
          exact sm_rBW (b := false) rfl rfl
        · refine sm_seg 2 72 [(0, .ref a0)] [.int (59 : Int32), .ref a0] rfl ?_
          refine sm_gd fun h11 => ?_
          refine sm_cV (as := [.int (59 : Int32)]) (rest := []) rfl rfl rfl rfl h11 (Nat.le_of_ble_eq_true rfl) (ca_205  a0 (59 : Int32) v8.2) fun v12 h13 => ?_
          show sm _ _ _ _ 75 [(0, .ref a0)] [.int (cm_b v12.1)] _ _
          refine sm_if (pc1 := 80) (lv1 := [(0, .ref a0)]) (pc2 := 78) (lv2 := []) (st1 := []) rfl rfl rfl (fun h14 => ?_) (fun h14 => ?_)
          · exact jt_218_80  (fn_218_42 n) ih a0 v12.2
          · refine sm_seg 1 79 [] [.int (0 : Int32)] rfl ?_
            exact sm_rBW (b := false) rfl rfl
def fn_218 (a0 : Nat) (w : cm_W) : Option (Bool × cm_W) := (if cm_sh w a0 = some (.inl 11) then (if cm_w2 96 143 a0 = true then (fn_202 a0 (cm_sI (cm_sI (cm_sI (cm_sI (cm_sI (cm_sI (cm_sI w a0 13 (0 : Int32)) a0 14 (0 : Int32)) a0 15 (0 : Int32)) a0 16 (0 : Int32)) a0 17 (8 : Int32)) a0 18 (8 : Int32)) a0 19 (6 : Int32))).bind fun w17 => fn_218_42  cm_N a0 w17 else none) else none)
theorem jt_218_0 (a0 : Nat) (w : cm_W) : sm cm_g 218 ck_218 kq_218 0 [(0, .ref a0)] [] w ((fn_218 a0 w).map cm_gB) := by
  unfold fn_218
  refine sm_seg 2 2 [(0, .ref a0)] [.int (0 : Int32), .ref a0] rfl ?_
  refine sm_gd fun h15 => ?_
  refine sm_gd fun h16 => ?_
  refine sm_pI rfl h15 rfl h16 rfl ?_
  show sm _ _ _ _ 5 [(0, .ref a0)] [] _ _
  refine sm_seg 2 7 [(0, .ref a0)] [.int (0 : Int32), .ref a0] rfl ?_
  refine sm_pI rfl h15 rfl h16 rfl ?_
  show sm _ _ _ _ 10 [(0, .ref a0)] [] _ _
  refine sm_seg 2 12 [(0, .ref a0)] [.int (0 : Int32), .ref a0] rfl ?_
  refine sm_pI rfl h15 rfl h16 rfl ?_
  show sm _ _ _ _ 15 [(0, .ref a0)] [] _ _
  refine sm_seg 2 17 [(0, .ref a0)] [.int (0 : Int32), .ref a0] rfl ?_
  refine sm_pI rfl h15 rfl h16 rfl ?_
  show sm _ _ _ _ 20 [(0, .ref a0)] [] _ _
  refine sm_seg 2 23 [(0, .ref a0)] [.int (8 : Int32), .ref a0] rfl ?_
  refine sm_pI rfl h15 rfl h16 rfl ?_
  show sm _ _ _ _ 26 [(0, .ref a0)] [] _ _
  refine sm_seg 2 29 [(0, .ref a0)] [.int (8 : Int32), .ref a0] rfl ?_
  refine sm_pI rfl h15 rfl h16 rfl ?_
  show sm _ _ _ _ 32 [(0, .ref a0)] [] _ _
  refine sm_seg 2 35 [(0, .ref a0)] [.int (6 : Int32), .ref a0] rfl ?_
  refine sm_pI rfl h15 rfl h16 rfl ?_
  show sm _ _ _ _ 38 [(0, .ref a0)] [] _ _
  refine sm_seg 1 39 [(0, .ref a0)] [.ref a0] rfl ?_
  refine sm_cV (as := []) (rest := []) rfl rfl rfl rfl h15 (Nat.le_of_ble_eq_true rfl) (ca_202  a0 (cm_sI (cm_sI (cm_sI (cm_sI (cm_sI (cm_sI (cm_sI w a0 13 (0 : Int32)) a0 14 (0 : Int32)) a0 15 (0 : Int32)) a0 16 (0 : Int32)) a0 17 (8 : Int32)) a0 18 (8 : Int32)) a0 19 (6 : Int32))) fun w17 h18 => ?_
  show sm _ _ _ _ 42 [(0, .ref a0)] [] _ _
  exact jt_218_42  cm_N a0 w17
theorem ca_218 (a0 : Nat) (w : cm_W) : cm_ca cm_g 218 [.ref a0] w ((fn_218 a0 w).map cm_gB) := cm_ca_of (cm_me_of rfl rfl) rfl (jt_218_0 a0 w)
-- NailedBoxesModel.takesOver()V
def fn_219_255 (k_134 : Nat → Int32 → cm_W → Option cm_W) (a0 : Nat) (i1 : Int32) (w : cm_W) : Option cm_W := k_134 a0 (i1 + (1 : Int32)) w
theorem jt_219_255 (k_134 : Nat → Int32 → cm_W → Option cm_W) (hk_134 : ∀ (a0 : Nat) (i1 : Int32) (w : cm_W), sm cm_g 219 ck_219 kq_219 134 [(0, .ref a0), (1, .int i1)] [] w ((k_134 a0 i1 w).map cm_gV)) (a0 : Nat) (i1 : Int32) (w : cm_W) : sm cm_g 219 ck_219 kq_219 255 [(0, .ref a0), (1, .int i1)] [] w ((fn_219_255 k_134 a0 i1 w).map cm_gV) := by
  unfold fn_219_255
  refine sm_seg 2 134 [(0, .ref a0), (1, .int (i1 + (1 : Int32)))] [] rfl ?_
  exact hk_134 a0 (i1 + (1 : Int32)) w
def fn_219_186 (k_134 : Nat → Int32 → cm_W → Option cm_W) : Nat → Nat → Int32 → Int32 → cm_W → Option cm_W
  | 0, _, _, _, _ => none
  | n + 1, a0, i1, i2, w => (if (8 : Int32) ≤ i2 then fn_219_255  k_134 a0 i1 w else (if cm_sh w a0 = some (.inl 11) then (cm_R w a0 29).bind fun r3 => (cm_R w a0 28).bind fun r5 => (if cm_ga w .int r5 ((12 : Int32) + i1) = true then (if ¬ (cm_I w r5 ((12 : Int32) + i1).toNatClampNeg) = (1 : Int32) then (if (cm_I w a0 1) ≤ i2 then (fn_195 w (0 : Int32)).bind fun v10 => (if cm_ga w .int r3 (((8 : Int32) * i1) + i2) = true then (if cm_w2 96 143 r3 = true then fn_219_186 k_134 n a0 i1 (i2 + (1 : Int32)) (cm_sI w r3 (((8 : Int32) * i1) + i2).toNatClampNeg v10) else none) else none) else (fn_195 w (1 : Int32)).bind fun v14 => (if cm_ga w .int r3 (((8 : Int32) * i1) + i2) = true then (if cm_w2 96 143 r3 = true then fn_219_186 k_134 n a0 i1 (i2 + (1 : Int32)) (cm_sI w r3 (((8 : Int32) * i1) + i2).toNatClampNeg v14) else none) else none)) else (cm_R w a0 29).bind fun r18 => (if cm_ga w .int r18 (((8 : Int32) * ((12 : Int32) + i1)) + i2) = true then (if cm_ga w .int r3 (((8 : Int32) * i1) + i2) = true then (if cm_w2 96 143 r3 = true then fn_219_186 k_134 n a0 i1 (i2 + (1 : Int32)) (cm_sI w r3 (((8 : Int32) * i1) + i2).toNatClampNeg (cm_I w r18 (((8 : Int32) * ((12 : Int32) + i1)) + i2).toNatClampNeg)) else none) else none) else none)) else none) else none))
theorem jt_219_186 (k_134 : Nat → Int32 → cm_W → Option cm_W) (hk_134 : ∀ (a0 : Nat) (i1 : Int32) (w : cm_W), sm cm_g 219 ck_219 kq_219 134 [(0, .ref a0), (1, .int i1)] [] w ((k_134 a0 i1 w).map cm_gV)) : ∀ (n : Nat) (a0 : Nat) (i1 : Int32) (i2 : Int32) (w : cm_W), sm cm_g 219 ck_219 kq_219 186 [(0, .ref a0), (1, .int i1), (2, .int i2)] [] w ((fn_219_186 k_134 n a0 i1 i2 w).map cm_gV) := by
  intro n
  induction n with
  | zero => intro a0 i1 i2 w; exact sm_no
  | succ n ih =>
    intro a0 i1 i2 w
    rw [fn_219_186]
    refine sm_seg 2 189 [(0, .ref a0), (1, .int i1), (2, .int i2)] [.int (8 : Int32), .int i2] rfl ?_
    refine sm_if (pc1 := 255) (lv1 := [(0, .ref a0), (1, .int i1)]) (pc2 := 192) (lv2 := [(0, .ref a0), (1, .int i1), (2, .int i2)]) (st1 := []) rfl rfl rfl (fun h1 => ?_) (fun h1 => ?_)
    · exact jt_219_255  k_134 hk_134 a0 i1 w
    · refine sm_seg 1 193 [(0, .ref a0), (1, .int i1), (2, .int i2)] [.ref a0] rfl ?_
      refine sm_gd fun h2 => ?_
      refine sm_gR rfl h2 rfl rfl fun r3 h4 => ?_
      show sm _ _ _ _ 196 [(0, .ref a0), (1, .int i1), (2, .int i2)] [.ref r3] _ _
      refine sm_seg 6 203 [(0, .ref a0), (1, .int i1), (2, .int i2)] [.ref a0, .int (((8 : Int32) * i1) + i2), .ref r3] rfl ?_
      refine sm_gR rfl h2 rfl rfl fun r5 h6 => ?_
      show sm _ _ _ _ 206 [(0, .ref a0), (1, .int i1), (2, .int i2)] [.ref r5, .int (((8 : Int32) * i1) + i2), .ref r3] _ _
      refine sm_seg 3 210 [(0, .ref a0), (1, .int i1), (2, .int i2)] [.int ((12 : Int32) + i1), .ref r5, .int (((8 : Int32) * i1) + i2), .ref r3] rfl ?_
      refine sm_gd fun h7 => ?_
      refine sm_ai rfl h7 rfl ?_
      show sm _ _ _ _ 211 [(0, .ref a0), (1, .int i1), (2, .int i2)] [.int (cm_I w r5 ((12 : Int32) + i1).toNatClampNeg), .int (((8 : Int32) * i1) + i2), .ref r3] _ _
      refine sm_seg 1 212 [(0, .ref a0), (1, .int i1), (2, .int i2)] [.int (1 : Int32), .int (cm_I w r5 ((12 : Int32) + i1).toNatClampNeg), .int (((8 : Int32) * i1) + i2), .ref r3] rfl ?_
      refine sm_if (pc1 := 232) (lv1 := [(0, .ref a0), (1, .int i1), (2, .int i2)]) (pc2 := 215) (lv2 := [(0, .ref a0), (1, .int i1), (2, .int i2)]) (st1 := [.int (((8 : Int32) * i1) + i2), .ref r3]) rfl rfl rfl (fun h8 => ?_) (fun h8 => ?_)
      · refine sm_seg 2 234 [(0, .ref a0), (1, .int i1), (2, .int i2)] [.ref a0, .int i2, .int (((8 : Int32) * i1) + i2), .ref r3] rfl ?_
        refine sm_gI rfl h2 rfl ?_
        show sm _ _ _ _ 237 [(0, .ref a0), (1, .int i1), (2, .int i2)] [.int (cm_I w a0 1), .int i2, .int (((8 : Int32) * i1) + i2), .ref r3] _ _
        refine sm_if (pc1 := 244) (lv1 := [(0, .ref a0), (1, .int i1), (2, .int i2)]) (pc2 := 240) (lv2 := [(0, .ref a0), (1, .int i1), (2, .int i2)]) (st1 := [.int (((8 : Int32) * i1) + i2), .ref r3]) rfl rfl rfl (fun h9 => ?_) (fun h9 => ?_)
        · refine sm_seg 1 245 [(0, .ref a0), (1, .int i1), (2, .int i2)] [.int (0 : Int32), .int (((8 : Int32) * i1) + i2), .ref r3] rfl ?_
          refine sm_cS (av := [.int (0 : Int32)]) (rest := [.int (((8 : Int32) * i1) + i2), .ref r3]) rfl rfl rfl rfl (Nat.le_of_ble_eq_true rfl) (ca_195 w (0 : Int32)) fun v10 h11 => ?_
          show sm _ _ _ _ 248 [(0, .ref a0), (1, .int i1), (2, .int i2)] [.int v10, .int (((8 : Int32) * i1) + i2), .ref r3] _ _
          refine sm_gd fun h12 => ?_
          refine sm_gd fun h13 => ?_
          refine sm_si rfl h12 h13 rfl rfl ?_
          show sm _ _ _ _ 249 [(0, .ref a0), (1, .int i1), (2, .int i2)] [] _ _
          refine sm_seg 2 186 [(0, .ref a0), (1, .int i1), (2, .int (i2 + (1 : Int32)))] [] rfl ?_
          exact ih a0 i1 (i2 + (1 : Int32)) (cm_sI w r3 (((8 : Int32) * i1) + i2).toNatClampNeg v10)
        · refine sm_seg 2 245 [(0, .ref a0), (1, .int i1), (2, .int i2)] [.int (1 : Int32), .int (((8 : Int32) * i1) + i2), .ref r3] rfl ?_
          refine sm_cS (av := [.int (1 : Int32)]) (rest := [.int (((8 : Int32) * i1) + i2), .ref r3]) rfl rfl rfl rfl (Nat.le_of_ble_eq_true rfl) (ca_195 w (1 : Int32)) fun v14 h15 => ?_
          show sm _ _ _ _ 248 [(0, .ref a0), (1, .int i1), (2, .int i2)] [.int v14, .int (((8 : Int32) * i1) + i2), .ref r3] _ _
          refine sm_gd fun h16 => ?_
          refine sm_gd fun h17 => ?_
          refine sm_si rfl h16 h17 rfl rfl ?_
          show sm _ _ _ _ 249 [(0, .ref a0), (1, .int i1), (2, .int i2)] [] _ _
          refine sm_seg 2 186 [(0, .ref a0), (1, .int i1), (2, .int (i2 + (1 : Int32)))] [] rfl ?_
          exact ih a0 i1 (i2 + (1 : Int32)) (cm_sI w r3 (((8 : Int32) * i1) + i2).toNatClampNeg v14)
      · refine sm_seg 1 216 [(0, .ref a0), (1, .int i1), (2, .int i2)] [.ref a0, .int (((8 : Int32) * i1) + i2), .ref r3] rfl ?_
        refine sm_gR rfl h2 rfl rfl fun r18 h19 => ?_
        show sm _ _ _ _ 219 [(0, .ref a0), (1, .int i1), (2, .int i2)] [.ref r18, .int (((8 : Int32) * i1) + i2), .ref r3] _ _
        refine sm_seg 7 228 [(0, .ref a0), (1, .int i1), (2, .int i2)] [.int (((8 : Int32) * ((12 : Int32) + i1)) + i2), .ref r18, .int (((8 : Int32) * i1) + i2), .ref r3] rfl ?_
        refine sm_gd fun h20 => ?_
        refine sm_ai rfl h20 rfl ?_
        show sm _ _ _ _ 229 [(0, .ref a0), (1, .int i1), (2, .int i2)] [.int (cm_I w r18 (((8 : Int32) * ((12 : Int32) + i1)) + i2).toNatClampNeg), .int (((8 : Int32) * i1) + i2), .ref r3] _ _
        refine sm_seg 1 248 [(0, .ref a0), (1, .int i1), (2, .int i2)] [.int (cm_I w r18 (((8 : Int32) * ((12 : Int32) + i1)) + i2).toNatClampNeg), .int (((8 : Int32) * i1) + i2), .ref r3] rfl ?_
        refine sm_gd fun h21 => ?_
        refine sm_gd fun h22 => ?_
        refine sm_si rfl h21 h22 rfl rfl ?_
        show sm _ _ _ _ 249 [(0, .ref a0), (1, .int i1), (2, .int i2)] [] _ _
        refine sm_seg 2 186 [(0, .ref a0), (1, .int i1), (2, .int (i2 + (1 : Int32)))] [] rfl ?_
        exact ih a0 i1 (i2 + (1 : Int32)) (cm_sI w r3 (((8 : Int32) * i1) + i2).toNatClampNeg (cm_I w r18 (((8 : Int32) * ((12 : Int32) + i1)) + i2).toNatClampNeg))
def fn_219_322 (a0 : Nat) (w : cm_W) : Option cm_W := (if cm_sh w a0 = some (.inl 11) then (if cm_w2 96 143 a0 = true then some (cm_sI (cm_sI (cm_sI (cm_sI (cm_sI (cm_sI w a0 8 (0 : Int32)) a0 38 (0 : Int32)) a0 39 (0 : Int32)) a0 51 (0 : Int32)) a0 58 (0 : Int32)) a0 73 (0 : Int32)) else none) else none)
theorem jt_219_322 (a0 : Nat) (w : cm_W) : sm cm_g 219 ck_219 kq_219 322 [(0, .ref a0)] [] w ((fn_219_322 a0 w).map cm_gV) := by
  unfold fn_219_322
  refine sm_seg 2 324 [(0, .ref a0)] [.int (0 : Int32), .ref a0] rfl ?_
  refine sm_gd fun h23 => ?_
  refine sm_gd fun h24 => ?_
  refine sm_pI rfl h23 rfl h24 rfl ?_
  show sm _ _ _ _ 327 [(0, .ref a0)] [] _ _
  refine sm_seg 2 329 [(0, .ref a0)] [.int (0 : Int32), .ref a0] rfl ?_
  refine sm_pI rfl h23 rfl h24 rfl ?_
  show sm _ _ _ _ 332 [(0, .ref a0)] [] _ _
  refine sm_seg 2 334 [(0, .ref a0)] [.int (0 : Int32), .ref a0] rfl ?_
  refine sm_pI rfl h23 rfl h24 rfl ?_
  show sm _ _ _ _ 337 [(0, .ref a0)] [] _ _
  refine sm_seg 2 339 [(0, .ref a0)] [.int (0 : Int32), .ref a0] rfl ?_
  refine sm_pI rfl h23 rfl h24 rfl ?_
  show sm _ _ _ _ 342 [(0, .ref a0)] [] _ _
  refine sm_seg 2 344 [(0, .ref a0)] [.int (0 : Int32), .ref a0] rfl ?_
  refine sm_pI rfl h23 rfl h24 rfl ?_
  show sm _ _ _ _ 347 [(0, .ref a0)] [] _ _
  refine sm_seg 2 349 [(0, .ref a0)] [.int (0 : Int32), .ref a0] rfl ?_
  refine sm_pI rfl h23 rfl h24 rfl ?_
  show sm _ _ _ _ 352 [(0, .ref a0)] [] _ _
  exact sm_rV rfl rfl
def fn_219_263 : Nat → Nat → Int32 → cm_W → Option cm_W
  | 0, _, _, _ => none
  | n + 1, a0, i1, w => (if cm_sh w a0 = some (.inl 11) then (if (cm_I w a0 3) ≤ i1 then fn_219_322  a0 w else (cm_R w a0 30).bind fun r27 => (cm_R w a0 30).bind fun r29 => (if cm_ga w .int r29 ((6 : Int32) + i1) = true then (if cm_ga w .int r27 i1 = true then (if cm_w2 96 143 r27 = true then (cm_R (cm_sI w r27 i1.toNatClampNeg (cm_I w r29 ((6 : Int32) + i1).toNatClampNeg)) a0 31).bind fun r34 => (cm_R (cm_sI w r27 i1.toNatClampNeg (cm_I w r29 ((6 : Int32) + i1).toNatClampNeg)) a0 31).bind fun r36 => (if cm_ga w .int r36 ((6 : Int32) + i1) = true then (if cm_ga w .int r34 i1 = true then (if cm_w2 96 143 r34 = true then (cm_R (cm_sI (cm_sI w r27 i1.toNatClampNeg (cm_I w r29 ((6 : Int32) + i1).toNatClampNeg)) r34 i1.toNatClampNeg (cm_I (cm_sI w r27 i1.toNatClampNeg (cm_I w r29 ((6 : Int32) + i1).toNatClampNeg)) r36 ((6 : Int32) + i1).toNatClampNeg)) a0 32).bind fun r41 => (cm_R (cm_sI (cm_sI w r27 i1.toNatClampNeg (cm_I w r29 ((6 : Int32) + i1).toNatClampNeg)) r34 i1.toNatClampNeg (cm_I (cm_sI w r27 i1.toNatClampNeg (cm_I w r29 ((6 : Int32) + i1).toNatClampNeg)) r36 ((6 : Int32) + i1).toNatClampNeg)) a0 32).bind fun r43 => (if cm_ga w .int r43 ((6 : Int32) + i1) = true then (if cm_ga w .int r41 i1 = true then (if cm_w2 96 143 r41 = true then fn_219_263 n a0 (i1 + (1 : Int32)) (cm_sI (cm_sI (cm_sI w r27 i1.toNatClampNeg (cm_I w r29 ((6 : Int32) + i1).toNatClampNeg)) r34 i1.toNatClampNeg (cm_I (cm_sI w r27 i1.toNatClampNeg (cm_I w r29 ((6 : Int32) + i1).toNatClampNeg)) r36 ((6 : Int32) + i1).toNatClampNeg)) r41 i1.toNatClampNeg (cm_I (cm_sI (cm_sI w r27 i1.toNatClampNeg (cm_I w r29 ((6 : Int32) + i1).toNatClampNeg)) r34 i1.toNatClampNeg (cm_I (cm_sI w r27 i1.toNatClampNeg (cm_I w r29 ((6 : Int32) + i1).toNatClampNeg)) r36 ((6 : Int32) + i1).toNatClampNeg)) r43 ((6 : Int32) + i1).toNatClampNeg)) else none) else none) else none) else none) else none) else none) else none) else none) else none)) else none)
theorem jt_219_263 : ∀ (n : Nat) (a0 : Nat) (i1 : Int32) (w : cm_W), sm cm_g 219 ck_219 kq_219 263 [(0, .ref a0), (1, .int i1)] [] w ((fn_219_263 n a0 i1 w).map cm_gV) := by
  intro n
  induction n with
  | zero => intro a0 i1 w; exact sm_no
  | succ n ih =>
    intro a0 i1 w
    rw [fn_219_263]
    refine sm_seg 2 265 [(0, .ref a0), (1, .int i1)] [.ref a0, .int i1] rfl ?_
    refine sm_gd fun h25 => ?_
    refine sm_gI rfl h25 rfl ?_
    show sm _ _ _ _ 268 [(0, .ref a0), (1, .int i1)] [.int (cm_I w a0 3), .int i1] _ _
    refine sm_if (pc1 := 322) (lv1 := [(0, .ref a0)]) (pc2 := 271) (lv2 := [(0, .ref a0), (1, .int i1)]) (st1 := []) rfl rfl rfl (fun h26 => ?_) (fun h26 => ?_)
    · exact jt_219_322  a0 w
    · refine sm_seg 1 272 [(0, .ref a0), (1, .int i1)] [.ref a0] rfl ?_
      refine sm_gR rfl h25 rfl rfl fun r27 h28 => ?_
      show sm _ _ _ _ 275 [(0, .ref a0), (1, .int i1)] [.ref r27] _ _
      refine sm_seg 2 277 [(0, .ref a0), (1, .int i1)] [.ref a0, .int i1, .ref r27] rfl ?_
      refine sm_gR rfl h25 rfl rfl fun r29 h30 => ?_
      show sm _ _ _ _ 280 [(0, .ref a0), (1, .int i1)] [.ref r29, .int i1, .ref r27] _ _
      refine sm_seg 3 284 [(0, .ref a0), (1, .int i1)] [.int ((6 : Int32) + i1), .ref r29, .int i1, .ref r27] rfl ?_
      refine sm_gd fun h31 => ?_
      refine sm_ai rfl h31 rfl ?_
      show sm _ _ _ _ 285 [(0, .ref a0), (1, .int i1)] [.int (cm_I w r29 ((6 : Int32) + i1).toNatClampNeg), .int i1, .ref r27] _ _
      refine sm_gd fun h32 => ?_
      refine sm_gd fun h33 => ?_
      refine sm_si rfl h32 h33 rfl rfl ?_
      show sm _ _ _ _ 286 [(0, .ref a0), (1, .int i1)] [] _ _
      refine sm_seg 1 287 [(0, .ref a0), (1, .int i1)] [.ref a0] rfl ?_
      refine sm_gR rfl h25 rfl rfl fun r34 h35 => ?_
      show sm _ _ _ _ 290 [(0, .ref a0), (1, .int i1)] [.ref r34] _ _
      refine sm_seg 2 292 [(0, .ref a0), (1, .int i1)] [.ref a0, .int i1, .ref r34] rfl ?_
      refine sm_gR rfl h25 rfl rfl fun r36 h37 => ?_
      show sm _ _ _ _ 295 [(0, .ref a0), (1, .int i1)] [.ref r36, .int i1, .ref r34] _ _
      refine sm_seg 3 299 [(0, .ref a0), (1, .int i1)] [.int ((6 : Int32) + i1), .ref r36, .int i1, .ref r34] rfl ?_
      refine sm_gd fun h38 => ?_
      refine sm_ai rfl h38 rfl ?_
      show sm _ _ _ _ 300 [(0, .ref a0), (1, .int i1)] [.int (cm_I (cm_sI w r27 i1.toNatClampNeg (cm_I w r29 ((6 : Int32) + i1).toNatClampNeg)) r36 ((6 : Int32) + i1).toNatClampNeg), .int i1, .ref r34] _ _
      refine sm_gd fun h39 => ?_
      refine sm_gd fun h40 => ?_
      refine sm_si rfl h39 h40 rfl rfl ?_
      show sm _ _ _ _ 301 [(0, .ref a0), (1, .int i1)] [] _ _
      refine sm_seg 1 302 [(0, .ref a0), (1, .int i1)] [.ref a0] rfl ?_
      refine sm_gR rfl h25 rfl rfl fun r41 h42 => ?_
      show sm _ _ _ _ 305 [(0, .ref a0), (1, .int i1)] [.ref r41] _ _
      refine sm_seg 2 307 [(0, .ref a0), (1, .int i1)] [.ref a0, .int i1, .ref r41] rfl ?_
      refine sm_gR rfl h25 rfl rfl fun r43 h44 => ?_
      show sm _ _ _ _ 310 [(0, .ref a0), (1, .int i1)] [.ref r43, .int i1, .ref r41] _ _
      refine sm_seg 3 314 [(0, .ref a0), (1, .int i1)] [.int ((6 : Int32) + i1), .ref r43, .int i1, .ref r41] rfl ?_
      refine sm_gd fun h45 => ?_
      refine sm_ai rfl h45 rfl ?_
      show sm _ _ _ _ 315 [(0, .ref a0), (1, .int i1)] [.int (cm_I (cm_sI (cm_sI w r27 i1.toNatClampNeg (cm_I w r29 ((6 : Int32) + i1).toNatClampNeg)) r34 i1.toNatClampNeg (cm_I (cm_sI w r27 i1.toNatClampNeg (cm_I w r29 ((6 : Int32) + i1).toNatClampNeg)) r36 ((6 : Int32) + i1).toNatClampNeg)) r43 ((6 : Int32) + i1).toNatClampNeg), .int i1, .ref r41] _ _
      refine sm_gd fun h46 => ?_
      refine sm_gd fun h47 => ?_
      refine sm_si rfl h46 h47 rfl rfl ?_
      show sm _ _ _ _ 316 [(0, .ref a0), (1, .int i1)] [] _ _
      refine sm_seg 2 263 [(0, .ref a0), (1, .int (i1 + (1 : Int32)))] [] rfl ?_
      exact ih a0 (i1 + (1 : Int32)) (cm_sI (cm_sI (cm_sI w r27 i1.toNatClampNeg (cm_I w r29 ((6 : Int32) + i1).toNatClampNeg)) r34 i1.toNatClampNeg (cm_I (cm_sI w r27 i1.toNatClampNeg (cm_I w r29 ((6 : Int32) + i1).toNatClampNeg)) r36 ((6 : Int32) + i1).toNatClampNeg)) r41 i1.toNatClampNeg (cm_I (cm_sI (cm_sI w r27 i1.toNatClampNeg (cm_I w r29 ((6 : Int32) + i1).toNatClampNeg)) r34 i1.toNatClampNeg (cm_I (cm_sI w r27 i1.toNatClampNeg (cm_I w r29 ((6 : Int32) + i1).toNatClampNeg)) r36 ((6 : Int32) + i1).toNatClampNeg)) r43 ((6 : Int32) + i1).toNatClampNeg))
def fn_219_261 (a0 : Nat) (w : cm_W) : Option cm_W := fn_219_263  cm_N a0 (0 : Int32) w
theorem jt_219_261 (a0 : Nat) (w : cm_W) : sm cm_g 219 ck_219 kq_219 261 [(0, .ref a0)] [] w ((fn_219_261 a0 w).map cm_gV) := by
  unfold fn_219_261
  refine sm_seg 2 263 [(0, .ref a0), (1, .int (0 : Int32))] [] rfl ?_
  exact jt_219_263  cm_N a0 (0 : Int32) w
def fn_219_134 : Nat → Nat → Int32 → cm_W → Option cm_W
  | 0, _, _, _ => none
  | n + 1, a0, i1, w => (if cm_sh w a0 = some (.inl 11) then (if (cm_I w a0 2) ≤ i1 then fn_219_261  a0 w else (cm_R w a0 26).bind fun r50 => (cm_R w a0 26).bind fun r52 => (if cm_ga w .int r52 ((12 : Int32) + i1) = true then (if cm_ga w .int r50 i1 = true then (if cm_w2 96 143 r50 = true then (cm_R (cm_sI w r50 i1.toNatClampNeg (cm_I w r52 ((12 : Int32) + i1).toNatClampNeg)) a0 27).bind fun r57 => (cm_R (cm_sI w r50 i1.toNatClampNeg (cm_I w r52 ((12 : Int32) + i1).toNatClampNeg)) a0 27).bind fun r59 => (if cm_ga w .int r59 ((12 : Int32) + i1) = true then (if cm_ga w .int r57 i1 = true then (if cm_w2 96 143 r57 = true then (cm_R (cm_sI (cm_sI w r50 i1.toNatClampNeg (cm_I w r52 ((12 : Int32) + i1).toNatClampNeg)) r57 i1.toNatClampNeg (cm_I (cm_sI w r50 i1.toNatClampNeg (cm_I w r52 ((12 : Int32) + i1).toNatClampNeg)) r59 ((12 : Int32) + i1).toNatClampNeg)) a0 33).bind fun r64 => (cm_R (cm_sI (cm_sI w r50 i1.toNatClampNeg (cm_I w r52 ((12 : Int32) + i1).toNatClampNeg)) r57 i1.toNatClampNeg (cm_I (cm_sI w r50 i1.toNatClampNeg (cm_I w r52 ((12 : Int32) + i1).toNatClampNeg)) r59 ((12 : Int32) + i1).toNatClampNeg)) a0 27).bind fun r66 => (if cm_ga w .int r66 i1 = true then (if cm_ga w .int r64 i1 = true then (if cm_w2 96 143 r64 = true then fn_219_186  (fn_219_134 n) cm_N a0 i1 (0 : Int32) (cm_sI (cm_sI (cm_sI w r50 i1.toNatClampNeg (cm_I w r52 ((12 : Int32) + i1).toNatClampNeg)) r57 i1.toNatClampNeg (cm_I (cm_sI w r50 i1.toNatClampNeg (cm_I w r52 ((12 : Int32) + i1).toNatClampNeg)) r59 ((12 : Int32) + i1).toNatClampNeg)) r64 i1.toNatClampNeg (cm_I (cm_sI (cm_sI w r50 i1.toNatClampNeg (cm_I w r52 ((12 : Int32) + i1).toNatClampNeg)) r57 i1.toNatClampNeg (cm_I (cm_sI w r50 i1.toNatClampNeg (cm_I w r52 ((12 : Int32) + i1).toNatClampNeg)) r59 ((12 : Int32) + i1).toNatClampNeg)) r66 i1.toNatClampNeg)) else none) else none) else none) else none) else none) else none) else none) else none) else none)) else none)
theorem jt_219_134 : ∀ (n : Nat) (a0 : Nat) (i1 : Int32) (w : cm_W), sm cm_g 219 ck_219 kq_219 134 [(0, .ref a0), (1, .int i1)] [] w ((fn_219_134 n a0 i1 w).map cm_gV) := by
  intro n
  induction n with
  | zero => intro a0 i1 w; exact sm_no
  | succ n ih =>
    intro a0 i1 w
    rw [fn_219_134]
    refine sm_seg 2 136 [(0, .ref a0), (1, .int i1)] [.ref a0, .int i1] rfl ?_
    refine sm_gd fun h48 => ?_
    refine sm_gI rfl h48 rfl ?_
    show sm _ _ _ _ 139 [(0, .ref a0), (1, .int i1)] [.int (cm_I w a0 2), .int i1] _ _
    refine sm_if (pc1 := 261) (lv1 := [(0, .ref a0)]) (pc2 := 142) (lv2 := [(0, .ref a0), (1, .int i1)]) (st1 := []) rfl rfl rfl (fun h49 => ?_) (fun h49 => ?_)
    · exact jt_219_261  a0 w
    · refine sm_seg 1 143 [(0, .ref a0), (1, .int i1)] [.ref a0] rfl ?_
      refine sm_gR rfl h48 rfl rfl fun r50 h51 => ?_
      show sm _ _ _ _ 146 [(0, .ref a0), (1, .int i1)] [.ref r50] _ _
      refine sm_seg 2 148 [(0, .ref a0), (1, .int i1)] [.ref a0, .int i1, .ref r50] rfl ?_
      refine sm_gR rfl h48 rfl rfl fun r52 h53 => ?_
      show sm _ _ _ _ 151 [(0, .ref a0), (1, .int i1)] [.ref r52, .int i1, .ref r50] _ _
      refine sm_seg 3 155 [(0, .ref a0), (1, .int i1)] [.int ((12 : Int32) + i1), .ref r52, .int i1, .ref r50] rfl ?_
      refine sm_gd fun h54 => ?_
      refine sm_ai rfl h54 rfl ?_
      show sm _ _ _ _ 156 [(0, .ref a0), (1, .int i1)] [.int (cm_I w r52 ((12 : Int32) + i1).toNatClampNeg), .int i1, .ref r50] _ _
      refine sm_gd fun h55 => ?_
      refine sm_gd fun h56 => ?_
      refine sm_si rfl h55 h56 rfl rfl ?_
      show sm _ _ _ _ 157 [(0, .ref a0), (1, .int i1)] [] _ _
      refine sm_seg 1 158 [(0, .ref a0), (1, .int i1)] [.ref a0] rfl ?_
      refine sm_gR rfl h48 rfl rfl fun r57 h58 => ?_
      show sm _ _ _ _ 161 [(0, .ref a0), (1, .int i1)] [.ref r57] _ _
      refine sm_seg 2 163 [(0, .ref a0), (1, .int i1)] [.ref a0, .int i1, .ref r57] rfl ?_
      refine sm_gR rfl h48 rfl rfl fun r59 h60 => ?_
      show sm _ _ _ _ 166 [(0, .ref a0), (1, .int i1)] [.ref r59, .int i1, .ref r57] _ _
      refine sm_seg 3 170 [(0, .ref a0), (1, .int i1)] [.int ((12 : Int32) + i1), .ref r59, .int i1, .ref r57] rfl ?_
      refine sm_gd fun h61 => ?_
      refine sm_ai rfl h61 rfl ?_
      show sm _ _ _ _ 171 [(0, .ref a0), (1, .int i1)] [.int (cm_I (cm_sI w r50 i1.toNatClampNeg (cm_I w r52 ((12 : Int32) + i1).toNatClampNeg)) r59 ((12 : Int32) + i1).toNatClampNeg), .int i1, .ref r57] _ _
      refine sm_gd fun h62 => ?_
      refine sm_gd fun h63 => ?_
      refine sm_si rfl h62 h63 rfl rfl ?_
      show sm _ _ _ _ 172 [(0, .ref a0), (1, .int i1)] [] _ _
      refine sm_seg 1 173 [(0, .ref a0), (1, .int i1)] [.ref a0] rfl ?_
      refine sm_gR rfl h48 rfl rfl fun r64 h65 => ?_
      show sm _ _ _ _ 176 [(0, .ref a0), (1, .int i1)] [.ref r64] _ _
      refine sm_seg 2 178 [(0, .ref a0), (1, .int i1)] [.ref a0, .int i1, .ref r64] rfl ?_
      refine sm_gR rfl h48 rfl rfl fun r66 h67 => ?_
      show sm _ _ _ _ 181 [(0, .ref a0), (1, .int i1)] [.ref r66, .int i1, .ref r64] _ _
      refine sm_seg 1 182 [(0, .ref a0), (1, .int i1)] [.int i1, .ref r66, .int i1, .ref r64] rfl ?_
      refine sm_gd fun h68 => ?_
      refine sm_ai rfl h68 rfl ?_
      show sm _ _ _ _ 183 [(0, .ref a0), (1, .int i1)] [.int (cm_I (cm_sI (cm_sI w r50 i1.toNatClampNeg (cm_I w r52 ((12 : Int32) + i1).toNatClampNeg)) r57 i1.toNatClampNeg (cm_I (cm_sI w r50 i1.toNatClampNeg (cm_I w r52 ((12 : Int32) + i1).toNatClampNeg)) r59 ((12 : Int32) + i1).toNatClampNeg)) r66 i1.toNatClampNeg), .int i1, .ref r64] _ _
      refine sm_gd fun h69 => ?_
      refine sm_gd fun h70 => ?_
      refine sm_si rfl h69 h70 rfl rfl ?_
      show sm _ _ _ _ 184 [(0, .ref a0), (1, .int i1)] [] _ _
      refine sm_seg 2 186 [(0, .ref a0), (1, .int i1), (2, .int (0 : Int32))] [] rfl ?_
      exact jt_219_186  (fn_219_134 n) ih cm_N a0 i1 (0 : Int32) (cm_sI (cm_sI (cm_sI w r50 i1.toNatClampNeg (cm_I w r52 ((12 : Int32) + i1).toNatClampNeg)) r57 i1.toNatClampNeg (cm_I (cm_sI w r50 i1.toNatClampNeg (cm_I w r52 ((12 : Int32) + i1).toNatClampNeg)) r59 ((12 : Int32) + i1).toNatClampNeg)) r64 i1.toNatClampNeg (cm_I (cm_sI (cm_sI w r50 i1.toNatClampNeg (cm_I w r52 ((12 : Int32) + i1).toNatClampNeg)) r57 i1.toNatClampNeg (cm_I (cm_sI w r50 i1.toNatClampNeg (cm_I w r52 ((12 : Int32) + i1).toNatClampNeg)) r59 ((12 : Int32) + i1).toNatClampNeg)) r66 i1.toNatClampNeg))
def fn_219_132 (a0 : Nat) (w : cm_W) : Option cm_W := fn_219_134  cm_N a0 (0 : Int32) w
theorem jt_219_132 (a0 : Nat) (w : cm_W) : sm cm_g 219 ck_219 kq_219 132 [(0, .ref a0)] [] w ((fn_219_132 a0 w).map cm_gV) := by
  unfold fn_219_132
  refine sm_seg 2 134 [(0, .ref a0), (1, .int (0 : Int32))] [] rfl ?_
  exact jt_219_134  cm_N a0 (0 : Int32) w
def fn_219_58 : Nat → Nat → Int32 → cm_W → Option cm_W
  | 0, _, _, _ => none
  | n + 1, a0, i1, w => (if cm_sh w a0 = some (.inl 11) then (if (cm_I w a0 1) ≤ i1 then fn_219_132  a0 w else (cm_R w a0 22).bind fun r73 => (cm_R w a0 22).bind fun r75 => (if cm_ga w .int r75 ((8 : Int32) + i1) = true then (if cm_ga w .int r73 i1 = true then (if cm_w2 96 143 r73 = true then (cm_R (cm_sI w r73 i1.toNatClampNeg (cm_I w r75 ((8 : Int32) + i1).toNatClampNeg)) a0 23).bind fun r80 => (cm_R (cm_sI w r73 i1.toNatClampNeg (cm_I w r75 ((8 : Int32) + i1).toNatClampNeg)) a0 23).bind fun r82 => (if cm_ga w .int r82 ((8 : Int32) + i1) = true then (if cm_ga w .int r80 i1 = true then (if cm_w2 96 143 r80 = true then (cm_R (cm_sI (cm_sI w r73 i1.toNatClampNeg (cm_I w r75 ((8 : Int32) + i1).toNatClampNeg)) r80 i1.toNatClampNeg (cm_I (cm_sI w r73 i1.toNatClampNeg (cm_I w r75 ((8 : Int32) + i1).toNatClampNeg)) r82 ((8 : Int32) + i1).toNatClampNeg)) a0 24).bind fun r87 => (cm_R (cm_sI (cm_sI w r73 i1.toNatClampNeg (cm_I w r75 ((8 : Int32) + i1).toNatClampNeg)) r80 i1.toNatClampNeg (cm_I (cm_sI w r73 i1.toNatClampNeg (cm_I w r75 ((8 : Int32) + i1).toNatClampNeg)) r82 ((8 : Int32) + i1).toNatClampNeg)) a0 24).bind fun r89 => (if cm_ga w .int r89 ((8 : Int32) + i1) = true then (if cm_ga w .int r87 i1 = true then (if cm_w2 96 143 r87 = true then (cm_R (cm_sI (cm_sI (cm_sI w r73 i1.toNatClampNeg (cm_I w r75 ((8 : Int32) + i1).toNatClampNeg)) r80 i1.toNatClampNeg (cm_I (cm_sI w r73 i1.toNatClampNeg (cm_I w r75 ((8 : Int32) + i1).toNatClampNeg)) r82 ((8 : Int32) + i1).toNatClampNeg)) r87 i1.toNatClampNeg (cm_I (cm_sI (cm_sI w r73 i1.toNatClampNeg (cm_I w r75 ((8 : Int32) + i1).toNatClampNeg)) r80 i1.toNatClampNeg (cm_I (cm_sI w r73 i1.toNatClampNeg (cm_I w r75 ((8 : Int32) + i1).toNatClampNeg)) r82 ((8 : Int32) + i1).toNatClampNeg)) r89 ((8 : Int32) + i1).toNatClampNeg)) a0 25).bind fun r94 => (cm_R (cm_sI (cm_sI (cm_sI w r73 i1.toNatClampNeg (cm_I w r75 ((8 : Int32) + i1).toNatClampNeg)) r80 i1.toNatClampNeg (cm_I (cm_sI w r73 i1.toNatClampNeg (cm_I w r75 ((8 : Int32) + i1).toNatClampNeg)) r82 ((8 : Int32) + i1).toNatClampNeg)) r87 i1.toNatClampNeg (cm_I (cm_sI (cm_sI w r73 i1.toNatClampNeg (cm_I w r75 ((8 : Int32) + i1).toNatClampNeg)) r80 i1.toNatClampNeg (cm_I (cm_sI w r73 i1.toNatClampNeg (cm_I w r75 ((8 : Int32) + i1).toNatClampNeg)) r82 ((8 : Int32) + i1).toNatClampNeg)) r89 ((8 : Int32) + i1).toNatClampNeg)) a0 25).bind fun r96 => (if cm_ga w .int r96 ((8 : Int32) + i1) = true then (if cm_ga w .int r94 i1 = true then (if cm_w2 96 143 r94 = true then fn_219_58 n a0 (i1 + (1 : Int32)) (cm_sI (cm_sI (cm_sI (cm_sI w r73 i1.toNatClampNeg (cm_I w r75 ((8 : Int32) + i1).toNatClampNeg)) r80 i1.toNatClampNeg (cm_I (cm_sI w r73 i1.toNatClampNeg (cm_I w r75 ((8 : Int32) + i1).toNatClampNeg)) r82 ((8 : Int32) + i1).toNatClampNeg)) r87 i1.toNatClampNeg (cm_I (cm_sI (cm_sI w r73 i1.toNatClampNeg (cm_I w r75 ((8 : Int32) + i1).toNatClampNeg)) r80 i1.toNatClampNeg (cm_I (cm_sI w r73 i1.toNatClampNeg (cm_I w r75 ((8 : Int32) + i1).toNatClampNeg)) r82 ((8 : Int32) + i1).toNatClampNeg)) r89 ((8 : Int32) + i1).toNatClampNeg)) r94 i1.toNatClampNeg (cm_I (cm_sI (cm_sI (cm_sI w r73 i1.toNatClampNeg (cm_I w r75 ((8 : Int32) + i1).toNatClampNeg)) r80 i1.toNatClampNeg (cm_I (cm_sI w r73 i1.toNatClampNeg (cm_I w r75 ((8 : Int32) + i1).toNatClampNeg)) r82 ((8 : Int32) + i1).toNatClampNeg)) r87 i1.toNatClampNeg (cm_I (cm_sI (cm_sI w r73 i1.toNatClampNeg (cm_I w r75 ((8 : Int32) + i1).toNatClampNeg)) r80 i1.toNatClampNeg (cm_I (cm_sI w r73 i1.toNatClampNeg (cm_I w r75 ((8 : Int32) + i1).toNatClampNeg)) r82 ((8 : Int32) + i1).toNatClampNeg)) r89 ((8 : Int32) + i1).toNatClampNeg)) r96 ((8 : Int32) + i1).toNatClampNeg)) else none) else none) else none) else none) else none) else none) else none) else none) else none) else none) else none) else none)) else none)
theorem jt_219_58 : ∀ (n : Nat) (a0 : Nat) (i1 : Int32) (w : cm_W), sm cm_g 219 ck_219 kq_219 58 [(0, .ref a0), (1, .int i1)] [] w ((fn_219_58 n a0 i1 w).map cm_gV) := by
  intro n
  induction n with
  | zero => intro a0 i1 w; exact sm_no
  | succ n ih =>
    intro a0 i1 w
    rw [fn_219_58]
    refine sm_seg 2 60 [(0, .ref a0), (1, .int i1)] [.ref a0, .int i1] rfl ?_
    refine sm_gd fun h71 => ?_
    refine sm_gI rfl h71 rfl ?_
    show sm _ _ _ _ 63 [(0, .ref a0), (1, .int i1)] [.int (cm_I w a0 1), .int i1] _ _
    refine sm_if (pc1 := 132) (lv1 := [(0, .ref a0)]) (pc2 := 66) (lv2 := [(0, .ref a0), (1, .int i1)]) (st1 := []) rfl rfl rfl (fun h72 => ?_) (fun h72 => ?_)
    · exact jt_219_132  a0 w
    · refine sm_seg 1 67 [(0, .ref a0), (1, .int i1)] [.ref a0] rfl ?_
      refine sm_gR rfl h71 rfl rfl fun r73 h74 => ?_
      show sm _ _ _ _ 70 [(0, .ref a0), (1, .int i1)] [.ref r73] _ _
      refine sm_seg 2 72 [(0, .ref a0), (1, .int i1)] [.ref a0, .int i1, .ref r73] rfl ?_
      refine sm_gR rfl h71 rfl rfl fun r75 h76 => ?_
      show sm _ _ _ _ 75 [(0, .ref a0), (1, .int i1)] [.ref r75, .int i1, .ref r73] _ _
      refine sm_seg 3 79 [(0, .ref a0), (1, .int i1)] [.int ((8 : Int32) + i1), .ref r75, .int i1, .ref r73] rfl ?_
      refine sm_gd fun h77 => ?_
      refine sm_ai rfl h77 rfl ?_
      show sm _ _ _ _ 80 [(0, .ref a0), (1, .int i1)] [.int (cm_I w r75 ((8 : Int32) + i1).toNatClampNeg), .int i1, .ref r73] _ _
      refine sm_gd fun h78 => ?_
      refine sm_gd fun h79 => ?_
      refine sm_si rfl h78 h79 rfl rfl ?_
      show sm _ _ _ _ 81 [(0, .ref a0), (1, .int i1)] [] _ _
      refine sm_seg 1 82 [(0, .ref a0), (1, .int i1)] [.ref a0] rfl ?_
      refine sm_gR rfl h71 rfl rfl fun r80 h81 => ?_
      show sm _ _ _ _ 85 [(0, .ref a0), (1, .int i1)] [.ref r80] _ _
      refine sm_seg 2 87 [(0, .ref a0), (1, .int i1)] [.ref a0, .int i1, .ref r80] rfl ?_
      refine sm_gR rfl h71 rfl rfl fun r82 h83 => ?_
      show sm _ _ _ _ 90 [(0, .ref a0), (1, .int i1)] [.ref r82, .int i1, .ref r80] _ _
      refine sm_seg 3 94 [(0, .ref a0), (1, .int i1)] [.int ((8 : Int32) + i1), .ref r82, .int i1, .ref r80] rfl ?_
      refine sm_gd fun h84 => ?_
      refine sm_ai rfl h84 rfl ?_
      show sm _ _ _ _ 95 [(0, .ref a0), (1, .int i1)] [.int (cm_I (cm_sI w r73 i1.toNatClampNeg (cm_I w r75 ((8 : Int32) + i1).toNatClampNeg)) r82 ((8 : Int32) + i1).toNatClampNeg), .int i1, .ref r80] _ _
      refine sm_gd fun h85 => ?_
      refine sm_gd fun h86 => ?_
      refine sm_si rfl h85 h86 rfl rfl ?_
      show sm _ _ _ _ 96 [(0, .ref a0), (1, .int i1)] [] _ _
      refine sm_seg 1 97 [(0, .ref a0), (1, .int i1)] [.ref a0] rfl ?_
      refine sm_gR rfl h71 rfl rfl fun r87 h88 => ?_
      show sm _ _ _ _ 100 [(0, .ref a0), (1, .int i1)] [.ref r87] _ _
      refine sm_seg 2 102 [(0, .ref a0), (1, .int i1)] [.ref a0, .int i1, .ref r87] rfl ?_
      refine sm_gR rfl h71 rfl rfl fun r89 h90 => ?_
      show sm _ _ _ _ 105 [(0, .ref a0), (1, .int i1)] [.ref r89, .int i1, .ref r87] _ _
      refine sm_seg 3 109 [(0, .ref a0), (1, .int i1)] [.int ((8 : Int32) + i1), .ref r89, .int i1, .ref r87] rfl ?_
      refine sm_gd fun h91 => ?_
      refine sm_ai rfl h91 rfl ?_
      show sm _ _ _ _ 110 [(0, .ref a0), (1, .int i1)] [.int (cm_I (cm_sI (cm_sI w r73 i1.toNatClampNeg (cm_I w r75 ((8 : Int32) + i1).toNatClampNeg)) r80 i1.toNatClampNeg (cm_I (cm_sI w r73 i1.toNatClampNeg (cm_I w r75 ((8 : Int32) + i1).toNatClampNeg)) r82 ((8 : Int32) + i1).toNatClampNeg)) r89 ((8 : Int32) + i1).toNatClampNeg), .int i1, .ref r87] _ _
      refine sm_gd fun h92 => ?_
      refine sm_gd fun h93 => ?_
      refine sm_si rfl h92 h93 rfl rfl ?_
      show sm _ _ _ _ 111 [(0, .ref a0), (1, .int i1)] [] _ _
      refine sm_seg 1 112 [(0, .ref a0), (1, .int i1)] [.ref a0] rfl ?_
      refine sm_gR rfl h71 rfl rfl fun r94 h95 => ?_
      show sm _ _ _ _ 115 [(0, .ref a0), (1, .int i1)] [.ref r94] _ _
      refine sm_seg 2 117 [(0, .ref a0), (1, .int i1)] [.ref a0, .int i1, .ref r94] rfl ?_
      refine sm_gR rfl h71 rfl rfl fun r96 h97 => ?_
      show sm _ _ _ _ 120 [(0, .ref a0), (1, .int i1)] [.ref r96, .int i1, .ref r94] _ _
      refine sm_seg 3 124 [(0, .ref a0), (1, .int i1)] [.int ((8 : Int32) + i1), .ref r96, .int i1, .ref r94] rfl ?_
      refine sm_gd fun h98 => ?_
      refine sm_ai rfl h98 rfl ?_
      show sm _ _ _ _ 125 [(0, .ref a0), (1, .int i1)] [.int (cm_I (cm_sI (cm_sI (cm_sI w r73 i1.toNatClampNeg (cm_I w r75 ((8 : Int32) + i1).toNatClampNeg)) r80 i1.toNatClampNeg (cm_I (cm_sI w r73 i1.toNatClampNeg (cm_I w r75 ((8 : Int32) + i1).toNatClampNeg)) r82 ((8 : Int32) + i1).toNatClampNeg)) r87 i1.toNatClampNeg (cm_I (cm_sI (cm_sI w r73 i1.toNatClampNeg (cm_I w r75 ((8 : Int32) + i1).toNatClampNeg)) r80 i1.toNatClampNeg (cm_I (cm_sI w r73 i1.toNatClampNeg (cm_I w r75 ((8 : Int32) + i1).toNatClampNeg)) r82 ((8 : Int32) + i1).toNatClampNeg)) r89 ((8 : Int32) + i1).toNatClampNeg)) r96 ((8 : Int32) + i1).toNatClampNeg), .int i1, .ref r94] _ _
      refine sm_gd fun h99 => ?_
      refine sm_gd fun h100 => ?_
      refine sm_si rfl h99 h100 rfl rfl ?_
      show sm _ _ _ _ 126 [(0, .ref a0), (1, .int i1)] [] _ _
      refine sm_seg 2 58 [(0, .ref a0), (1, .int (i1 + (1 : Int32)))] [] rfl ?_
      exact ih a0 (i1 + (1 : Int32)) (cm_sI (cm_sI (cm_sI (cm_sI w r73 i1.toNatClampNeg (cm_I w r75 ((8 : Int32) + i1).toNatClampNeg)) r80 i1.toNatClampNeg (cm_I (cm_sI w r73 i1.toNatClampNeg (cm_I w r75 ((8 : Int32) + i1).toNatClampNeg)) r82 ((8 : Int32) + i1).toNatClampNeg)) r87 i1.toNatClampNeg (cm_I (cm_sI (cm_sI w r73 i1.toNatClampNeg (cm_I w r75 ((8 : Int32) + i1).toNatClampNeg)) r80 i1.toNatClampNeg (cm_I (cm_sI w r73 i1.toNatClampNeg (cm_I w r75 ((8 : Int32) + i1).toNatClampNeg)) r82 ((8 : Int32) + i1).toNatClampNeg)) r89 ((8 : Int32) + i1).toNatClampNeg)) r94 i1.toNatClampNeg (cm_I (cm_sI (cm_sI (cm_sI w r73 i1.toNatClampNeg (cm_I w r75 ((8 : Int32) + i1).toNatClampNeg)) r80 i1.toNatClampNeg (cm_I (cm_sI w r73 i1.toNatClampNeg (cm_I w r75 ((8 : Int32) + i1).toNatClampNeg)) r82 ((8 : Int32) + i1).toNatClampNeg)) r87 i1.toNatClampNeg (cm_I (cm_sI (cm_sI w r73 i1.toNatClampNeg (cm_I w r75 ((8 : Int32) + i1).toNatClampNeg)) r80 i1.toNatClampNeg (cm_I (cm_sI w r73 i1.toNatClampNeg (cm_I w r75 ((8 : Int32) + i1).toNatClampNeg)) r82 ((8 : Int32) + i1).toNatClampNeg)) r89 ((8 : Int32) + i1).toNatClampNeg)) r96 ((8 : Int32) + i1).toNatClampNeg))
def fn_219 (a0 : Nat) (w : cm_W) : Option cm_W := (if cm_sh w a0 = some (.inl 11) then (if cm_w2 96 143 a0 = true then fn_219_58  cm_N a0 (0 : Int32) (cm_sI (cm_sI (cm_sI (cm_sI (cm_sI (cm_sI (cm_sI w a0 1 (cm_I w a0 13)) a0 2 (cm_I (cm_sI w a0 1 (cm_I w a0 13)) a0 14)) a0 3 (cm_I (cm_sI (cm_sI w a0 1 (cm_I w a0 13)) a0 2 (cm_I (cm_sI w a0 1 (cm_I w a0 13)) a0 14)) a0 15)) a0 4 (cm_I (cm_sI (cm_sI (cm_sI w a0 1 (cm_I w a0 13)) a0 2 (cm_I (cm_sI w a0 1 (cm_I w a0 13)) a0 14)) a0 3 (cm_I (cm_sI (cm_sI w a0 1 (cm_I w a0 13)) a0 2 (cm_I (cm_sI w a0 1 (cm_I w a0 13)) a0 14)) a0 15)) a0 16)) a0 5 (cm_I (cm_sI (cm_sI (cm_sI (cm_sI w a0 1 (cm_I w a0 13)) a0 2 (cm_I (cm_sI w a0 1 (cm_I w a0 13)) a0 14)) a0 3 (cm_I (cm_sI (cm_sI w a0 1 (cm_I w a0 13)) a0 2 (cm_I (cm_sI w a0 1 (cm_I w a0 13)) a0 14)) a0 15)) a0 4 (cm_I (cm_sI (cm_sI (cm_sI w a0 1 (cm_I w a0 13)) a0 2 (cm_I (cm_sI w a0 1 (cm_I w a0 13)) a0 14)) a0 3 (cm_I (cm_sI (cm_sI w a0 1 (cm_I w a0 13)) a0 2 (cm_I (cm_sI w a0 1 (cm_I w a0 13)) a0 14)) a0 15)) a0 16)) a0 17)) a0 6 (cm_I (cm_sI (cm_sI (cm_sI (cm_sI (cm_sI w a0 1 (cm_I w a0 13)) a0 2 (cm_I (cm_sI w a0 1 (cm_I w a0 13)) a0 14)) a0 3 (cm_I (cm_sI (cm_sI w a0 1 (cm_I w a0 13)) a0 2 (cm_I (cm_sI w a0 1 (cm_I w a0 13)) a0 14)) a0 15)) a0 4 (cm_I (cm_sI (cm_sI (cm_sI w a0 1 (cm_I w a0 13)) a0 2 (cm_I (cm_sI w a0 1 (cm_I w a0 13)) a0 14)) a0 3 (cm_I (cm_sI (cm_sI w a0 1 (cm_I w a0 13)) a0 2 (cm_I (cm_sI w a0 1 (cm_I w a0 13)) a0 14)) a0 15)) a0 16)) a0 5 (cm_I (cm_sI (cm_sI (cm_sI (cm_sI w a0 1 (cm_I w a0 13)) a0 2 (cm_I (cm_sI w a0 1 (cm_I w a0 13)) a0 14)) a0 3 (cm_I (cm_sI (cm_sI w a0 1 (cm_I w a0 13)) a0 2 (cm_I (cm_sI w a0 1 (cm_I w a0 13)) a0 14)) a0 15)) a0 4 (cm_I (cm_sI (cm_sI (cm_sI w a0 1 (cm_I w a0 13)) a0 2 (cm_I (cm_sI w a0 1 (cm_I w a0 13)) a0 14)) a0 3 (cm_I (cm_sI (cm_sI w a0 1 (cm_I w a0 13)) a0 2 (cm_I (cm_sI w a0 1 (cm_I w a0 13)) a0 14)) a0 15)) a0 16)) a0 17)) a0 18)) a0 7 (cm_I (cm_sI (cm_sI (cm_sI (cm_sI (cm_sI (cm_sI w a0 1 (cm_I w a0 13)) a0 2 (cm_I (cm_sI w a0 1 (cm_I w a0 13)) a0 14)) a0 3 (cm_I (cm_sI (cm_sI w a0 1 (cm_I w a0 13)) a0 2 (cm_I (cm_sI w a0 1 (cm_I w a0 13)) a0 14)) a0 15)) a0 4 (cm_I (cm_sI (cm_sI (cm_sI w a0 1 (cm_I w a0 13)) a0 2 (cm_I (cm_sI w a0 1 (cm_I w a0 13)) a0 14)) a0 3 (cm_I (cm_sI (cm_sI w a0 1 (cm_I w a0 13)) a0 2 (cm_I (cm_sI w a0 1 (cm_I w a0 13)) a0 14)) a0 15)) a0 16)) a0 5 (cm_I (cm_sI (cm_sI (cm_sI (cm_sI w a0 1 (cm_I w a0 13)) a0 2 (cm_I (cm_sI w a0 1 (cm_I w a0 13)) a0 14)) a0 3 (cm_I (cm_sI (cm_sI w a0 1 (cm_I w a0 13)) a0 2 (cm_I (cm_sI w a0 1 (cm_I w a0 13)) a0 14)) a0 15)) a0 4 (cm_I (cm_sI (cm_sI (cm_sI w a0 1 (cm_I w a0 13)) a0 2 (cm_I (cm_sI w a0 1 (cm_I w a0 13)) a0 14)) a0 3 (cm_I (cm_sI (cm_sI w a0 1 (cm_I w a0 13)) a0 2 (cm_I (cm_sI w a0 1 (cm_I w a0 13)) a0 14)) a0 15)) a0 16)) a0 17)) a0 6 (cm_I (cm_sI (cm_sI (cm_sI (cm_sI (cm_sI w a0 1 (cm_I w a0 13)) a0 2 (cm_I (cm_sI w a0 1 (cm_I w a0 13)) a0 14)) a0 3 (cm_I (cm_sI (cm_sI w a0 1 (cm_I w a0 13)) a0 2 (cm_I (cm_sI w a0 1 (cm_I w a0 13)) a0 14)) a0 15)) a0 4 (cm_I (cm_sI (cm_sI (cm_sI w a0 1 (cm_I w a0 13)) a0 2 (cm_I (cm_sI w a0 1 (cm_I w a0 13)) a0 14)) a0 3 (cm_I (cm_sI (cm_sI w a0 1 (cm_I w a0 13)) a0 2 (cm_I (cm_sI w a0 1 (cm_I w a0 13)) a0 14)) a0 15)) a0 16)) a0 5 (cm_I (cm_sI (cm_sI (cm_sI (cm_sI w a0 1 (cm_I w a0 13)) a0 2 (cm_I (cm_sI w a0 1 (cm_I w a0 13)) a0 14)) a0 3 (cm_I (cm_sI (cm_sI w a0 1 (cm_I w a0 13)) a0 2 (cm_I (cm_sI w a0 1 (cm_I w a0 13)) a0 14)) a0 15)) a0 4 (cm_I (cm_sI (cm_sI (cm_sI w a0 1 (cm_I w a0 13)) a0 2 (cm_I (cm_sI w a0 1 (cm_I w a0 13)) a0 14)) a0 3 (cm_I (cm_sI (cm_sI w a0 1 (cm_I w a0 13)) a0 2 (cm_I (cm_sI w a0 1 (cm_I w a0 13)) a0 14)) a0 15)) a0 16)) a0 17)) a0 18)) a0 19)) else none) else none)
theorem jt_219_0 (a0 : Nat) (w : cm_W) : sm cm_g 219 ck_219 kq_219 0 [(0, .ref a0)] [] w ((fn_219 a0 w).map cm_gV) := by
  unfold fn_219
  refine sm_seg 2 2 [(0, .ref a0)] [.ref a0, .ref a0] rfl ?_
  refine sm_gd fun h101 => ?_
  refine sm_gI rfl h101 rfl ?_
  show sm _ _ _ _ 5 [(0, .ref a0)] [.int (cm_I w a0 13), .ref a0] _ _
  refine sm_gd fun h102 => ?_
  refine sm_pI rfl h101 rfl h102 rfl ?_
  show sm _ _ _ _ 8 [(0, .ref a0)] [] _ _
  refine sm_seg 2 10 [(0, .ref a0)] [.ref a0, .ref a0] rfl ?_
  refine sm_gI rfl h101 rfl ?_
  show sm _ _ _ _ 13 [(0, .ref a0)] [.int (cm_I (cm_sI w a0 1 (cm_I w a0 13)) a0 14), .ref a0] _ _
  refine sm_pI rfl h101 rfl h102 rfl ?_
  show sm _ _ _ _ 16 [(0, .ref a0)] [] _ _
  refine sm_seg 2 18 [(0, .ref a0)] [.ref a0, .ref a0] rfl ?_
  refine sm_gI rfl h101 rfl ?_
  show sm _ _ _ _ 21 [(0, .ref a0)] [.int (cm_I (cm_sI (cm_sI w a0 1 (cm_I w a0 13)) a0 2 (cm_I (cm_sI w a0 1 (cm_I w a0 13)) a0 14)) a0 15), .ref a0] _ _
  refine sm_pI rfl h101 rfl h102 rfl ?_
  show sm _ _ _ _ 24 [(0, .ref a0)] [] _ _
  refine sm_seg 2 26 [(0, .ref a0)] [.ref a0, .ref a0] rfl ?_
  refine sm_gI rfl h101 rfl ?_
  show sm _ _ _ _ 29 [(0, .ref a0)] [.int (cm_I (cm_sI (cm_sI (cm_sI w a0 1 (cm_I w a0 13)) a0 2 (cm_I (cm_sI w a0 1 (cm_I w a0 13)) a0 14)) a0 3 (cm_I (cm_sI (cm_sI w a0 1 (cm_I w a0 13)) a0 2 (cm_I (cm_sI w a0 1 (cm_I w a0 13)) a0 14)) a0 15)) a0 16), .ref a0] _ _
  refine sm_pI rfl h101 rfl h102 rfl ?_
  show sm _ _ _ _ 32 [(0, .ref a0)] [] _ _
  refine sm_seg 2 34 [(0, .ref a0)] [.ref a0, .ref a0] rfl ?_
  refine sm_gI rfl h101 rfl ?_
  show sm _ _ _ _ 37 [(0, .ref a0)] [.int (cm_I (cm_sI (cm_sI (cm_sI (cm_sI w a0 1 (cm_I w a0 13)) a0 2 (cm_I (cm_sI w a0 1 (cm_I w a0 13)) a0 14)) a0 3 (cm_I (cm_sI (cm_sI w a0 1 (cm_I w a0 13)) a0 2 (cm_I (cm_sI w a0 1 (cm_I w a0 13)) a0 14)) a0 15)) a0 4 (cm_I (cm_sI (cm_sI (cm_sI w a0 1 (cm_I w a0 13)) a0 2 (cm_I (cm_sI w a0 1 (cm_I w a0 13)) a0 14)) a0 3 (cm_I (cm_sI (cm_sI w a0 1 (cm_I w a0 13)) a0 2 (cm_I (cm_sI w a0 1 (cm_I w a0 13)) a0 14)) a0 15)) a0 16)) a0 17), .ref a0] _ _
  refine sm_pI rfl h101 rfl h102 rfl ?_
  show sm _ _ _ _ 40 [(0, .ref a0)] [] _ _
  refine sm_seg 2 42 [(0, .ref a0)] [.ref a0, .ref a0] rfl ?_
  refine sm_gI rfl h101 rfl ?_
  show sm _ _ _ _ 45 [(0, .ref a0)] [.int (cm_I (cm_sI (cm_sI (cm_sI (cm_sI (cm_sI w a0 1 (cm_I w a0 13)) a0 2 (cm_I (cm_sI w a0 1 (cm_I w a0 13)) a0 14)) a0 3 (cm_I (cm_sI (cm_sI w a0 1 (cm_I w a0 13)) a0 2 (cm_I (cm_sI w a0 1 (cm_I w a0 13)) a0 14)) a0 15)) a0 4 (cm_I (cm_sI (cm_sI (cm_sI w a0 1 (cm_I w a0 13)) a0 2 (cm_I (cm_sI w a0 1 (cm_I w a0 13)) a0 14)) a0 3 (cm_I (cm_sI (cm_sI w a0 1 (cm_I w a0 13)) a0 2 (cm_I (cm_sI w a0 1 (cm_I w a0 13)) a0 14)) a0 15)) a0 16)) a0 5 (cm_I (cm_sI (cm_sI (cm_sI (cm_sI w a0 1 (cm_I w a0 13)) a0 2 (cm_I (cm_sI w a0 1 (cm_I w a0 13)) a0 14)) a0 3 (cm_I (cm_sI (cm_sI w a0 1 (cm_I w a0 13)) a0 2 (cm_I (cm_sI w a0 1 (cm_I w a0 13)) a0 14)) a0 15)) a0 4 (cm_I (cm_sI (cm_sI (cm_sI w a0 1 (cm_I w a0 13)) a0 2 (cm_I (cm_sI w a0 1 (cm_I w a0 13)) a0 14)) a0 3 (cm_I (cm_sI (cm_sI w a0 1 (cm_I w a0 13)) a0 2 (cm_I (cm_sI w a0 1 (cm_I w a0 13)) a0 14)) a0 15)) a0 16)) a0 17)) a0 18), .ref a0] _ _
  refine sm_pI rfl h101 rfl h102 rfl ?_
  show sm _ _ _ _ 48 [(0, .ref a0)] [] _ _
  refine sm_seg 2 50 [(0, .ref a0)] [.ref a0, .ref a0] rfl ?_
  refine sm_gI rfl h101 rfl ?_
  show sm _ _ _ _ 53 [(0, .ref a0)] [.int (cm_I (cm_sI (cm_sI (cm_sI (cm_sI (cm_sI (cm_sI w a0 1 (cm_I w a0 13)) a0 2 (cm_I (cm_sI w a0 1 (cm_I w a0 13)) a0 14)) a0 3 (cm_I (cm_sI (cm_sI w a0 1 (cm_I w a0 13)) a0 2 (cm_I (cm_sI w a0 1 (cm_I w a0 13)) a0 14)) a0 15)) a0 4 (cm_I (cm_sI (cm_sI (cm_sI w a0 1 (cm_I w a0 13)) a0 2 (cm_I (cm_sI w a0 1 (cm_I w a0 13)) a0 14)) a0 3 (cm_I (cm_sI (cm_sI w a0 1 (cm_I w a0 13)) a0 2 (cm_I (cm_sI w a0 1 (cm_I w a0 13)) a0 14)) a0 15)) a0 16)) a0 5 (cm_I (cm_sI (cm_sI (cm_sI (cm_sI w a0 1 (cm_I w a0 13)) a0 2 (cm_I (cm_sI w a0 1 (cm_I w a0 13)) a0 14)) a0 3 (cm_I (cm_sI (cm_sI w a0 1 (cm_I w a0 13)) a0 2 (cm_I (cm_sI w a0 1 (cm_I w a0 13)) a0 14)) a0 15)) a0 4 (cm_I (cm_sI (cm_sI (cm_sI w a0 1 (cm_I w a0 13)) a0 2 (cm_I (cm_sI w a0 1 (cm_I w a0 13)) a0 14)) a0 3 (cm_I (cm_sI (cm_sI w a0 1 (cm_I w a0 13)) a0 2 (cm_I (cm_sI w a0 1 (cm_I w a0 13)) a0 14)) a0 15)) a0 16)) a0 17)) a0 6 (cm_I (cm_sI (cm_sI (cm_sI (cm_sI (cm_sI w a0 1 (cm_I w a0 13)) a0 2 (cm_I (cm_sI w a0 1 (cm_I w a0 13)) a0 14)) a0 3 (cm_I (cm_sI (cm_sI w a0 1 (cm_I w a0 13)) a0 2 (cm_I (cm_sI w a0 1 (cm_I w a0 13)) a0 14)) a0 15)) a0 4 (cm_I (cm_sI (cm_sI (cm_sI w a0 1 (cm_I w a0 13)) a0 2 (cm_I (cm_sI w a0 1 (cm_I w a0 13)) a0 14)) a0 3 (cm_I (cm_sI (cm_sI w a0 1 (cm_I w a0 13)) a0 2 (cm_I (cm_sI w a0 1 (cm_I w a0 13)) a0 14)) a0 15)) a0 16)) a0 5 (cm_I (cm_sI (cm_sI (cm_sI (cm_sI w a0 1 (cm_I w a0 13)) a0 2 (cm_I (cm_sI w a0 1 (cm_I w a0 13)) a0 14)) a0 3 (cm_I (cm_sI (cm_sI w a0 1 (cm_I w a0 13)) a0 2 (cm_I (cm_sI w a0 1 (cm_I w a0 13)) a0 14)) a0 15)) a0 4 (cm_I (cm_sI (cm_sI (cm_sI w a0 1 (cm_I w a0 13)) a0 2 (cm_I (cm_sI w a0 1 (cm_I w a0 13)) a0 14)) a0 3 (cm_I (cm_sI (cm_sI w a0 1 (cm_I w a0 13)) a0 2 (cm_I (cm_sI w a0 1 (cm_I w a0 13)) a0 14)) a0 15)) a0 16)) a0 17)) a0 18)) a0 19), .ref a0] _ _
  refine sm_pI rfl h101 rfl h102 rfl ?_
  show sm _ _ _ _ 56 [(0, .ref a0)] [] _ _
  refine sm_seg 2 58 [(0, .ref a0), (1, .int (0 : Int32))] [] rfl ?_
  exact jt_219_58  cm_N a0 (0 : Int32) (cm_sI (cm_sI (cm_sI (cm_sI (cm_sI (cm_sI (cm_sI w a0 1 (cm_I w a0 13)) a0 2 (cm_I (cm_sI w a0 1 (cm_I w a0 13)) a0 14)) a0 3 (cm_I (cm_sI (cm_sI w a0 1 (cm_I w a0 13)) a0 2 (cm_I (cm_sI w a0 1 (cm_I w a0 13)) a0 14)) a0 15)) a0 4 (cm_I (cm_sI (cm_sI (cm_sI w a0 1 (cm_I w a0 13)) a0 2 (cm_I (cm_sI w a0 1 (cm_I w a0 13)) a0 14)) a0 3 (cm_I (cm_sI (cm_sI w a0 1 (cm_I w a0 13)) a0 2 (cm_I (cm_sI w a0 1 (cm_I w a0 13)) a0 14)) a0 15)) a0 16)) a0 5 (cm_I (cm_sI (cm_sI (cm_sI (cm_sI w a0 1 (cm_I w a0 13)) a0 2 (cm_I (cm_sI w a0 1 (cm_I w a0 13)) a0 14)) a0 3 (cm_I (cm_sI (cm_sI w a0 1 (cm_I w a0 13)) a0 2 (cm_I (cm_sI w a0 1 (cm_I w a0 13)) a0 14)) a0 15)) a0 4 (cm_I (cm_sI (cm_sI (cm_sI w a0 1 (cm_I w a0 13)) a0 2 (cm_I (cm_sI w a0 1 (cm_I w a0 13)) a0 14)) a0 3 (cm_I (cm_sI (cm_sI w a0 1 (cm_I w a0 13)) a0 2 (cm_I (cm_sI w a0 1 (cm_I w a0 13)) a0 14)) a0 15)) a0 16)) a0 17)) a0 6 (cm_I (cm_sI (cm_sI (cm_sI (cm_sI (cm_sI w a0 1 (cm_I w a0 13)) a0 2 (cm_I (cm_sI w a0 1 (cm_I w a0 13)) a0 14)) a0 3 (cm_I (cm_sI (cm_sI w a0 1 (cm_I w a0 13)) a0 2 (cm_I (cm_sI w a0 1 (cm_I w a0 13)) a0 14)) a0 15)) a0 4 (cm_I (cm_sI (cm_sI (cm_sI w a0 1 (cm_I w a0 13)) a0 2 (cm_I (cm_sI w a0 1 (cm_I w a0 13)) a0 14)) a0 3 (cm_I (cm_sI (cm_sI w a0 1 (cm_I w a0 13)) a0 2 (cm_I (cm_sI w a0 1 (cm_I w a0 13)) a0 14)) a0 15)) a0 16)) a0 5 (cm_I (cm_sI (cm_sI (cm_sI (cm_sI w a0 1 (cm_I w a0 13)) a0 2 (cm_I (cm_sI w a0 1 (cm_I w a0 13)) a0 14)) a0 3 (cm_I (cm_sI (cm_sI w a0 1 (cm_I w a0 13)) a0 2 (cm_I (cm_sI w a0 1 (cm_I w a0 13)) a0 14)) a0 15)) a0 4 (cm_I (cm_sI (cm_sI (cm_sI w a0 1 (cm_I w a0 13)) a0 2 (cm_I (cm_sI w a0 1 (cm_I w a0 13)) a0 14)) a0 3 (cm_I (cm_sI (cm_sI w a0 1 (cm_I w a0 13)) a0 2 (cm_I (cm_sI w a0 1 (cm_I w a0 13)) a0 14)) a0 15)) a0 16)) a0 17)) a0 18)) a0 7 (cm_I (cm_sI (cm_sI (cm_sI (cm_sI (cm_sI (cm_sI w a0 1 (cm_I w a0 13)) a0 2 (cm_I (cm_sI w a0 1 (cm_I w a0 13)) a0 14)) a0 3 (cm_I (cm_sI (cm_sI w a0 1 (cm_I w a0 13)) a0 2 (cm_I (cm_sI w a0 1 (cm_I w a0 13)) a0 14)) a0 15)) a0 4 (cm_I (cm_sI (cm_sI (cm_sI w a0 1 (cm_I w a0 13)) a0 2 (cm_I (cm_sI w a0 1 (cm_I w a0 13)) a0 14)) a0 3 (cm_I (cm_sI (cm_sI w a0 1 (cm_I w a0 13)) a0 2 (cm_I (cm_sI w a0 1 (cm_I w a0 13)) a0 14)) a0 15)) a0 16)) a0 5 (cm_I (cm_sI (cm_sI (cm_sI (cm_sI w a0 1 (cm_I w a0 13)) a0 2 (cm_I (cm_sI w a0 1 (cm_I w a0 13)) a0 14)) a0 3 (cm_I (cm_sI (cm_sI w a0 1 (cm_I w a0 13)) a0 2 (cm_I (cm_sI w a0 1 (cm_I w a0 13)) a0 14)) a0 15)) a0 4 (cm_I (cm_sI (cm_sI (cm_sI w a0 1 (cm_I w a0 13)) a0 2 (cm_I (cm_sI w a0 1 (cm_I w a0 13)) a0 14)) a0 3 (cm_I (cm_sI (cm_sI w a0 1 (cm_I w a0 13)) a0 2 (cm_I (cm_sI w a0 1 (cm_I w a0 13)) a0 14)) a0 15)) a0 16)) a0 17)) a0 6 (cm_I (cm_sI (cm_sI (cm_sI (cm_sI (cm_sI w a0 1 (cm_I w a0 13)) a0 2 (cm_I (cm_sI w a0 1 (cm_I w a0 13)) a0 14)) a0 3 (cm_I (cm_sI (cm_sI w a0 1 (cm_I w a0 13)) a0 2 (cm_I (cm_sI w a0 1 (cm_I w a0 13)) a0 14)) a0 15)) a0 4 (cm_I (cm_sI (cm_sI (cm_sI w a0 1 (cm_I w a0 13)) a0 2 (cm_I (cm_sI w a0 1 (cm_I w a0 13)) a0 14)) a0 3 (cm_I (cm_sI (cm_sI w a0 1 (cm_I w a0 13)) a0 2 (cm_I (cm_sI w a0 1 (cm_I w a0 13)) a0 14)) a0 15)) a0 16)) a0 5 (cm_I (cm_sI (cm_sI (cm_sI (cm_sI w a0 1 (cm_I w a0 13)) a0 2 (cm_I (cm_sI w a0 1 (cm_I w a0 13)) a0 14)) a0 3 (cm_I (cm_sI (cm_sI w a0 1 (cm_I w a0 13)) a0 2 (cm_I (cm_sI w a0 1 (cm_I w a0 13)) a0 14)) a0 15)) a0 4 (cm_I (cm_sI (cm_sI (cm_sI w a0 1 (cm_I w a0 13)) a0 2 (cm_I (cm_sI w a0 1 (cm_I w a0 13)) a0 14)) a0 3 (cm_I (cm_sI (cm_sI w a0 1 (cm_I w a0 13)) a0 2 (cm_I (cm_sI w a0 1 (cm_I w a0 13)) a0 14)) a0 15)) a0 16)) a0 17)) a0 18)) a0 19))
theorem ca_219 (a0 : Nat) (w : cm_W) : cm_ca cm_g 219 [.ref a0] w ((fn_219 a0 w).map cm_gV) := cm_ca_of (cm_me_of rfl rfl) rfl (jt_219_0 a0 w)
-- NailedBoxesModel.village(I)I
def fn_220_100 (a0 : Nat) (w : cm_W) : Option (Int32 × cm_W) := (if cm_sh w a0 = some (.inl 11) then (fn_219 a0 w).bind fun w2 => (if cm_sh w2 a0 = some (.inl 11) then some ((cm_I w2 a0 4), w2) else none) else none)
theorem jt_220_100 (a0 : Nat) (w : cm_W) : sm cm_g 220 ck_220 kq_220 100 [(0, .ref a0)] [] w ((fn_220_100 a0 w).map cm_gI) := by
  unfold fn_220_100
  refine sm_seg 1 101 [(0, .ref a0)] [.ref a0] rfl ?_
  refine sm_gd fun h1 => ?_
  refine sm_cV (as := []) (rest := []) rfl rfl rfl rfl h1 (Nat.le_of_ble_eq_true rfl) (ca_219  a0 w) fun w2 h3 => ?_
  show sm _ _ _ _ 104 [(0, .ref a0)] [] _ _
  refine sm_seg 1 105 [(0, .ref a0)] [.ref a0] rfl ?_
  refine sm_gd fun h4 => ?_
  refine sm_gI rfl h4 rfl ?_
  show sm _ _ _ _ 108 [(0, .ref a0)] [.int (cm_I w2 a0 4)] _ _
  exact sm_rIW rfl rfl
def fn_220_73 (a0 : Nat) (i2 : Int32) (w : cm_W) : Option (Int32 × cm_W) := (if i2 = 0 then (if cm_sh w a0 = some (.inl 11) then (if cm_w2 96 143 a0 = true then (if ¬ i2 = 0 then fn_220_100  a0 (cm_sI w a0 12 (cm_I w a0 11)) else (fn_199 a0 (2 : Int32) (-1 : Int32) (cm_sI w a0 12 (cm_I w a0 11))).bind fun v9 => some (v9.1, v9.2)) else none) else none) else (if cm_sh w a0 = some (.inl 11) then (if cm_w2 96 143 a0 = true then (if ¬ i2 = 0 then fn_220_100  a0 (cm_sI w a0 12 (-1 : Int32)) else (fn_199 a0 (2 : Int32) (-1 : Int32) (cm_sI w a0 12 (-1 : Int32))).bind fun v14 => some (v14.1, v14.2)) else none) else none))
theorem jt_220_73 (a0 : Nat) (i2 : Int32) (w : cm_W) : sm cm_g 220 ck_220 kq_220 73 [(0, .ref a0), (2, .int i2)] [] w ((fn_220_73 a0 i2 w).map cm_gI) := by
  unfold fn_220_73
  refine sm_seg 2 75 [(0, .ref a0), (2, .int i2)] [.int i2, .ref a0] rfl ?_
  refine sm_if (pc1 := 82) (lv1 := [(0, .ref a0), (2, .int i2)]) (pc2 := 78) (lv2 := [(0, .ref a0), (2, .int i2)]) (st1 := [.ref a0]) rfl rfl rfl (fun h5 => ?_) (fun h5 => ?_)
  · refine sm_seg 1 83 [(0, .ref a0), (2, .int i2)] [.ref a0, .ref a0] rfl ?_
    refine sm_gd fun h6 => ?_
    refine sm_gI rfl h6 rfl ?_
    show sm _ _ _ _ 86 [(0, .ref a0), (2, .int i2)] [.int (cm_I w a0 11), .ref a0] _ _
    refine sm_gd fun h7 => ?_
    refine sm_pI rfl h6 rfl h7 rfl ?_
    show sm _ _ _ _ 89 [(0, .ref a0), (2, .int i2)] [] _ _
    refine sm_seg 1 90 [(0, .ref a0), (2, .int i2)] [.int i2] rfl ?_
    refine sm_if (pc1 := 100) (lv1 := [(0, .ref a0)]) (pc2 := 93) (lv2 := [(0, .ref a0), (2, .int i2)]) (st1 := []) rfl rfl rfl (fun h8 => ?_) (fun h8 => ?_)
    · exact jt_220_100  a0 (cm_sI w a0 12 (cm_I w a0 11))
    · refine sm_seg 3 96 [(0, .ref a0), (2, .int i2)] [.int (-1 : Int32), .int (2 : Int32), .ref a0] rfl ?_
      refine sm_cV (as := [.int (2 : Int32), .int (-1 : Int32)]) (rest := []) rfl rfl rfl rfl h6 (Nat.le_of_ble_eq_true rfl) (ca_199  a0 (2 : Int32) (-1 : Int32) (cm_sI w a0 12 (cm_I w a0 11))) fun v9 h10 => ?_
      show sm _ _ _ _ 99 [(0, .ref a0), (2, .int i2)] [.int v9.1] _ _
      exact sm_rIW rfl rfl
  · refine sm_seg 2 86 [(0, .ref a0), (2, .int i2)] [.int (-1 : Int32), .ref a0] rfl ?_
    refine sm_gd fun h11 => ?_
    refine sm_gd fun h12 => ?_
    refine sm_pI rfl h11 rfl h12 rfl ?_
    show sm _ _ _ _ 89 [(0, .ref a0), (2, .int i2)] [] _ _
    refine sm_seg 1 90 [(0, .ref a0), (2, .int i2)] [.int i2] rfl ?_
    refine sm_if (pc1 := 100) (lv1 := [(0, .ref a0)]) (pc2 := 93) (lv2 := [(0, .ref a0), (2, .int i2)]) (st1 := []) rfl rfl rfl (fun h13 => ?_) (fun h13 => ?_)
    · exact jt_220_100  a0 (cm_sI w a0 12 (-1 : Int32))
    · refine sm_seg 3 96 [(0, .ref a0), (2, .int i2)] [.int (-1 : Int32), .int (2 : Int32), .ref a0] rfl ?_
      refine sm_cV (as := [.int (2 : Int32), .int (-1 : Int32)]) (rest := []) rfl rfl rfl rfl h11 (Nat.le_of_ble_eq_true rfl) (ca_199  a0 (2 : Int32) (-1 : Int32) (cm_sI w a0 12 (-1 : Int32))) fun v14 h15 => ?_
      show sm _ _ _ _ 99 [(0, .ref a0), (2, .int i2)] [.int v14.1] _ _
      exact sm_rIW rfl rfl
def fn_220_45 (a0 : Nat) (i1 : Int32) (w : cm_W) : Option (Int32 × cm_W) := (if cm_sh w a0 = some (.inl 11) then (if cm_w2 96 143 a0 = true then (fn_218 a0 (cm_sI (cm_sI (cm_sI w a0 10 i1) a0 9 (0 : Int32)) a0 11 (0 : Int32))).bind fun v18 => (if ¬ (cm_b v18.1) = 0 then fn_220_73  a0 (cm_b v18.1) v18.2 else (if cm_sh v18.2 a0 = some (.inl 11) then (fn_202 a0 v18.2).bind fun w22 => fn_220_73  a0 (cm_b v18.1) w22 else none)) else none) else none)
theorem jt_220_45 (a0 : Nat) (i1 : Int32) (w : cm_W) : sm cm_g 220 ck_220 kq_220 45 [(0, .ref a0), (1, .int i1)] [] w ((fn_220_45 a0 i1 w).map cm_gI) := by
  unfold fn_220_45
  refine sm_seg 2 47 [(0, .ref a0), (1, .int i1)] [.int i1, .ref a0] rfl ?_
  refine sm_gd fun h16 => ?_
  refine sm_gd fun h17 => ?_
  refine sm_pI rfl h16 rfl h17 rfl ?_
  show sm _ _ _ _ 50 [(0, .ref a0), (1, .int i1)] [] _ _
  refine sm_seg 2 52 [(0, .ref a0), (1, .int i1)] [.int (0 : Int32), .ref a0] rfl ?_
  refine sm_pI rfl h16 rfl h17 rfl ?_
  show sm _ _ _ _ 55 [(0, .ref a0), (1, .int i1)] [] _ _
  refine sm_seg 2 57 [(0, .ref a0), (1, .int i1)] [.int (0 : Int32), .ref a0] rfl ?_
  refine sm_pI rfl h16 rfl h17 rfl ?_
  show sm _ _ _ _ 60 [(0, .ref a0), (1, .int i1)] [] _ _
  refine sm_seg 1 61 [(0, .ref a0), (1, .int i1)] [.ref a0] rfl ?_
  refine sm_cV (as := []) (rest := []) rfl rfl rfl rfl h16 (Nat.le_of_ble_eq_true rfl) (ca_218  a0 (cm_sI (cm_sI (cm_sI w a0 10 i1) a0 9 (0 : Int32)) a0 11 (0 : Int32))) fun v18 h19 => ?_
  show sm _ _ _ _ 64 [(0, .ref a0), (1, .int i1)] [.int (cm_b v18.1)] _ _
  refine sm_seg 2 66 [(2, .int (cm_b v18.1)), (0, .ref a0), (1, .int i1)] [.int (cm_b v18.1)] rfl ?_
  refine sm_if (pc1 := 73) (lv1 := [(0, .ref a0), (2, .int (cm_b v18.1))]) (pc2 := 69) (lv2 := [(2, .int (cm_b v18.1)), (0, .ref a0), (1, .int i1)]) (st1 := []) rfl rfl rfl (fun h20 => ?_) (fun h20 => ?_)
  · exact jt_220_73  a0 (cm_b v18.1) v18.2
  · refine sm_seg 1 70 [(2, .int (cm_b v18.1)), (0, .ref a0), (1, .int i1)] [.ref a0] rfl ?_
    refine sm_gd fun h21 => ?_
    refine sm_cV (as := []) (rest := []) rfl rfl rfl rfl h21 (Nat.le_of_ble_eq_true rfl) (ca_202  a0 v18.2) fun w22 h23 => ?_
    show sm _ _ _ _ 73 [(0, .ref a0), (2, .int (cm_b v18.1))] [] _ _
    exact jt_220_73  a0 (cm_b v18.1) w22
def fn_220_22 : Nat → Nat → Int32 → Int32 → cm_W → Option (Int32 × cm_W)
  | 0, _, _, _, _ => none
  | n + 1, a0, i1, i2, w => (if i1 ≤ i2 then fn_220_45  a0 i1 w else (if cm_sh w a0 = some (.inl 11) then (cm_R w a0 35).bind fun r26 => (cm_R w a0 34).bind fun r28 => (if cm_ga w .byte r28 i2 = true then (if 2 ≤ r28 then (if cm_ga w .byte r26 i2 = true then (if cm_w2 96 143 r26 = true then fn_220_22 n a0 i1 (i2 + (1 : Int32)) (cm_sI w r26 i2.toNatClampNeg (vp_nar .byte (cm_I w r28 i2.toNatClampNeg))) else none) else none) else none) else none) else none))
theorem jt_220_22 : ∀ (n : Nat) (a0 : Nat) (i1 : Int32) (i2 : Int32) (w : cm_W), sm cm_g 220 ck_220 kq_220 22 [(0, .ref a0), (1, .int i1), (2, .int i2)] [] w ((fn_220_22 n a0 i1 i2 w).map cm_gI) := by
  intro n
  induction n with
  | zero => intro a0 i1 i2 w; exact sm_no
  | succ n ih =>
    intro a0 i1 i2 w
    rw [fn_220_22]
    refine sm_seg 2 24 [(0, .ref a0), (1, .int i1), (2, .int i2)] [.int i1, .int i2] rfl ?_
    refine sm_if (pc1 := 45) (lv1 := [(0, .ref a0), (1, .int i1)]) (pc2 := 27) (lv2 := [(0, .ref a0), (1, .int i1), (2, .int i2)]) (st1 := []) rfl rfl rfl (fun h24 => ?_) (fun h24 => ?_)
    · exact jt_220_45  a0 i1 w
    · refine sm_seg 1 28 [(0, .ref a0), (1, .int i1), (2, .int i2)] [.ref a0] rfl ?_
      refine sm_gd fun h25 => ?_
      refine sm_gR rfl h25 rfl rfl fun r26 h27 => ?_
      show sm _ _ _ _ 31 [(0, .ref a0), (1, .int i1), (2, .int i2)] [.ref r26] _ _
      refine sm_seg 2 33 [(0, .ref a0), (1, .int i1), (2, .int i2)] [.ref a0, .int i2, .ref r26] rfl ?_
      refine sm_gR rfl h25 rfl rfl fun r28 h29 => ?_
      show sm _ _ _ _ 36 [(0, .ref a0), (1, .int i1), (2, .int i2)] [.ref r28, .int i2, .ref r26] _ _
      refine sm_seg 1 37 [(0, .ref a0), (1, .int i1), (2, .int i2)] [.int i2, .ref r28, .int i2, .ref r26] rfl ?_
      refine sm_gd fun h30 => ?_
      refine sm_gd fun h31 => ?_
      refine sm_ab rfl h30 h31 rfl ?_
      show sm _ _ _ _ 38 [(0, .ref a0), (1, .int i1), (2, .int i2)] [.int (cm_I w r28 i2.toNatClampNeg), .int i2, .ref r26] _ _
      refine sm_gd fun h32 => ?_
      refine sm_gd fun h33 => ?_
      refine sm_sb rfl h32 h33 rfl rfl ?_
      show sm _ _ _ _ 39 [(0, .ref a0), (1, .int i1), (2, .int i2)] [] _ _
      refine sm_seg 2 22 [(0, .ref a0), (1, .int i1), (2, .int (i2 + (1 : Int32)))] [] rfl ?_
      exact ih a0 i1 (i2 + (1 : Int32)) (cm_sI w r26 i2.toNatClampNeg (vp_nar .byte (cm_I w r28 i2.toNatClampNeg)))
def fn_220_20 (a0 : Nat) (i1 : Int32) (w : cm_W) : Option (Int32 × cm_W) := fn_220_22  cm_N a0 i1 (0 : Int32) w
theorem jt_220_20 (a0 : Nat) (i1 : Int32) (w : cm_W) : sm cm_g 220 ck_220 kq_220 20 [(0, .ref a0), (1, .int i1)] [] w ((fn_220_20 a0 i1 w).map cm_gI) := by
  unfold fn_220_20
  refine sm_seg 2 22 [(0, .ref a0), (1, .int i1), (2, .int (0 : Int32))] [] rfl ?_
  exact jt_220_22  cm_N a0 i1 (0 : Int32) w
def fn_220 (a0 : Nat) (i1 : Int32) (w : cm_W) : Option (Int32 × cm_W) := (if cm_sh w a0 = some (.inl 11) then (fn_194 w i1 (0 : Int32) (cm_I w a0 9)).bind fun v35 => (if ¬ (cm_b v35) = 0 then fn_220_20  a0 i1 w else (fn_199 a0 (0 : Int32) (-2 : Int32) w).bind fun v38 => some (v38.1, v38.2)) else none)
theorem jt_220_0 (a0 : Nat) (i1 : Int32) (w : cm_W) : sm cm_g 220 ck_220 kq_220 0 [(0, .ref a0), (1, .int i1)] [] w ((fn_220 a0 i1 w).map cm_gI) := by
  unfold fn_220
  refine sm_seg 3 3 [(0, .ref a0), (1, .int i1)] [.ref a0, .int (0 : Int32), .int i1] rfl ?_
  refine sm_gd fun h34 => ?_
  refine sm_gI rfl h34 rfl ?_
  show sm _ _ _ _ 6 [(0, .ref a0), (1, .int i1)] [.int (cm_I w a0 9), .int (0 : Int32), .int i1] _ _
  refine sm_cS (av := [.int i1, .int (0 : Int32), .int (cm_I w a0 9)]) (rest := []) rfl rfl rfl rfl (Nat.le_of_ble_eq_true rfl) (ca_194 w i1 (0 : Int32) (cm_I w a0 9)) fun v35 h36 => ?_
  show sm _ _ _ _ 9 [(0, .ref a0), (1, .int i1)] [.int (cm_b v35)] _ _
  refine sm_if (pc1 := 20) (lv1 := [(0, .ref a0), (1, .int i1)]) (pc2 := 12) (lv2 := [(0, .ref a0), (1, .int i1)]) (st1 := []) rfl rfl rfl (fun h37 => ?_) (fun h37 => ?_)
  · exact jt_220_20  a0 i1 w
  · refine sm_seg 3 16 [(0, .ref a0), (1, .int i1)] [.int (-2 : Int32), .int (0 : Int32), .ref a0] rfl ?_
    refine sm_cV (as := [.int (0 : Int32), .int (-2 : Int32)]) (rest := []) rfl rfl rfl rfl h34 (Nat.le_of_ble_eq_true rfl) (ca_199  a0 (0 : Int32) (-2 : Int32) w) fun v38 h39 => ?_
    show sm _ _ _ _ 19 [(0, .ref a0), (1, .int i1)] [.int v38.1] _ _
    exact sm_rIW rfl rfl
theorem ca_220 (a0 : Nat) (i1 : Int32) (w : cm_W) : cm_ca cm_g 220 [.ref a0, .int i1] w ((fn_220 a0 i1 w).map cm_gI) := cm_ca_of (cm_me_of rfl rfl) rfl (jt_220_0 a0 i1 w)
-- NailedBoxesModel.fault()I
def fn_221 (w : cm_W) (a0 : Nat) : Option Int32 := (if cm_sh w a0 = some (.inl 11) then some (cm_I w a0 12) else none)
theorem jt_221_0 (w : cm_W) (a0 : Nat) : sm cm_g 221 ck_221 kq_221 0 [(0, .ref a0)] [] w ((fn_221 w a0).map (cm_fI w)) := by
  unfold fn_221
  refine sm_seg 1 1 [(0, .ref a0)] [.ref a0] rfl ?_
  refine sm_gd fun h1 => ?_
  refine sm_gI rfl h1 rfl ?_
  show sm _ _ _ _ 4 [(0, .ref a0)] [.int (cm_I w a0 12)] _ _
  exact sm_rI rfl rfl
theorem ca_221 (w : cm_W) (a0 : Nat) : cm_ca cm_g 221 [.ref a0] w ((fn_221 w a0).map (cm_fI w)) := cm_ca_of (cm_me_of rfl rfl) rfl (jt_221_0 w a0)
-- NailedBoxesModel.worthOf(II)I
def fn_222 (w : cm_W) (a0 : Nat) (i1 : Int32) (i2 : Int32) : Option Int32 := (if cm_sh w a0 = some (.inl 11) then (cm_R w a0 22).bind fun r2 => (if cm_ga w .int r2 i1 = true then (cm_R w a0 25).bind fun r5 => (if cm_ga w .int r5 i1 = true then some (if (0 : Int32) < ((cm_I w r2 i1.toNatClampNeg) - ((cm_I w r5 i1.toNatClampNeg) * i2)) then ((cm_I w r2 i1.toNatClampNeg) - ((cm_I w r5 i1.toNatClampNeg) * i2)) else (0 : Int32)) else none) else none) else none)
theorem jt_222_0 (w : cm_W) (a0 : Nat) (i1 : Int32) (i2 : Int32) : sm cm_g 222 ck_222 kq_222 0 [(0, .ref a0), (1, .int i1), (2, .int i2)] [] w ((fn_222 w a0 i1 i2).map (cm_fI w)) := by
  unfold fn_222
  refine sm_seg 2 2 [(0, .ref a0), (1, .int i1), (2, .int i2)] [.ref a0, .int (0 : Int32)] rfl ?_
  refine sm_gd fun h1 => ?_
  refine sm_gR rfl h1 rfl rfl fun r2 h3 => ?_
  show sm _ _ _ _ 5 [(0, .ref a0), (1, .int i1), (2, .int i2)] [.ref r2, .int (0 : Int32)] _ _
  refine sm_seg 1 6 [(0, .ref a0), (1, .int i1), (2, .int i2)] [.int i1, .ref r2, .int (0 : Int32)] rfl ?_
  refine sm_gd fun h4 => ?_
  refine sm_ai rfl h4 rfl ?_
  show sm _ _ _ _ 7 [(0, .ref a0), (1, .int i1), (2, .int i2)] [.int (cm_I w r2 i1.toNatClampNeg), .int (0 : Int32)] _ _
  refine sm_seg 1 8 [(0, .ref a0), (1, .int i1), (2, .int i2)] [.ref a0, .int (cm_I w r2 i1.toNatClampNeg), .int (0 : Int32)] rfl ?_
  refine sm_gR rfl h1 rfl rfl fun r5 h6 => ?_
  show sm _ _ _ _ 11 [(0, .ref a0), (1, .int i1), (2, .int i2)] [.ref r5, .int (cm_I w r2 i1.toNatClampNeg), .int (0 : Int32)] _ _
  refine sm_seg 1 12 [(0, .ref a0), (1, .int i1), (2, .int i2)] [.int i1, .ref r5, .int (cm_I w r2 i1.toNatClampNeg), .int (0 : Int32)] rfl ?_
  refine sm_gd fun h7 => ?_
  refine sm_ai rfl h7 rfl ?_
  show sm _ _ _ _ 13 [(0, .ref a0), (1, .int i1), (2, .int i2)] [.int (cm_I w r5 i1.toNatClampNeg), .int (cm_I w r2 i1.toNatClampNeg), .int (0 : Int32)] _ _
  refine sm_seg 3 16 [(0, .ref a0), (1, .int i1), (2, .int i2)] [.int ((cm_I w r2 i1.toNatClampNeg) - ((cm_I w r5 i1.toNatClampNeg) * i2)), .int (0 : Int32)] rfl ?_
  refine sm_at rfl rfl rfl ?_
  show sm _ _ _ _ 19 [(0, .ref a0), (1, .int i1), (2, .int i2)] [.int (if (0 : Int32) < ((cm_I w r2 i1.toNatClampNeg) - ((cm_I w r5 i1.toNatClampNeg) * i2)) then ((cm_I w r2 i1.toNatClampNeg) - ((cm_I w r5 i1.toNatClampNeg) * i2)) else (0 : Int32))] _ _
  exact sm_rI rfl rfl
theorem ca_222 (w : cm_W) (a0 : Nat) (i1 : Int32) (i2 : Int32) : cm_ca cm_g 222 [.ref a0, .int i1, .int i2] w ((fn_222 w a0 i1 i2).map (cm_fI w)) := cm_ca_of (cm_me_of rfl rfl) rfl (jt_222_0 w a0 i1 i2)
-- NailedBoxesModel.keptOf(II)I
def fn_223 (w : cm_W) (a0 : Nat) (i1 : Int32) (i2 : Int32) : Option Int32 := (if cm_sh w a0 = some (.inl 11) then (fn_222 w a0 i1 i2).bind fun v2 => some ((v2 * (cm_I w a0 5)) / (10 : Int32)) else none)
theorem jt_223_0 (w : cm_W) (a0 : Nat) (i1 : Int32) (i2 : Int32) : sm cm_g 223 ck_223 kq_223 0 [(0, .ref a0), (1, .int i1), (2, .int i2)] [] w ((fn_223 w a0 i1 i2).map (cm_fI w)) := by
  unfold fn_223
  refine sm_seg 3 3 [(0, .ref a0), (1, .int i1), (2, .int i2)] [.int i2, .int i1, .ref a0] rfl ?_
  refine sm_gd fun h1 => ?_
  refine sm_cV (as := [.int i1, .int i2]) (rest := []) rfl rfl rfl rfl h1 (Nat.le_of_ble_eq_true rfl) (ca_222 w a0 i1 i2) fun v2 h3 => ?_
  show sm _ _ _ _ 6 [(0, .ref a0), (1, .int i1), (2, .int i2)] [.int v2] _ _
  refine sm_seg 1 7 [(0, .ref a0), (1, .int i1), (2, .int i2)] [.ref a0, .int v2] rfl ?_
  refine sm_gI rfl h1 rfl ?_
  show sm _ _ _ _ 10 [(0, .ref a0), (1, .int i1), (2, .int i2)] [.int (cm_I w a0 5), .int v2] _ _
  refine sm_seg 3 14 [(0, .ref a0), (1, .int i1), (2, .int i2)] [.int ((v2 * (cm_I w a0 5)) / (10 : Int32))] rfl ?_
  exact sm_rI rfl rfl
theorem ca_223 (w : cm_W) (a0 : Nat) (i1 : Int32) (i2 : Int32) : cm_ca cm_g 223 [.ref a0, .int i1, .int i2] w ((fn_223 w a0 i1 i2).map (cm_fI w)) := cm_ca_of (cm_me_of rfl rfl) rfl (jt_223_0 w a0 i1 i2)
-- NailedBoxesModel.isThing(I)Z
def fn_224 (w : cm_W) (a0 : Nat) (i1 : Int32) : Option Bool := (if cm_sh w a0 = some (.inl 11) then (fn_194 w i1 (0 : Int32) ((cm_I w a0 1) - (1 : Int32))).bind fun v2 => some v2 else none)
theorem jt_224_0 (w : cm_W) (a0 : Nat) (i1 : Int32) : sm cm_g 224 ck_224 kq_224 0 [(0, .ref a0), (1, .int i1)] [] w ((fn_224 w a0 i1).map (cm_fB w)) := by
  unfold fn_224
  refine sm_seg 3 3 [(0, .ref a0), (1, .int i1)] [.ref a0, .int (0 : Int32), .int i1] rfl ?_
  refine sm_gd fun h1 => ?_
  refine sm_gI rfl h1 rfl ?_
  show sm _ _ _ _ 6 [(0, .ref a0), (1, .int i1)] [.int (cm_I w a0 1), .int (0 : Int32), .int i1] _ _
  refine sm_seg 2 8 [(0, .ref a0), (1, .int i1)] [.int ((cm_I w a0 1) - (1 : Int32)), .int (0 : Int32), .int i1] rfl ?_
  refine sm_cS (av := [.int i1, .int (0 : Int32), .int ((cm_I w a0 1) - (1 : Int32))]) (rest := []) rfl rfl rfl rfl (Nat.le_of_ble_eq_true rfl) (ca_194 w i1 (0 : Int32) ((cm_I w a0 1) - (1 : Int32))) fun v2 h3 => ?_
  show sm _ _ _ _ 11 [(0, .ref a0), (1, .int i1)] [.int (cm_b v2)] _ _
  exact sm_rB (b := v2) rfl rfl
theorem ca_224 (w : cm_W) (a0 : Nat) (i1 : Int32) : cm_ca cm_g 224 [.ref a0, .int i1] w ((fn_224 w a0 i1).map (cm_fB w)) := cm_ca_of (cm_me_of rfl rfl) rfl (jt_224_0 w a0 i1)
-- NailedBoxesModel.isWho(I)Z
def fn_225 (w : cm_W) (a0 : Nat) (i1 : Int32) : Option Bool := (if cm_sh w a0 = some (.inl 11) then (fn_194 w i1 (0 : Int32) ((cm_I w a0 2) - (1 : Int32))).bind fun v2 => some v2 else none)
theorem jt_225_0 (w : cm_W) (a0 : Nat) (i1 : Int32) : sm cm_g 225 ck_225 kq_225 0 [(0, .ref a0), (1, .int i1)] [] w ((fn_225 w a0 i1).map (cm_fB w)) := by
  unfold fn_225
  refine sm_seg 3 3 [(0, .ref a0), (1, .int i1)] [.ref a0, .int (0 : Int32), .int i1] rfl ?_
  refine sm_gd fun h1 => ?_
  refine sm_gI rfl h1 rfl ?_
  show sm _ _ _ _ 6 [(0, .ref a0), (1, .int i1)] [.int (cm_I w a0 2), .int (0 : Int32), .int i1] _ _
  refine sm_seg 2 8 [(0, .ref a0), (1, .int i1)] [.int ((cm_I w a0 2) - (1 : Int32)), .int (0 : Int32), .int i1] rfl ?_
  refine sm_cS (av := [.int i1, .int (0 : Int32), .int ((cm_I w a0 2) - (1 : Int32))]) (rest := []) rfl rfl rfl rfl (Nat.le_of_ble_eq_true rfl) (ca_194 w i1 (0 : Int32) ((cm_I w a0 2) - (1 : Int32))) fun v2 h3 => ?_
  show sm _ _ _ _ 11 [(0, .ref a0), (1, .int i1)] [.int (cm_b v2)] _ _
  exact sm_rB (b := v2) rfl rfl
theorem ca_225 (w : cm_W) (a0 : Nat) (i1 : Int32) : cm_ca cm_g 225 [.ref a0, .int i1] w ((fn_225 w a0 i1).map (cm_fB w)) := cm_ca_of (cm_me_of rfl rfl) rfl (jt_225_0 w a0 i1)
-- NailedBoxesModel.isMonth(I)Z
def fn_226 (w : cm_W) (i0 : Int32) : Option Bool := (fn_194 w i0 (0 : Int32) (5 : Int32)).bind fun v1 => some v1
theorem jt_226_0 (w : cm_W) (i0 : Int32) : sm cm_g 226 ck_226 kq_226 0 [(0, .int i0)] [] w ((fn_226 w i0).map (cm_fB w)) := by
  unfold fn_226
  refine sm_seg 3 3 [(0, .int i0)] [.int (5 : Int32), .int (0 : Int32), .int i0] rfl ?_
  refine sm_cS (av := [.int i0, .int (0 : Int32), .int (5 : Int32)]) (rest := []) rfl rfl rfl rfl (Nat.le_of_ble_eq_true rfl) (ca_194 w i0 (0 : Int32) (5 : Int32)) fun v1 h2 => ?_
  show sm _ _ _ _ 6 [(0, .int i0)] [.int (cm_b v1)] _ _
  exact sm_rB (b := v1) rfl rfl
theorem ca_226 (w : cm_W) (i0 : Int32) : cm_ca cm_g 226 [.int i0] w ((fn_226 w i0).map (cm_fB w)) := cm_ca_of (cm_me_of rfl rfl) rfl (jt_226_0 w i0)
-- NailedBoxesModel.thing(II)I
def fn_227_28 (w : cm_W) (a0 : Nat) (i1 : Int32) (i2 : Int32) : Option Int32 := (if ¬ i2 = (1 : Int32) then some (-1 : Int32) else (if cm_sh w a0 = some (.inl 11) then (cm_R w a0 24).bind fun r3 => (if cm_ga w .int r3 i1 = true then some (cm_I w r3 i1.toNatClampNeg) else none) else none))
theorem jt_227_28 (w : cm_W) (a0 : Nat) (i1 : Int32) (i2 : Int32) : sm cm_g 227 ck_227 kq_227 28 [(0, .ref a0), (1, .int i1), (2, .int i2)] [] w ((fn_227_28 w a0 i1 i2).map (cm_fI w)) := by
  unfold fn_227_28
  refine sm_seg 2 30 [(0, .ref a0), (1, .int i1), (2, .int i2)] [.int (1 : Int32), .int i2] rfl ?_
  refine sm_if (pc1 := 42) (lv1 := []) (pc2 := 33) (lv2 := [(0, .ref a0), (1, .int i1), (2, .int i2)]) (st1 := []) rfl rfl rfl (fun h1 => ?_) (fun h1 => ?_)
  · refine sm_seg 1 43 [] [.int (-1 : Int32)] rfl ?_
    exact sm_rI rfl rfl
  · refine sm_seg 1 34 [(0, .ref a0), (1, .int i1), (2, .int i2)] [.ref a0] rfl ?_
    refine sm_gd fun h2 => ?_
    refine sm_gR rfl h2 rfl rfl fun r3 h4 => ?_
    show sm _ _ _ _ 37 [(0, .ref a0), (1, .int i1), (2, .int i2)] [.ref r3] _ _
    refine sm_seg 1 38 [(0, .ref a0), (1, .int i1), (2, .int i2)] [.int i1, .ref r3] rfl ?_
    refine sm_gd fun h5 => ?_
    refine sm_ai rfl h5 rfl ?_
    show sm _ _ _ _ 39 [(0, .ref a0), (1, .int i1), (2, .int i2)] [.int (cm_I w r3 i1.toNatClampNeg)] _ _
    refine sm_seg 1 43 [] [.int (cm_I w r3 i1.toNatClampNeg)] rfl ?_
    exact sm_rI rfl rfl
def fn_227_67 (w : cm_W) (a0 : Nat) (i1 : Int32) (i2 : Int32) : Option Int32 := (fn_194 w i2 (20 : Int32) (25 : Int32)).bind fun v6 => (if (cm_b v6) = 0 then some (-1 : Int32) else (if cm_sh w a0 = some (.inl 11) then (fn_223 w a0 i1 (i2 - (20 : Int32))).bind fun v10 => some v10 else none))
theorem jt_227_67 (w : cm_W) (a0 : Nat) (i1 : Int32) (i2 : Int32) : sm cm_g 227 ck_227 kq_227 67 [(0, .ref a0), (1, .int i1), (2, .int i2)] [] w ((fn_227_67 w a0 i1 i2).map (cm_fI w)) := by
  unfold fn_227_67
  refine sm_seg 3 72 [(0, .ref a0), (1, .int i1), (2, .int i2)] [.int (25 : Int32), .int (20 : Int32), .int i2] rfl ?_
  refine sm_cS (av := [.int i2, .int (20 : Int32), .int (25 : Int32)]) (rest := []) rfl rfl rfl rfl (Nat.le_of_ble_eq_true rfl) (ca_194 w i2 (20 : Int32) (25 : Int32)) fun v6 h7 => ?_
  show sm _ _ _ _ 75 [(0, .ref a0), (1, .int i1), (2, .int i2)] [.int (cm_b v6)] _ _
  refine sm_if (pc1 := 90) (lv1 := []) (pc2 := 78) (lv2 := [(0, .ref a0), (1, .int i1), (2, .int i2)]) (st1 := []) rfl rfl rfl (fun h8 => ?_) (fun h8 => ?_)
  · refine sm_seg 1 91 [] [.int (-1 : Int32)] rfl ?_
    exact sm_rI rfl rfl
  · refine sm_seg 5 84 [(0, .ref a0), (1, .int i1), (2, .int i2)] [.int (i2 - (20 : Int32)), .int i1, .ref a0] rfl ?_
    refine sm_gd fun h9 => ?_
    refine sm_cV (as := [.int i1, .int (i2 - (20 : Int32))]) (rest := []) rfl rfl rfl rfl h9 (Nat.le_of_ble_eq_true rfl) (ca_223 w a0 i1 (i2 - (20 : Int32))) fun v10 h11 => ?_
    show sm _ _ _ _ 87 [(0, .ref a0), (1, .int i1), (2, .int i2)] [.int v10] _ _
    refine sm_seg 1 91 [] [.int v10] rfl ?_
    exact sm_rI rfl rfl
def fn_227_44 (w : cm_W) (a0 : Nat) (i1 : Int32) (i2 : Int32) : Option Int32 := (fn_194 w i2 (10 : Int32) (15 : Int32)).bind fun v12 => (if (cm_b v12) = 0 then fn_227_67 w a0 i1 i2 else (if cm_sh w a0 = some (.inl 11) then (fn_222 w a0 i1 (i2 - (10 : Int32))).bind fun v16 => some v16 else none))
theorem jt_227_44 (w : cm_W) (a0 : Nat) (i1 : Int32) (i2 : Int32) : sm cm_g 227 ck_227 kq_227 44 [(0, .ref a0), (1, .int i1), (2, .int i2)] [] w ((fn_227_44 w a0 i1 i2).map (cm_fI w)) := by
  unfold fn_227_44
  refine sm_seg 3 49 [(0, .ref a0), (1, .int i1), (2, .int i2)] [.int (15 : Int32), .int (10 : Int32), .int i2] rfl ?_
  refine sm_cS (av := [.int i2, .int (10 : Int32), .int (15 : Int32)]) (rest := []) rfl rfl rfl rfl (Nat.le_of_ble_eq_true rfl) (ca_194 w i2 (10 : Int32) (15 : Int32)) fun v12 h13 => ?_
  show sm _ _ _ _ 52 [(0, .ref a0), (1, .int i1), (2, .int i2)] [.int (cm_b v12)] _ _
  refine sm_if (pc1 := 67) (lv1 := [(0, .ref a0), (1, .int i1), (2, .int i2)]) (pc2 := 55) (lv2 := [(0, .ref a0), (1, .int i1), (2, .int i2)]) (st1 := []) rfl rfl rfl (fun h14 => ?_) (fun h14 => ?_)
  · exact jt_227_67 w a0 i1 i2
  · refine sm_seg 5 61 [(0, .ref a0), (1, .int i1), (2, .int i2)] [.int (i2 - (10 : Int32)), .int i1, .ref a0] rfl ?_
    refine sm_gd fun h15 => ?_
    refine sm_cV (as := [.int i1, .int (i2 - (10 : Int32))]) (rest := []) rfl rfl rfl rfl h15 (Nat.le_of_ble_eq_true rfl) (ca_222 w a0 i1 (i2 - (10 : Int32))) fun v16 h17 => ?_
    show sm _ _ _ _ 64 [(0, .ref a0), (1, .int i1), (2, .int i2)] [.int v16] _ _
    refine sm_seg 1 91 [] [.int v16] rfl ?_
    exact sm_rI rfl rfl
def fn_227_10 (w : cm_W) (a0 : Nat) (i1 : Int32) (i2 : Int32) : Option Int32 := (if (2 : Int32) ≤ i2 then fn_227_44 w a0 i1 i2 else (if ¬ i2 = 0 then fn_227_28 w a0 i1 i2 else (if cm_sh w a0 = some (.inl 11) then (cm_R w a0 23).bind fun r21 => (if cm_ga w .int r21 i1 = true then some (cm_I w r21 i1.toNatClampNeg) else none) else none)))
theorem jt_227_10 (w : cm_W) (a0 : Nat) (i1 : Int32) (i2 : Int32) : sm cm_g 227 ck_227 kq_227 10 [(0, .ref a0), (1, .int i1), (2, .int i2)] [] w ((fn_227_10 w a0 i1 i2).map (cm_fI w)) := by
  unfold fn_227_10
  refine sm_seg 2 12 [(0, .ref a0), (1, .int i1), (2, .int i2)] [.int (2 : Int32), .int i2] rfl ?_
  refine sm_if (pc1 := 44) (lv1 := [(0, .ref a0), (1, .int i1), (2, .int i2)]) (pc2 := 15) (lv2 := [(0, .ref a0), (1, .int i1), (2, .int i2)]) (st1 := []) rfl rfl rfl (fun h18 => ?_) (fun h18 => ?_)
  · exact jt_227_44 w a0 i1 i2
  · refine sm_seg 1 16 [(0, .ref a0), (1, .int i1), (2, .int i2)] [.int i2] rfl ?_
    refine sm_if (pc1 := 28) (lv1 := [(0, .ref a0), (1, .int i1), (2, .int i2)]) (pc2 := 19) (lv2 := [(0, .ref a0), (1, .int i1), (2, .int i2)]) (st1 := []) rfl rfl rfl (fun h19 => ?_) (fun h19 => ?_)
    · exact jt_227_28 w a0 i1 i2
    · refine sm_seg 1 20 [(0, .ref a0), (1, .int i1), (2, .int i2)] [.ref a0] rfl ?_
      refine sm_gd fun h20 => ?_
      refine sm_gR rfl h20 rfl rfl fun r21 h22 => ?_
      show sm _ _ _ _ 23 [(0, .ref a0), (1, .int i1), (2, .int i2)] [.ref r21] _ _
      refine sm_seg 1 24 [(0, .ref a0), (1, .int i1), (2, .int i2)] [.int i1, .ref r21] rfl ?_
      refine sm_gd fun h23 => ?_
      refine sm_ai rfl h23 rfl ?_
      show sm _ _ _ _ 25 [(0, .ref a0), (1, .int i1), (2, .int i2)] [.int (cm_I w r21 i1.toNatClampNeg)] _ _
      refine sm_seg 1 43 [] [.int (cm_I w r21 i1.toNatClampNeg)] rfl ?_
      exact sm_rI rfl rfl
def fn_227 (w : cm_W) (a0 : Nat) (i1 : Int32) (i2 : Int32) : Option Int32 := (if cm_sh w a0 = some (.inl 11) then (fn_224 w a0 i1).bind fun v25 => (if ¬ (cm_b v25) = 0 then fn_227_10 w a0 i1 i2 else some (-1 : Int32)) else none)
theorem jt_227_0 (w : cm_W) (a0 : Nat) (i1 : Int32) (i2 : Int32) : sm cm_g 227 ck_227 kq_227 0 [(0, .ref a0), (1, .int i1), (2, .int i2)] [] w ((fn_227 w a0 i1 i2).map (cm_fI w)) := by
  unfold fn_227
  refine sm_seg 2 2 [(0, .ref a0), (1, .int i1), (2, .int i2)] [.int i1, .ref a0] rfl ?_
  refine sm_gd fun h24 => ?_
  refine sm_cV (as := [.int i1]) (rest := []) rfl rfl rfl rfl h24 (Nat.le_of_ble_eq_true rfl) (ca_224 w a0 i1) fun v25 h26 => ?_
  show sm _ _ _ _ 5 [(0, .ref a0), (1, .int i1), (2, .int i2)] [.int (cm_b v25)] _ _
  refine sm_if (pc1 := 10) (lv1 := [(0, .ref a0), (1, .int i1), (2, .int i2)]) (pc2 := 8) (lv2 := [(0, .ref a0), (1, .int i1), (2, .int i2)]) (st1 := []) rfl rfl rfl (fun h27 => ?_) (fun h27 => ?_)
  · exact jt_227_10 w a0 i1 i2
  · refine sm_seg 1 9 [(0, .ref a0), (1, .int i1), (2, .int i2)] [.int (-1 : Int32)] rfl ?_
    exact sm_rI rfl rfl
theorem ca_227 (w : cm_W) (a0 : Nat) (i1 : Int32) (i2 : Int32) : cm_ca cm_g 227 [.ref a0, .int i1, .int i2] w ((fn_227 w a0 i1 i2).map (cm_fI w)) := cm_ca_of (cm_me_of rfl rfl) rfl (jt_227_0 w a0 i1 i2)
