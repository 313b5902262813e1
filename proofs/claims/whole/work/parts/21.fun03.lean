-- NailedBoxes.deny(I)Z
def fn_148 (a0 : Nat) (i1 : Int32) (w : cm_W) : Option (Bool × cm_W) := (if cm_sh w a0 = some (.inl 10) then (fn_140 a0 i1 w).bind fun v2 => some (false, v2.2) else none)
theorem jt_148_0 (a0 : Nat) (i1 : Int32) (w : cm_W) : sm cm_g 148 ck_148 kq_148 0 [(0, .ref a0), (1, .int i1)] [] w ((fn_148 a0 i1 w).map cm_gB) := by
  unfold fn_148
  refine sm_seg 2 2 [(0, .ref a0), (1, .int i1)] [.int i1, .ref a0] rfl ?_
  refine sm_gd fun h1 => ?_
  refine sm_cV (as := [.int i1]) (rest := []) rfl rfl rfl rfl h1 (Nat.le_of_ble_eq_true rfl) (ca_140  a0 i1 w) fun v2 h3 => ?_
  show sm _ _ _ _ 5 [(0, .ref a0), (1, .int i1)] [.int v2.1] _ _
  refine sm_seg 2 7 [(0, .ref a0), (1, .int i1)] [.int (0 : Int32)] rfl ?_
  exact sm_rBW (b := false) rfl rfl
theorem ca_148 (a0 : Nat) (i1 : Int32) (w : cm_W) : cm_ca cm_g 148 [.ref a0, .int i1] w ((fn_148 a0 i1 w).map cm_gB) := cm_ca_of (cm_me_of rfl rfl) rfl (jt_148_0 a0 i1 w)
-- NailedBoxes.into(II)Z
def fn_149_69 (a0 : Nat) (i1 : Int32) (i2 : Int32) (w : cm_W) : Option (Bool × cm_W) := (if cm_sh w a0 = some (.inl 10) then (cm_R w a0 5).bind fun r2 => (if cm_sh w r2 = some (.inl 6) then (cm_R w r2 0).bind fun r5 => (if cm_sh w r5 = some (.inl 7) then (fn_99 r5 i1 (3 : Int32) i2 w).bind fun w8 => some (true, w8) else none) else none) else none)
theorem jt_149_69 (a0 : Nat) (i1 : Int32) (i2 : Int32) (w : cm_W) : sm cm_g 149 ck_149 kq_149 69 [(0, .ref a0), (1, .int i1), (2, .int i2)] [] w ((fn_149_69 a0 i1 i2 w).map cm_gB) := by
  unfold fn_149_69
  refine sm_seg 1 70 [(0, .ref a0), (1, .int i1), (2, .int i2)] [.ref a0] rfl ?_
  refine sm_gd fun h1 => ?_
  refine sm_gR rfl h1 rfl rfl fun r2 h3 => ?_
  show sm _ _ _ _ 73 [(0, .ref a0), (1, .int i1), (2, .int i2)] [.ref r2] _ _
  refine sm_gd fun h4 => ?_
  refine sm_gR rfl h4 rfl rfl fun r5 h6 => ?_
  show sm _ _ _ _ 76 [(0, .ref a0), (1, .int i1), (2, .int i2)] [.ref r5] _ _
  refine sm_seg 3 79 [(0, .ref a0), (1, .int i1), (2, .int i2)] [.int i2, .int (3 : Int32), .int i1, .ref r5] rfl ?_
  refine sm_gd fun h7 => ?_
  refine sm_cV (as := [.int i1, .int (3 : Int32), .int i2]) (rest := []) rfl rfl rfl rfl h7 (Nat.le_of_ble_eq_true rfl) (ca_99  r5 i1 (3 : Int32) i2 w) fun w8 h9 => ?_
  show sm _ _ _ _ 82 [(0, .ref a0), (1, .int i1), (2, .int i2)] [] _ _
  refine sm_seg 1 83 [(0, .ref a0), (1, .int i1), (2, .int i2)] [.int (1 : Int32)] rfl ?_
  exact sm_rBW (b := true) rfl rfl
def fn_149_57 (a0 : Nat) (i1 : Int32) (i2 : Int32) (w : cm_W) : Option (Bool × cm_W) := (if cm_sh w a0 = some (.inl 10) then (fn_148 a0 (0 : Int32) w).bind fun v11 => some (v11.1, v11.2) else none)
theorem jt_149_57 (a0 : Nat) (i1 : Int32) (i2 : Int32) (w : cm_W) : sm cm_g 149 ck_149 kq_149 57 [(0, .ref a0), (1, .int i1), (2, .int i2)] [] w ((fn_149_57 a0 i1 i2 w).map cm_gB) := by
  unfold fn_149_57
  refine sm_seg 3 60 [(3, .int (0 : Int32)), (0, .ref a0), (1, .int i1), (2, .int i2)] [.int (0 : Int32)] rfl ?_
  refine sm_iff (c := ¬ (0 : Int32) = 0) (pc1 := 69) (pc2 := 63) (lv1 := [(3, .int (0 : Int32)), (0, .ref a0), (1, .int i1), (2, .int i2)]) (st1 := []) rfl (by decide) rfl ?_
  refine sm_seg 2 65 [(3, .int (0 : Int32)), (0, .ref a0), (1, .int i1), (2, .int i2)] [.int (0 : Int32), .ref a0] rfl ?_
  refine sm_gd fun h10 => ?_
  refine sm_cV (as := [.int (0 : Int32)]) (rest := []) rfl rfl rfl rfl h10 (Nat.le_of_ble_eq_true rfl) (ca_148  a0 (0 : Int32) w) fun v11 h12 => ?_
  show sm _ _ _ _ 68 [(3, .int (0 : Int32)), (0, .ref a0), (1, .int i1), (2, .int i2)] [.int (cm_b v11.1)] _ _
  exact sm_rBW (b := v11.1) rfl rfl
def fn_149 (a0 : Nat) (i1 : Int32) (i2 : Int32) (w : cm_W) : Option (Bool × cm_W) := (if cm_sh w a0 = some (.inl 10) then (fn_146 w a0).bind fun v14 => (if ¬ (cm_b v14) = 0 then fn_149_57  a0 i1 i2 w else (if i1 = i2 then fn_149_57  a0 i1 i2 w else (cm_R w a0 5).bind fun r18 => (if cm_sh w r18 = some (.inl 6) then (fn_108 w r18 i1).bind fun v21 => (if (cm_b v21) = 0 then fn_149_57  a0 i1 i2 w else (cm_R w a0 5).bind fun r24 => (if cm_sh w r24 = some (.inl 6) then (fn_108 w r24 i2).bind fun v27 => (if (cm_b v27) = 0 then fn_149_57  a0 i1 i2 w else (cm_R w a0 5).bind fun r30 => (if cm_sh w r30 = some (.inl 6) then (fn_17 w r30 i1).bind fun v33 => (cm_R w a0 5).bind fun r35 => (if cm_sh w r35 = some (.inl 6) then (fn_17 w r35 i2).bind fun v38 => (if ¬ v33 = v38 then fn_149_57  a0 i1 i2 w else fn_149_69  a0 i1 i2 w) else none) else none)) else none)) else none))) else none)
theorem jt_149_0 (a0 : Nat) (i1 : Int32) (i2 : Int32) (w : cm_W) : sm cm_g 149 ck_149 kq_149 0 [(0, .ref a0), (1, .int i1), (2, .int i2)] [] w ((fn_149 a0 i1 i2 w).map cm_gB) := by
  unfold fn_149
  refine sm_seg 1 1 [(0, .ref a0), (1, .int i1), (2, .int i2)] [.ref a0] rfl ?_
  refine sm_gd fun h13 => ?_
  refine sm_cV (as := []) (rest := []) rfl rfl rfl rfl h13 (Nat.le_of_ble_eq_true rfl) (ca_146 w a0) fun v14 h15 => ?_
  show sm _ _ _ _ 4 [(0, .ref a0), (1, .int i1), (2, .int i2)] [.int (cm_b v14)] _ _
  refine sm_if (pc1 := 57) (lv1 := [(0, .ref a0), (1, .int i1), (2, .int i2)]) (pc2 := 7) (lv2 := [(0, .ref a0), (1, .int i1), (2, .int i2)]) (st1 := []) rfl rfl rfl (fun h16 => ?_) (fun h16 => ?_)
  · exact jt_149_57  a0 i1 i2 w
  · refine sm_seg 2 9 [(0, .ref a0), (1, .int i1), (2, .int i2)] [.int i2, .int i1] rfl ?_
    refine sm_if (pc1 := 57) (lv1 := [(0, .ref a0), (1, .int i1), (2, .int i2)]) (pc2 := 12) (lv2 := [(0, .ref a0), (1, .int i1), (2, .int i2)]) (st1 := []) rfl rfl rfl (fun h17 => ?_) (fun h17 => ?_)
    · exact jt_149_57  a0 i1 i2 w
    · refine sm_seg 1 13 [(0, .ref a0), (1, .int i1), (2, .int i2)] [.ref a0] rfl ?_
      refine sm_gR rfl h13 rfl rfl fun r18 h19 => ?_
      show sm _ _ _ _ 16 [(0, .ref a0), (1, .int i1), (2, .int i2)] [.ref r18] _ _
      refine sm_seg 1 17 [(0, .ref a0), (1, .int i1), (2, .int i2)] [.int i1, .ref r18] rfl ?_
      refine sm_gd fun h20 => ?_
      refine sm_cV (as := [.int i1]) (rest := []) rfl rfl rfl rfl h20 (Nat.le_of_ble_eq_true rfl) (ca_108 w r18 i1) fun v21 h22 => ?_
      show sm _ _ _ _ 20 [(0, .ref a0), (1, .int i1), (2, .int i2)] [.int (cm_b v21)] _ _
      refine sm_if (pc1 := 57) (lv1 := [(0, .ref a0), (1, .int i1), (2, .int i2)]) (pc2 := 23) (lv2 := [(0, .ref a0), (1, .int i1), (2, .int i2)]) (st1 := []) rfl rfl rfl (fun h23 => ?_) (fun h23 => ?_)
      · exact jt_149_57  a0 i1 i2 w
      · refine sm_seg 1 24 [(0, .ref a0), (1, .int i1), (2, .int i2)] [.ref a0] rfl ?_
        refine sm_gR rfl h13 rfl rfl fun r24 h25 => ?_
        show sm _ _ _ _ 27 [(0, .ref a0), (1, .int i1), (2, .int i2)] [.ref r24] _ _
        refine sm_seg 1 28 [(0, .ref a0), (1, .int i1), (2, .int i2)] [.int i2, .ref r24] rfl ?_
        refine sm_gd fun h26 => ?_
        refine sm_cV (as := [.int i2]) (rest := []) rfl rfl rfl rfl h26 (Nat.le_of_ble_eq_true rfl) (ca_108 w r24 i2) fun v27 h28 => ?_
        show sm _ _ _ _ 31 [(0, .ref a0), (1, .int i1), (2, .int i2)] [.int (cm_b v27)] _ _
        refine sm_if (pc1 := 57) (lv1 := [(0, .ref a0), (1, .int i1), (2, .int i2)]) (pc2 := 34) (lv2 := [(0, .ref a0), (1, .int i1), (2, .int i2)]) (st1 := []) rfl rfl rfl (fun h29 => ?_) (fun h29 => ?_)
        · exact jt_149_57  a0 i1 i2 w
        · refine sm_seg 1 35 [(0, .ref a0), (1, .int i1), (2, .int i2)] [.ref a0] rfl ?_
          refine sm_gR rfl h13 rfl rfl fun r30 h31 => ?_
          show sm _ _ _ _ 38 [(0, .ref a0), (1, .int i1), (2, .int i2)] [.ref r30] _ _
          refine sm_seg 1 39 [(0, .ref a0), (1, .int i1), (2, .int i2)] [.int i1, .ref r30] rfl ?_
          refine sm_gd fun h32 => ?_
          refine sm_cV (as := [.int i1]) (rest := []) rfl rfl rfl rfl h32 (Nat.le_of_ble_eq_true rfl) (ca_17 w r30 i1) fun v33 h34 => ?_
          show sm _ _ _ _ 42 [(0, .ref a0), (1, .int i1), (2, .int i2)] [.int v33] _ _
          refine sm_seg 1 43 [(0, .ref a0), (1, .int i1), (2, .int i2)] [.ref a0, .int v33] rfl ?_
          refine sm_gR rfl h13 rfl rfl fun r35 h36 => ?_
          show sm _ _ _ _ 46 [(0, .ref a0), (1, .int i1), (2, .int i2)] [.ref r35, .int v33] _ _
          refine sm_seg 1 47 [(0, .ref a0), (1, .int i1), (2, .int i2)] [.int i2, .ref r35, .int v33] rfl ?_
          refine sm_gd fun h37 => ?_
          refine sm_cV (as := [.int i2]) (rest := [.int v33]) rfl rfl rfl rfl h37 (Nat.le_of_ble_eq_true rfl) (ca_17 w r35 i2) fun v38 h39 => ?_
          show sm _ _ _ _ 50 [(0, .ref a0), (1, .int i1), (2, .int i2)] [.int v38, .int v33] _ _
          refine sm_if (pc1 := 57) (lv1 := [(0, .ref a0), (1, .int i1), (2, .int i2)]) (pc2 := 53) (lv2 := [(0, .ref a0), (1, .int i1), (2, .int i2)]) (st1 := []) rfl rfl rfl (fun h40 => ?_) (fun h40 => ?_)
          · exact jt_149_57  a0 i1 i2 w
          · refine sm_seg 4 60 [(3, .int (1 : Int32)), (0, .ref a0), (1, .int i1), (2, .int i2)] [.int (1 : Int32)] rfl ?_
            refine sm_ift (c := ¬ (1 : Int32) = 0) (pc1 := 69) (pc2 := 63) (lv1 := [(0, .ref a0), (1, .int i1), (2, .int i2)]) (st1 := []) rfl (by decide) rfl ?_
            exact jt_149_69  a0 i1 i2 w
theorem ca_149 (a0 : Nat) (i1 : Int32) (i2 : Int32) (w : cm_W) : cm_ca cm_g 149 [.ref a0, .int i1, .int i2] w ((fn_149 a0 i1 i2 w).map cm_gB) := cm_ca_of (cm_me_of rfl rfl) rfl (jt_149_0 a0 i1 i2 w)
-- NailedBoxes.month()I
def fn_150_33 (a0 : Nat) (w : cm_W) : Option (Int32 × cm_W) := (if cm_sh w a0 = some (.inl 10) then (fn_140 a0 (0 : Int32) w).bind fun v2 => some (v2.1, v2.2) else none)
theorem jt_150_33 (a0 : Nat) (w : cm_W) : sm cm_g 150 ck_150 kq_150 33 [(0, .ref a0)] [] w ((fn_150_33 a0 w).map cm_gI) := by
  unfold fn_150_33
  refine sm_seg 2 35 [(0, .ref a0)] [.int (0 : Int32), .ref a0] rfl ?_
  refine sm_gd fun h1 => ?_
  refine sm_cV (as := [.int (0 : Int32)]) (rest := []) rfl rfl rfl rfl h1 (Nat.le_of_ble_eq_true rfl) (ca_140  a0 (0 : Int32) w) fun v2 h3 => ?_
  show sm _ _ _ _ 38 [(0, .ref a0)] [.int v2.1] _ _
  exact sm_rIW rfl rfl
def fn_150_39 (a0 : Nat) (w : cm_W) : Option (Int32 × cm_W) := (if cm_sh w a0 = some (.inl 10) then (cm_R w a0 5).bind fun r5 => (if cm_sh w r5 = some (.inl 6) then (if cm_w2 2 96 r5 = true then (cm_R (cm_sI w r5 6 ((cm_I w r5 6) + (1 : Int32))) a0 5).bind fun r9 => (if cm_sh w r9 = some (.inl 6) then some ((cm_I (cm_sI w r5 6 ((cm_I w r5 6) + (1 : Int32))) r9 6), (cm_sI w r5 6 ((cm_I w r5 6) + (1 : Int32)))) else none) else none) else none) else none)
theorem jt_150_39 (a0 : Nat) (w : cm_W) : sm cm_g 150 ck_150 kq_150 39 [(0, .ref a0)] [] w ((fn_150_39 a0 w).map cm_gI) := by
  unfold fn_150_39
  refine sm_seg 1 40 [(0, .ref a0)] [.ref a0] rfl ?_
  refine sm_gd fun h4 => ?_
  refine sm_gR rfl h4 rfl rfl fun r5 h6 => ?_
  show sm _ _ _ _ 43 [(0, .ref a0)] [.ref r5] _ _
  refine sm_seg 1 44 [(0, .ref a0)] [.ref r5, .ref r5] rfl ?_
  refine sm_gd fun h7 => ?_
  refine sm_gI rfl h7 rfl ?_
  show sm _ _ _ _ 47 [(0, .ref a0)] [.int (cm_I w r5 6), .ref r5] _ _
  refine sm_seg 2 49 [(0, .ref a0)] [.int ((cm_I w r5 6) + (1 : Int32)), .ref r5] rfl ?_
  refine sm_gd fun h8 => ?_
  refine sm_pI rfl h7 rfl h8 rfl ?_
  show sm _ _ _ _ 52 [(0, .ref a0)] [] _ _
  refine sm_seg 1 53 [(0, .ref a0)] [.ref a0] rfl ?_
  refine sm_gR rfl h4 rfl rfl fun r9 h10 => ?_
  show sm _ _ _ _ 56 [(0, .ref a0)] [.ref r9] _ _
  refine sm_gd fun h11 => ?_
  refine sm_gI rfl h11 rfl ?_
  show sm _ _ _ _ 59 [(0, .ref a0)] [.int (cm_I (cm_sI w r5 6 ((cm_I w r5 6) + (1 : Int32))) r9 6)] _ _
  exact sm_rIW rfl rfl
def fn_150 (a0 : Nat) (w : cm_W) : Option (Int32 × cm_W) := (if cm_sh w a0 = some (.inl 10) then (fn_146 w a0).bind fun v13 => (if ¬ (cm_b v13) = 0 then fn_150_33  a0 w else (cm_R w a0 3).bind fun r16 => (if cm_sh w r16 = some (.inl 9) then (cm_R w r16 1).bind fun r19 => (if cm_sh w r19 = some (.inl 7) then (if ¬ (cm_I w r19 2) = 0 then fn_150_39  a0 w else (cm_R w a0 3).bind fun r23 => (if cm_sh w r23 = some (.inl 9) then (cm_R w r23 3).bind fun r26 => (if cm_sh w r26 = some (.inl 7) then (if ¬ (cm_I w r26 2) = 0 then fn_150_39  a0 w else fn_150_33  a0 w) else none) else none)) else none) else none)) else none)
theorem jt_150_0 (a0 : Nat) (w : cm_W) : sm cm_g 150 ck_150 kq_150 0 [(0, .ref a0)] [] w ((fn_150 a0 w).map cm_gI) := by
  unfold fn_150
  refine sm_seg 1 1 [(0, .ref a0)] [.ref a0] rfl ?_
  refine sm_gd fun h12 => ?_
  refine sm_cV (as := []) (rest := []) rfl rfl rfl rfl h12 (Nat.le_of_ble_eq_true rfl) (ca_146 w a0) fun v13 h14 => ?_
  show sm _ _ _ _ 4 [(0, .ref a0)] [.int (cm_b v13)] _ _
  refine sm_if (pc1 := 33) (lv1 := [(0, .ref a0)]) (pc2 := 7) (lv2 := [(0, .ref a0)]) (st1 := []) rfl rfl rfl (fun h15 => ?_) (fun h15 => ?_)
  · exact jt_150_33  a0 w
  · refine sm_seg 1 8 [(0, .ref a0)] [.ref a0] rfl ?_
    refine sm_gR rfl h12 rfl rfl fun r16 h17 => ?_
    show sm _ _ _ _ 11 [(0, .ref a0)] [.ref r16] _ _
    refine sm_gd fun h18 => ?_
    refine sm_gR rfl h18 rfl rfl fun r19 h20 => ?_
    show sm _ _ _ _ 14 [(0, .ref a0)] [.ref r19] _ _
    refine sm_gd fun h21 => ?_
    refine sm_gI rfl h21 rfl ?_
    show sm _ _ _ _ 17 [(0, .ref a0)] [.int (cm_I w r19 2)] _ _
    refine sm_if (pc1 := 39) (lv1 := [(0, .ref a0)]) (pc2 := 20) (lv2 := [(0, .ref a0)]) (st1 := []) rfl rfl rfl (fun h22 => ?_) (fun h22 => ?_)
    · exact jt_150_39  a0 w
    · refine sm_seg 1 21 [(0, .ref a0)] [.ref a0] rfl ?_
      refine sm_gR rfl h12 rfl rfl fun r23 h24 => ?_
      show sm _ _ _ _ 24 [(0, .ref a0)] [.ref r23] _ _
      refine sm_gd fun h25 => ?_
      refine sm_gR rfl h25 rfl rfl fun r26 h27 => ?_
      show sm _ _ _ _ 27 [(0, .ref a0)] [.ref r26] _ _
      refine sm_gd fun h28 => ?_
      refine sm_gI rfl h28 rfl ?_
      show sm _ _ _ _ 30 [(0, .ref a0)] [.int (cm_I w r26 2)] _ _
      refine sm_if (pc1 := 39) (lv1 := [(0, .ref a0)]) (pc2 := 33) (lv2 := [(0, .ref a0)]) (st1 := []) rfl rfl rfl (fun h29 => ?_) (fun h29 => ?_)
      · exact jt_150_39  a0 w
      · exact jt_150_33  a0 w
theorem ca_150 (a0 : Nat) (w : cm_W) : cm_ca cm_g 150 [.ref a0] w ((fn_150 a0 w).map cm_gI) := cm_ca_of (cm_me_of rfl rfl) rfl (jt_150_0 a0 w)
-- NailedBoxes.canGo(III)Z
def fn_151 (w : cm_W) (a0 : Nat) (i1 : Int32) (i2 : Int32) (i3 : Int32) : Option Bool := (if cm_sh w a0 = some (.inl 10) then (fn_146 w a0).bind fun v2 => (if ¬ (cm_b v2) = 0 then some false else (if (9999 : Int32) < i3 then some false else (cm_R w a0 3).bind fun r6 => (if cm_sh w r6 = some (.inl 9) then (cm_R w r6 3).bind fun r9 => (if cm_sh w r9 = some (.inl 7) then (fn_7 w r9 i2).bind fun v12 => (if (cm_b v12) = 0 then some false else (cm_R w a0 5).bind fun r15 => (if cm_sh w r15 = some (.inl 6) then (fn_108 w r15 i1).bind fun v18 => (if (cm_b v18) = 0 then some false else (cm_R w a0 5).bind fun r21 => (if cm_sh w r21 = some (.inl 6) then (fn_17 w r21 i1).bind fun v24 => (if v24 = i2 then some false else (cm_R w a0 5).bind fun r27 => (if cm_sh w r27 = some (.inl 6) then (fn_109 w r27 i2).bind fun v30 => (if v30 < i3 then some false else some true) else none)) else none)) else none)) else none) else none))) else none)
theorem jt_151_0 (w : cm_W) (a0 : Nat) (i1 : Int32) (i2 : Int32) (i3 : Int32) : sm cm_g 151 ck_151 kq_151 0 [(0, .ref a0), (1, .int i1), (2, .int i2), (3, .int i3)] [] w ((fn_151 w a0 i1 i2 i3).map (cm_fB w)) := by
  unfold fn_151
  refine sm_seg 1 1 [(0, .ref a0), (1, .int i1), (2, .int i2), (3, .int i3)] [.ref a0] rfl ?_
  refine sm_gd fun h1 => ?_
  refine sm_cV (as := []) (rest := []) rfl rfl rfl rfl h1 (Nat.le_of_ble_eq_true rfl) (ca_146 w a0) fun v2 h3 => ?_
  show sm _ _ _ _ 4 [(0, .ref a0), (1, .int i1), (2, .int i2), (3, .int i3)] [.int (cm_b v2)] _ _
  refine sm_if (pc1 := 67) (lv1 := []) (pc2 := 7) (lv2 := [(0, .ref a0), (1, .int i1), (2, .int i2), (3, .int i3)]) (st1 := []) rfl rfl rfl (fun h4 => ?_) (fun h4 => ?_)
  · refine sm_seg 1 68 [] [.int (0 : Int32)] rfl ?_
    exact sm_rB (b := false) rfl rfl
  · refine sm_seg 2 11 [(0, .ref a0), (1, .int i1), (2, .int i2), (3, .int i3)] [.int (9999 : Int32), .int i3] rfl ?_
    refine sm_if (pc1 := 67) (lv1 := []) (pc2 := 14) (lv2 := [(0, .ref a0), (1, .int i1), (2, .int i2), (3, .int i3)]) (st1 := []) rfl rfl rfl (fun h5 => ?_) (fun h5 => ?_)
    · refine sm_seg 1 68 [] [.int (0 : Int32)] rfl ?_
      exact sm_rB (b := false) rfl rfl
    · refine sm_seg 1 15 [(0, .ref a0), (1, .int i1), (2, .int i2), (3, .int i3)] [.ref a0] rfl ?_
      refine sm_gR rfl h1 rfl rfl fun r6 h7 => ?_
      show sm _ _ _ _ 18 [(0, .ref a0), (1, .int i1), (2, .int i2), (3, .int i3)] [.ref r6] _ _
      refine sm_gd fun h8 => ?_
      refine sm_gR rfl h8 rfl rfl fun r9 h10 => ?_
      show sm _ _ _ _ 21 [(0, .ref a0), (1, .int i1), (2, .int i2), (3, .int i3)] [.ref r9] _ _
      refine sm_seg 1 22 [(0, .ref a0), (1, .int i1), (2, .int i2), (3, .int i3)] [.int i2, .ref r9] rfl ?_
      refine sm_gd fun h11 => ?_
      refine sm_cV (as := [.int i2]) (rest := []) rfl rfl rfl rfl h11 (Nat.le_of_ble_eq_true rfl) (ca_7 w r9 i2) fun v12 h13 => ?_
      show sm _ _ _ _ 25 [(0, .ref a0), (1, .int i1), (2, .int i2), (3, .int i3)] [.int (cm_b v12)] _ _
      refine sm_if (pc1 := 67) (lv1 := []) (pc2 := 28) (lv2 := [(0, .ref a0), (1, .int i1), (2, .int i2), (3, .int i3)]) (st1 := []) rfl rfl rfl (fun h14 => ?_) (fun h14 => ?_)
      · refine sm_seg 1 68 [] [.int (0 : Int32)] rfl ?_
        exact sm_rB (b := false) rfl rfl
      · refine sm_seg 1 29 [(0, .ref a0), (1, .int i1), (2, .int i2), (3, .int i3)] [.ref a0] rfl ?_
        refine sm_gR rfl h1 rfl rfl fun r15 h16 => ?_
        show sm _ _ _ _ 32 [(0, .ref a0), (1, .int i1), (2, .int i2), (3, .int i3)] [.ref r15] _ _
        refine sm_seg 1 33 [(0, .ref a0), (1, .int i1), (2, .int i2), (3, .int i3)] [.int i1, .ref r15] rfl ?_
        refine sm_gd fun h17 => ?_
        refine sm_cV (as := [.int i1]) (rest := []) rfl rfl rfl rfl h17 (Nat.le_of_ble_eq_true rfl) (ca_108 w r15 i1) fun v18 h19 => ?_
        show sm _ _ _ _ 36 [(0, .ref a0), (1, .int i1), (2, .int i2), (3, .int i3)] [.int (cm_b v18)] _ _
        refine sm_if (pc1 := 67) (lv1 := []) (pc2 := 39) (lv2 := [(0, .ref a0), (1, .int i1), (2, .int i2), (3, .int i3)]) (st1 := []) rfl rfl rfl (fun h20 => ?_) (fun h20 => ?_)
        · refine sm_seg 1 68 [] [.int (0 : Int32)] rfl ?_
          exact sm_rB (b := false) rfl rfl
        · refine sm_seg 1 40 [(0, .ref a0), (1, .int i1), (2, .int i2), (3, .int i3)] [.ref a0] rfl ?_
          refine sm_gR rfl h1 rfl rfl fun r21 h22 => ?_
          show sm _ _ _ _ 43 [(0, .ref a0), (1, .int i1), (2, .int i2), (3, .int i3)] [.ref r21] _ _
          refine sm_seg 1 44 [(0, .ref a0), (1, .int i1), (2, .int i2), (3, .int i3)] [.int i1, .ref r21] rfl ?_
          refine sm_gd fun h23 => ?_
          refine sm_cV (as := [.int i1]) (rest := []) rfl rfl rfl rfl h23 (Nat.le_of_ble_eq_true rfl) (ca_17 w r21 i1) fun v24 h25 => ?_
          show sm _ _ _ _ 47 [(0, .ref a0), (1, .int i1), (2, .int i2), (3, .int i3)] [.int v24] _ _
          refine sm_seg 1 48 [(0, .ref a0), (1, .int i1), (2, .int i2), (3, .int i3)] [.int i2, .int v24] rfl ?_
          refine sm_if (pc1 := 67) (lv1 := []) (pc2 := 51) (lv2 := [(0, .ref a0), (1, .int i1), (2, .int i2), (3, .int i3)]) (st1 := []) rfl rfl rfl (fun h26 => ?_) (fun h26 => ?_)
          · refine sm_seg 1 68 [] [.int (0 : Int32)] rfl ?_
            exact sm_rB (b := false) rfl rfl
          · refine sm_seg 1 52 [(0, .ref a0), (1, .int i1), (2, .int i2), (3, .int i3)] [.ref a0] rfl ?_
            refine sm_gR rfl h1 rfl rfl fun r27 h28 => ?_
            show sm _ _ _ _ 55 [(0, .ref a0), (1, .int i1), (2, .int i2), (3, .int i3)] [.ref r27] _ _
            refine sm_seg 1 56 [(0, .ref a0), (1, .int i1), (2, .int i2), (3, .int i3)] [.int i2, .ref r27] rfl ?_
            refine sm_gd fun h29 => ?_
            refine sm_cV (as := [.int i2]) (rest := []) rfl rfl rfl rfl h29 (Nat.le_of_ble_eq_true rfl) (ca_109 w r27 i2) fun v30 h31 => ?_
            show sm _ _ _ _ 59 [(0, .ref a0), (1, .int i1), (2, .int i2), (3, .int i3)] [.int v30] _ _
            refine sm_seg 1 60 [(0, .ref a0), (1, .int i1), (2, .int i2), (3, .int i3)] [.int i3, .int v30] rfl ?_
            refine sm_if (pc1 := 67) (lv1 := []) (pc2 := 63) (lv2 := [(0, .ref a0), (1, .int i1), (2, .int i2), (3, .int i3)]) (st1 := []) rfl rfl rfl (fun h32 => ?_) (fun h32 => ?_)
            · refine sm_seg 1 68 [] [.int (0 : Int32)] rfl ?_
              exact sm_rB (b := false) rfl rfl
            · refine sm_seg 2 68 [] [.int (1 : Int32)] rfl ?_
              exact sm_rB (b := true) rfl rfl
theorem ca_151 (w : cm_W) (a0 : Nat) (i1 : Int32) (i2 : Int32) (i3 : Int32) : cm_ca cm_g 151 [.ref a0, .int i1, .int i2, .int i3] w ((fn_151 w a0 i1 i2 i3).map (cm_fB w)) := cm_ca_of (cm_me_of rfl rfl) rfl (jt_151_0 w a0 i1 i2 i3)
-- NailedBoxes.sell(III)Z
def fn_152_14 (a0 : Nat) (w : cm_W) : Option (Bool × cm_W) := (if cm_sh w a0 = some (.inl 10) then (fn_148 a0 (0 : Int32) w).bind fun v2 => some (v2.1, v2.2) else none)
theorem jt_152_14 (a0 : Nat) (w : cm_W) : sm cm_g 152 ck_152 kq_152 14 [(0, .ref a0)] [] w ((fn_152_14 a0 w).map cm_gB) := by
  unfold fn_152_14
  refine sm_seg 2 16 [(0, .ref a0)] [.int (0 : Int32), .ref a0] rfl ?_
  refine sm_gd fun h1 => ?_
  refine sm_cV (as := [.int (0 : Int32)]) (rest := []) rfl rfl rfl rfl h1 (Nat.le_of_ble_eq_true rfl) (ca_148  a0 (0 : Int32) w) fun v2 h3 => ?_
  show sm _ _ _ _ 19 [(0, .ref a0)] [.int (cm_b v2.1)] _ _
  exact sm_rBW (b := v2.1) rfl rfl
def fn_152_39 (a0 : Nat) (i1 : Int32) (i2 : Int32) (i3 : Int32) (w : cm_W) : Option (Bool × cm_W) := (if cm_sh w a0 = some (.inl 10) then (cm_R w a0 5).bind fun r5 => (if cm_sh w r5 = some (.inl 6) then (fn_17 w r5 i1).bind fun v8 => (cm_R w a0 5).bind fun r10 => (if cm_sh w r10 = some (.inl 6) then (fn_105 r10 i1 (0 : Int32) v8 i2 i3 w).bind fun w13 => (if cm_sh w13 a0 = some (.inl 10) then (cm_R w13 a0 5).bind fun r16 => (if cm_sh w13 r16 = some (.inl 6) then (fn_112 r16 i1 i2 w13).bind fun w19 => (if cm_sh w19 a0 = some (.inl 10) then (cm_R w19 a0 5).bind fun r22 => (if cm_sh w19 r22 = some (.inl 6) then (fn_113 r22 i2 v8 i3 w19).bind fun w25 => some (true, w25) else none) else none) else none) else none) else none) else none) else none)
theorem jt_152_39 (a0 : Nat) (i1 : Int32) (i2 : Int32) (i3 : Int32) (w : cm_W) : sm cm_g 152 ck_152 kq_152 39 [(0, .ref a0), (1, .int i1), (2, .int i2), (3, .int i3)] [] w ((fn_152_39 a0 i1 i2 i3 w).map cm_gB) := by
  unfold fn_152_39
  refine sm_seg 1 40 [(0, .ref a0), (1, .int i1), (2, .int i2), (3, .int i3)] [.ref a0] rfl ?_
  refine sm_gd fun h4 => ?_
  refine sm_gR rfl h4 rfl rfl fun r5 h6 => ?_
  show sm _ _ _ _ 43 [(0, .ref a0), (1, .int i1), (2, .int i2), (3, .int i3)] [.ref r5] _ _
  refine sm_seg 1 44 [(0, .ref a0), (1, .int i1), (2, .int i2), (3, .int i3)] [.int i1, .ref r5] rfl ?_
  refine sm_gd fun h7 => ?_
  refine sm_cV (as := [.int i1]) (rest := []) rfl rfl rfl rfl h7 (Nat.le_of_ble_eq_true rfl) (ca_17 w r5 i1) fun v8 h9 => ?_
  show sm _ _ _ _ 47 [(0, .ref a0), (1, .int i1), (2, .int i2), (3, .int i3)] [.int v8] _ _
  refine sm_seg 2 50 [(4, .int v8), (0, .ref a0), (1, .int i1), (2, .int i2), (3, .int i3)] [.ref a0] rfl ?_
  refine sm_gR rfl h4 rfl rfl fun r10 h11 => ?_
  show sm _ _ _ _ 53 [(4, .int v8), (0, .ref a0), (1, .int i1), (2, .int i2), (3, .int i3)] [.ref r10] _ _
  refine sm_seg 5 59 [(4, .int v8), (0, .ref a0), (1, .int i1), (2, .int i2), (3, .int i3)] [.int i3, .int i2, .int v8, .int (0 : Int32), .int i1, .ref r10] rfl ?_
  refine sm_gd fun h12 => ?_
  refine sm_cV (as := [.int i1, .int (0 : Int32), .int v8, .int i2, .int i3]) (rest := []) rfl rfl rfl rfl h12 (Nat.le_of_ble_eq_true rfl) (ca_105  r10 i1 (0 : Int32) v8 i2 i3 w) fun w13 h14 => ?_
  show sm _ _ _ _ 62 [(4, .int v8), (0, .ref a0), (1, .int i1), (2, .int i2), (3, .int i3)] [] _ _
  refine sm_seg 1 63 [(4, .int v8), (0, .ref a0), (1, .int i1), (2, .int i2), (3, .int i3)] [.ref a0] rfl ?_
  refine sm_gd fun h15 => ?_
  refine sm_gR rfl h15 rfl rfl fun r16 h17 => ?_
  show sm _ _ _ _ 66 [(4, .int v8), (0, .ref a0), (1, .int i1), (2, .int i2), (3, .int i3)] [.ref r16] _ _
  refine sm_seg 2 68 [(4, .int v8), (0, .ref a0), (1, .int i1), (2, .int i2), (3, .int i3)] [.int i2, .int i1, .ref r16] rfl ?_
  refine sm_gd fun h18 => ?_
  refine sm_cV (as := [.int i1, .int i2]) (rest := []) rfl rfl rfl rfl h18 (Nat.le_of_ble_eq_true rfl) (ca_112  r16 i1 i2 w13) fun w19 h20 => ?_
  show sm _ _ _ _ 71 [(4, .int v8), (0, .ref a0), (1, .int i1), (2, .int i2), (3, .int i3)] [] _ _
  refine sm_seg 1 72 [(4, .int v8), (0, .ref a0), (1, .int i1), (2, .int i2), (3, .int i3)] [.ref a0] rfl ?_
  refine sm_gd fun h21 => ?_
  refine sm_gR rfl h21 rfl rfl fun r22 h23 => ?_
  show sm _ _ _ _ 75 [(4, .int v8), (0, .ref a0), (1, .int i1), (2, .int i2), (3, .int i3)] [.ref r22] _ _
  refine sm_seg 3 79 [(4, .int v8), (0, .ref a0), (1, .int i1), (2, .int i2), (3, .int i3)] [.int i3, .int v8, .int i2, .ref r22] rfl ?_
  refine sm_gd fun h24 => ?_
  refine sm_cV (as := [.int i2, .int v8, .int i3]) (rest := []) rfl rfl rfl rfl h24 (Nat.le_of_ble_eq_true rfl) (ca_113  r22 i2 v8 i3 w19) fun w25 h26 => ?_
  show sm _ _ _ _ 82 [(4, .int v8), (0, .ref a0), (1, .int i1), (2, .int i2), (3, .int i3)] [] _ _
  refine sm_seg 1 83 [(4, .int v8), (0, .ref a0), (1, .int i1), (2, .int i2), (3, .int i3)] [.int (1 : Int32)] rfl ?_
  exact sm_rBW (b := true) rfl rfl
def fn_152_20 (a0 : Nat) (i1 : Int32) (i2 : Int32) (i3 : Int32) (w : cm_W) : Option (Bool × cm_W) := (if cm_sh w a0 = some (.inl 10) then (cm_R w a0 5).bind fun r28 => (if cm_sh w r28 = some (.inl 6) then (cm_R w r28 1).bind fun r31 => (if cm_sh w r31 = some (.inl 7) then (fn_64 w r31).bind fun v34 => (if (cm_b v34) = 0 then fn_152_39  a0 i1 i2 i3 w else (fn_148 a0 (1 : Int32) w).bind fun v37 => some (v37.1, v37.2)) else none) else none) else none)
theorem jt_152_20 (a0 : Nat) (i1 : Int32) (i2 : Int32) (i3 : Int32) (w : cm_W) : sm cm_g 152 ck_152 kq_152 20 [(0, .ref a0), (1, .int i1), (2, .int i2), (3, .int i3)] [] w ((fn_152_20 a0 i1 i2 i3 w).map cm_gB) := by
  unfold fn_152_20
  refine sm_seg 1 21 [(0, .ref a0), (1, .int i1), (2, .int i2), (3, .int i3)] [.ref a0] rfl ?_
  refine sm_gd fun h27 => ?_
  refine sm_gR rfl h27 rfl rfl fun r28 h29 => ?_
  show sm _ _ _ _ 24 [(0, .ref a0), (1, .int i1), (2, .int i2), (3, .int i3)] [.ref r28] _ _
  refine sm_gd fun h30 => ?_
  refine sm_gR rfl h30 rfl rfl fun r31 h32 => ?_
  show sm _ _ _ _ 27 [(0, .ref a0), (1, .int i1), (2, .int i2), (3, .int i3)] [.ref r31] _ _
  refine sm_gd fun h33 => ?_
  refine sm_cV (as := []) (rest := []) rfl rfl rfl rfl h33 (Nat.le_of_ble_eq_true rfl) (ca_64 w r31) fun v34 h35 => ?_
  show sm _ _ _ _ 30 [(0, .ref a0), (1, .int i1), (2, .int i2), (3, .int i3)] [.int (cm_b v34)] _ _
  refine sm_if (pc1 := 39) (lv1 := [(0, .ref a0), (1, .int i1), (2, .int i2), (3, .int i3)]) (pc2 := 33) (lv2 := [(0, .ref a0), (1, .int i1), (2, .int i2), (3, .int i3)]) (st1 := []) rfl rfl rfl (fun h36 => ?_) (fun h36 => ?_)
  · exact jt_152_39  a0 i1 i2 i3 w
  · refine sm_seg 2 35 [(0, .ref a0), (1, .int i1), (2, .int i2), (3, .int i3)] [.int (1 : Int32), .ref a0] rfl ?_
    refine sm_cV (as := [.int (1 : Int32)]) (rest := []) rfl rfl rfl rfl h27 (Nat.le_of_ble_eq_true rfl) (ca_148  a0 (1 : Int32) w) fun v37 h38 => ?_
    show sm _ _ _ _ 38 [(0, .ref a0), (1, .int i1), (2, .int i2), (3, .int i3)] [.int (cm_b v37.1)] _ _
    exact sm_rBW (b := v37.1) rfl rfl
def fn_152 (a0 : Nat) (i1 : Int32) (i2 : Int32) (i3 : Int32) (w : cm_W) : Option (Bool × cm_W) := (if i3 < 0 then fn_152_14  a0 w else (if cm_sh w a0 = some (.inl 10) then (fn_151 w a0 i1 i2 i3).bind fun v41 => (if ¬ (cm_b v41) = 0 then fn_152_20  a0 i1 i2 i3 w else fn_152_14  a0 w) else none))
theorem jt_152_0 (a0 : Nat) (i1 : Int32) (i2 : Int32) (i3 : Int32) (w : cm_W) : sm cm_g 152 ck_152 kq_152 0 [(0, .ref a0), (1, .int i1), (2, .int i2), (3, .int i3)] [] w ((fn_152 a0 i1 i2 i3 w).map cm_gB) := by
  unfold fn_152
  refine sm_seg 1 1 [(0, .ref a0), (1, .int i1), (2, .int i2), (3, .int i3)] [.int i3] rfl ?_
  refine sm_if (pc1 := 14) (lv1 := [(0, .ref a0)]) (pc2 := 4) (lv2 := [(0, .ref a0), (1, .int i1), (2, .int i2), (3, .int i3)]) (st1 := []) rfl rfl rfl (fun h39 => ?_) (fun h39 => ?_)
  · exact jt_152_14  a0 w
  · refine sm_seg 4 8 [(0, .ref a0), (1, .int i1), (2, .int i2), (3, .int i3)] [.int i3, .int i2, .int i1, .ref a0] rfl ?_
    refine sm_gd fun h40 => ?_
    refine sm_cV (as := [.int i1, .int i2, .int i3]) (rest := []) rfl rfl rfl rfl h40 (Nat.le_of_ble_eq_true rfl) (ca_151 w a0 i1 i2 i3) fun v41 h42 => ?_
    show sm _ _ _ _ 11 [(0, .ref a0), (1, .int i1), (2, .int i2), (3, .int i3)] [.int (cm_b v41)] _ _
    refine sm_if (pc1 := 20) (lv1 := [(0, .ref a0), (1, .int i1), (2, .int i2), (3, .int i3)]) (pc2 := 14) (lv2 := [(0, .ref a0)]) (st1 := []) rfl rfl rfl (fun h43 => ?_) (fun h43 => ?_)
    · exact jt_152_20  a0 i1 i2 i3 w
    · exact jt_152_14  a0 w
theorem ca_152 (a0 : Nat) (i1 : Int32) (i2 : Int32) (i3 : Int32) (w : cm_W) : cm_ca cm_g 152 [.ref a0, .int i1, .int i2, .int i3] w ((fn_152 a0 i1 i2 i3 w).map cm_gB) := cm_ca_of (cm_me_of rfl rfl) rfl (jt_152_0 a0 i1 i2 i3 w)
-- NailedBoxes.say(II)Z
def fn_153_35 (a0 : Nat) (w : cm_W) : Option (Bool × cm_W) := (if cm_sh w a0 = some (.inl 10) then (fn_148 a0 (0 : Int32) w).bind fun v2 => some (v2.1, v2.2) else none)
theorem jt_153_35 (a0 : Nat) (w : cm_W) : sm cm_g 153 ck_153 kq_153 35 [(0, .ref a0)] [] w ((fn_153_35 a0 w).map cm_gB) := by
  unfold fn_153_35
  refine sm_seg 2 37 [(0, .ref a0)] [.int (0 : Int32), .ref a0] rfl ?_
  refine sm_gd fun h1 => ?_
  refine sm_cV (as := [.int (0 : Int32)]) (rest := []) rfl rfl rfl rfl h1 (Nat.le_of_ble_eq_true rfl) (ca_148  a0 (0 : Int32) w) fun v2 h3 => ?_
  show sm _ _ _ _ 40 [(0, .ref a0)] [.int (cm_b v2.1)] _ _
  exact sm_rBW (b := v2.1) rfl rfl
def fn_153_60 (a0 : Nat) (i1 : Int32) (i2 : Int32) (w : cm_W) : Option (Bool × cm_W) := (if cm_sh w a0 = some (.inl 10) then (cm_R w a0 5).bind fun r5 => (cm_R w a0 5).bind fun r7 => (if cm_sh w r7 = some (.inl 6) then (fn_17 w r7 i1).bind fun v10 => (if cm_sh w r5 = some (.inl 6) then (fn_105 r5 i1 (1 : Int32) v10 (-1 : Int32) i2 w).bind fun w13 => some (true, w13) else none) else none) else none)
theorem jt_153_60 (a0 : Nat) (i1 : Int32) (i2 : Int32) (w : cm_W) : sm cm_g 153 ck_153 kq_153 60 [(0, .ref a0), (1, .int i1), (2, .int i2)] [] w ((fn_153_60 a0 i1 i2 w).map cm_gB) := by
  unfold fn_153_60
  refine sm_seg 1 61 [(0, .ref a0), (1, .int i1), (2, .int i2)] [.ref a0] rfl ?_
  refine sm_gd fun h4 => ?_
  refine sm_gR rfl h4 rfl rfl fun r5 h6 => ?_
  show sm _ _ _ _ 64 [(0, .ref a0), (1, .int i1), (2, .int i2)] [.ref r5] _ _
  refine sm_seg 3 67 [(0, .ref a0), (1, .int i1), (2, .int i2)] [.ref a0, .int (1 : Int32), .int i1, .ref r5] rfl ?_
  refine sm_gR rfl h4 rfl rfl fun r7 h8 => ?_
  show sm _ _ _ _ 70 [(0, .ref a0), (1, .int i1), (2, .int i2)] [.ref r7, .int (1 : Int32), .int i1, .ref r5] _ _
  refine sm_seg 1 71 [(0, .ref a0), (1, .int i1), (2, .int i2)] [.int i1, .ref r7, .int (1 : Int32), .int i1, .ref r5] rfl ?_
  refine sm_gd fun h9 => ?_
  refine sm_cV (as := [.int i1]) (rest := [.int (1 : Int32), .int i1, .ref r5]) rfl rfl rfl rfl h9 (Nat.le_of_ble_eq_true rfl) (ca_17 w r7 i1) fun v10 h11 => ?_
  show sm _ _ _ _ 74 [(0, .ref a0), (1, .int i1), (2, .int i2)] [.int v10, .int (1 : Int32), .int i1, .ref r5] _ _
  refine sm_seg 2 76 [(0, .ref a0), (1, .int i1), (2, .int i2)] [.int i2, .int (-1 : Int32), .int v10, .int (1 : Int32), .int i1, .ref r5] rfl ?_
  refine sm_gd fun h12 => ?_
  refine sm_cV (as := [.int i1, .int (1 : Int32), .int v10, .int (-1 : Int32), .int i2]) (rest := []) rfl rfl rfl rfl h12 (Nat.le_of_ble_eq_true rfl) (ca_105  r5 i1 (1 : Int32) v10 (-1 : Int32) i2 w) fun w13 h14 => ?_
  show sm _ _ _ _ 79 [(0, .ref a0), (1, .int i1), (2, .int i2)] [] _ _
  refine sm_seg 1 80 [(0, .ref a0), (1, .int i1), (2, .int i2)] [.int (1 : Int32)] rfl ?_
  exact sm_rBW (b := true) rfl rfl
def fn_153_41 (a0 : Nat) (i1 : Int32) (i2 : Int32) (w : cm_W) : Option (Bool × cm_W) := (if cm_sh w a0 = some (.inl 10) then (cm_R w a0 5).bind fun r16 => (if cm_sh w r16 = some (.inl 6) then (cm_R w r16 1).bind fun r19 => (if cm_sh w r19 = some (.inl 7) then (fn_64 w r19).bind fun v22 => (if (cm_b v22) = 0 then fn_153_60  a0 i1 i2 w else (fn_148 a0 (1 : Int32) w).bind fun v25 => some (v25.1, v25.2)) else none) else none) else none)
theorem jt_153_41 (a0 : Nat) (i1 : Int32) (i2 : Int32) (w : cm_W) : sm cm_g 153 ck_153 kq_153 41 [(0, .ref a0), (1, .int i1), (2, .int i2)] [] w ((fn_153_41 a0 i1 i2 w).map cm_gB) := by
  unfold fn_153_41
  refine sm_seg 1 42 [(0, .ref a0), (1, .int i1), (2, .int i2)] [.ref a0] rfl ?_
  refine sm_gd fun h15 => ?_
  refine sm_gR rfl h15 rfl rfl fun r16 h17 => ?_
  show sm _ _ _ _ 45 [(0, .ref a0), (1, .int i1), (2, .int i2)] [.ref r16] _ _
  refine sm_gd fun h18 => ?_
  refine sm_gR rfl h18 rfl rfl fun r19 h20 => ?_
  show sm _ _ _ _ 48 [(0, .ref a0), (1, .int i1), (2, .int i2)] [.ref r19] _ _
  refine sm_gd fun h21 => ?_
  refine sm_cV (as := []) (rest := []) rfl rfl rfl rfl h21 (Nat.le_of_ble_eq_true rfl) (ca_64 w r19) fun v22 h23 => ?_
  show sm _ _ _ _ 51 [(0, .ref a0), (1, .int i1), (2, .int i2)] [.int (cm_b v22)] _ _
  refine sm_if (pc1 := 60) (lv1 := [(0, .ref a0), (1, .int i1), (2, .int i2)]) (pc2 := 54) (lv2 := [(0, .ref a0), (1, .int i1), (2, .int i2)]) (st1 := []) rfl rfl rfl (fun h24 => ?_) (fun h24 => ?_)
  · exact jt_153_60  a0 i1 i2 w
  · refine sm_seg 2 56 [(0, .ref a0), (1, .int i1), (2, .int i2)] [.int (1 : Int32), .ref a0] rfl ?_
    refine sm_cV (as := [.int (1 : Int32)]) (rest := []) rfl rfl rfl rfl h15 (Nat.le_of_ble_eq_true rfl) (ca_148  a0 (1 : Int32) w) fun v25 h26 => ?_
    show sm _ _ _ _ 59 [(0, .ref a0), (1, .int i1), (2, .int i2)] [.int (cm_b v25.1)] _ _
    exact sm_rBW (b := v25.1) rfl rfl
def fn_153 (a0 : Nat) (i1 : Int32) (i2 : Int32) (w : cm_W) : Option (Bool × cm_W) := (if cm_sh w a0 = some (.inl 10) then (fn_146 w a0).bind fun v28 => (if ¬ (cm_b v28) = 0 then fn_153_35  a0 w else (cm_R w a0 5).bind fun r31 => (if cm_sh w r31 = some (.inl 6) then (cm_R w r31 0).bind fun r34 => (if cm_sh w r34 = some (.inl 7) then (fn_7 w r34 i1).bind fun v37 => (if (cm_b v37) = 0 then fn_153_35  a0 w else (cm_R w a0 3).bind fun r40 => (if cm_sh w r40 = some (.inl 9) then (cm_R w r40 1).bind fun r43 => (if cm_sh w r43 = some (.inl 7) then (fn_7 w r43 i2).bind fun v46 => (if ¬ (cm_b v46) = 0 then fn_153_41  a0 i1 i2 w else fn_153_35  a0 w) else none) else none)) else none) else none)) else none)
theorem jt_153_0 (a0 : Nat) (i1 : Int32) (i2 : Int32) (w : cm_W) : sm cm_g 153 ck_153 kq_153 0 [(0, .ref a0), (1, .int i1), (2, .int i2)] [] w ((fn_153 a0 i1 i2 w).map cm_gB) := by
  unfold fn_153
  refine sm_seg 1 1 [(0, .ref a0), (1, .int i1), (2, .int i2)] [.ref a0] rfl ?_
  refine sm_gd fun h27 => ?_
  refine sm_cV (as := []) (rest := []) rfl rfl rfl rfl h27 (Nat.le_of_ble_eq_true rfl) (ca_146 w a0) fun v28 h29 => ?_
  show sm _ _ _ _ 4 [(0, .ref a0), (1, .int i1), (2, .int i2)] [.int (cm_b v28)] _ _
  refine sm_if (pc1 := 35) (lv1 := [(0, .ref a0)]) (pc2 := 7) (lv2 := [(0, .ref a0), (1, .int i1), (2, .int i2)]) (st1 := []) rfl rfl rfl (fun h30 => ?_) (fun h30 => ?_)
  · exact jt_153_35  a0 w
  · refine sm_seg 1 8 [(0, .ref a0), (1, .int i1), (2, .int i2)] [.ref a0] rfl ?_
    refine sm_gR rfl h27 rfl rfl fun r31 h32 => ?_
    show sm _ _ _ _ 11 [(0, .ref a0), (1, .int i1), (2, .int i2)] [.ref r31] _ _
    refine sm_gd fun h33 => ?_
    refine sm_gR rfl h33 rfl rfl fun r34 h35 => ?_
    show sm _ _ _ _ 14 [(0, .ref a0), (1, .int i1), (2, .int i2)] [.ref r34] _ _
    refine sm_seg 1 15 [(0, .ref a0), (1, .int i1), (2, .int i2)] [.int i1, .ref r34] rfl ?_
    refine sm_gd fun h36 => ?_
    refine sm_cV (as := [.int i1]) (rest := []) rfl rfl rfl rfl h36 (Nat.le_of_ble_eq_true rfl) (ca_7 w r34 i1) fun v37 h38 => ?_
    show sm _ _ _ _ 18 [(0, .ref a0), (1, .int i1), (2, .int i2)] [.int (cm_b v37)] _ _
    refine sm_if (pc1 := 35) (lv1 := [(0, .ref a0)]) (pc2 := 21) (lv2 := [(0, .ref a0), (1, .int i1), (2, .int i2)]) (st1 := []) rfl rfl rfl (fun h39 => ?_) (fun h39 => ?_)
    · exact jt_153_35  a0 w
    · refine sm_seg 1 22 [(0, .ref a0), (1, .int i1), (2, .int i2)] [.ref a0] rfl ?_
      refine sm_gR rfl h27 rfl rfl fun r40 h41 => ?_
      show sm _ _ _ _ 25 [(0, .ref a0), (1, .int i1), (2, .int i2)] [.ref r40] _ _
      refine sm_gd fun h42 => ?_
      refine sm_gR rfl h42 rfl rfl fun r43 h44 => ?_
      show sm _ _ _ _ 28 [(0, .ref a0), (1, .int i1), (2, .int i2)] [.ref r43] _ _
      refine sm_seg 1 29 [(0, .ref a0), (1, .int i1), (2, .int i2)] [.int i2, .ref r43] rfl ?_
      refine sm_gd fun h45 => ?_
      refine sm_cV (as := [.int i2]) (rest := []) rfl rfl rfl rfl h45 (Nat.le_of_ble_eq_true rfl) (ca_7 w r43 i2) fun v46 h47 => ?_
      show sm _ _ _ _ 32 [(0, .ref a0), (1, .int i1), (2, .int i2)] [.int (cm_b v46)] _ _
      refine sm_if (pc1 := 41) (lv1 := [(0, .ref a0), (1, .int i1), (2, .int i2)]) (pc2 := 35) (lv2 := [(0, .ref a0)]) (st1 := []) rfl rfl rfl (fun h48 => ?_) (fun h48 => ?_)
      · exact jt_153_41  a0 i1 i2 w
      · exact jt_153_35  a0 w
theorem ca_153 (a0 : Nat) (i1 : Int32) (i2 : Int32) (w : cm_W) : cm_ca cm_g 153 [.ref a0, .int i1, .int i2] w ((fn_153 a0 i1 i2 w).map cm_gB) := cm_ca_of (cm_me_of rfl rfl) rfl (jt_153_0 a0 i1 i2 w)
-- NailedBoxes.sign(III)Z
def fn_154_62 (a0 : Nat) (w : cm_W) : Option (Bool × cm_W) := (if cm_sh w a0 = some (.inl 10) then (fn_148 a0 (0 : Int32) w).bind fun v2 => some (v2.1, v2.2) else none)
theorem jt_154_62 (a0 : Nat) (w : cm_W) : sm cm_g 154 ck_154 kq_154 62 [(0, .ref a0)] [] w ((fn_154_62 a0 w).map cm_gB) := by
  unfold fn_154_62
  refine sm_seg 2 64 [(0, .ref a0)] [.int (0 : Int32), .ref a0] rfl ?_
  refine sm_gd fun h1 => ?_
  refine sm_cV (as := [.int (0 : Int32)]) (rest := []) rfl rfl rfl rfl h1 (Nat.le_of_ble_eq_true rfl) (ca_148  a0 (0 : Int32) w) fun v2 h3 => ?_
  show sm _ _ _ _ 67 [(0, .ref a0)] [.int (cm_b v2.1)] _ _
  exact sm_rBW (b := v2.1) rfl rfl
def fn_154_87 (a0 : Nat) (i1 : Int32) (i2 : Int32) (i3 : Int32) (w : cm_W) : Option (Bool × cm_W) := (if cm_sh w a0 = some (.inl 10) then (cm_R w a0 5).bind fun r5 => (if ¬ i2 = 0 then (if cm_sh w r5 = some (.inl 6) then (fn_105 r5 i1 (3 : Int32) (-1 : Int32) (-1 : Int32) i3 w).bind fun w9 => some (true, w9) else none) else (if cm_sh w r5 = some (.inl 6) then (fn_105 r5 i1 (2 : Int32) (-1 : Int32) (-1 : Int32) i3 w).bind fun w12 => some (true, w12) else none)) else none)
theorem jt_154_87 (a0 : Nat) (i1 : Int32) (i2 : Int32) (i3 : Int32) (w : cm_W) : sm cm_g 154 ck_154 kq_154 87 [(0, .ref a0), (1, .int i1), (2, .int i2), (3, .int i3)] [] w ((fn_154_87 a0 i1 i2 i3 w).map cm_gB) := by
  unfold fn_154_87
  refine sm_seg 1 88 [(0, .ref a0), (1, .int i1), (2, .int i2), (3, .int i3)] [.ref a0] rfl ?_
  refine sm_gd fun h4 => ?_
  refine sm_gR rfl h4 rfl rfl fun r5 h6 => ?_
  show sm _ _ _ _ 91 [(0, .ref a0), (1, .int i1), (2, .int i2), (3, .int i3)] [.ref r5] _ _
  refine sm_seg 2 93 [(0, .ref a0), (1, .int i1), (2, .int i2), (3, .int i3)] [.int i2, .int i1, .ref r5] rfl ?_
  refine sm_if (pc1 := 100) (lv1 := [(3, .int i3)]) (pc2 := 96) (lv2 := [(0, .ref a0), (1, .int i1), (2, .int i2), (3, .int i3)]) (st1 := [.int i1, .ref r5]) rfl rfl rfl (fun h7 => ?_) (fun h7 => ?_)
  · refine sm_seg 4 104 [(3, .int i3)] [.int i3, .int (-1 : Int32), .int (-1 : Int32), .int (3 : Int32), .int i1, .ref r5] rfl ?_
    refine sm_gd fun h8 => ?_
    refine sm_cV (as := [.int i1, .int (3 : Int32), .int (-1 : Int32), .int (-1 : Int32), .int i3]) (rest := []) rfl rfl rfl rfl h8 (Nat.le_of_ble_eq_true rfl) (ca_105  r5 i1 (3 : Int32) (-1 : Int32) (-1 : Int32) i3 w) fun w9 h10 => ?_
    show sm _ _ _ _ 107 [(3, .int i3)] [] _ _
    refine sm_seg 1 108 [(3, .int i3)] [.int (1 : Int32)] rfl ?_
    exact sm_rBW (b := true) rfl rfl
  · refine sm_seg 5 104 [(3, .int i3)] [.int i3, .int (-1 : Int32), .int (-1 : Int32), .int (2 : Int32), .int i1, .ref r5] rfl ?_
    refine sm_gd fun h11 => ?_
    refine sm_cV (as := [.int i1, .int (2 : Int32), .int (-1 : Int32), .int (-1 : Int32), .int i3]) (rest := []) rfl rfl rfl rfl h11 (Nat.le_of_ble_eq_true rfl) (ca_105  r5 i1 (2 : Int32) (-1 : Int32) (-1 : Int32) i3 w) fun w12 h13 => ?_
    show sm _ _ _ _ 107 [(3, .int i3)] [] _ _
    refine sm_seg 1 108 [(3, .int i3)] [.int (1 : Int32)] rfl ?_
    exact sm_rBW (b := true) rfl rfl
def fn_154_68 (a0 : Nat) (i1 : Int32) (i2 : Int32) (i3 : Int32) (w : cm_W) : Option (Bool × cm_W) := (if cm_sh w a0 = some (.inl 10) then (cm_R w a0 5).bind fun r15 => (if cm_sh w r15 = some (.inl 6) then (cm_R w r15 1).bind fun r18 => (if cm_sh w r18 = some (.inl 7) then (fn_64 w r18).bind fun v21 => (if (cm_b v21) = 0 then fn_154_87  a0 i1 i2 i3 w else (fn_148 a0 (1 : Int32) w).bind fun v24 => some (v24.1, v24.2)) else none) else none) else none)
theorem jt_154_68 (a0 : Nat) (i1 : Int32) (i2 : Int32) (i3 : Int32) (w : cm_W) : sm cm_g 154 ck_154 kq_154 68 [(0, .ref a0), (1, .int i1), (2, .int i2), (3, .int i3)] [] w ((fn_154_68 a0 i1 i2 i3 w).map cm_gB) := by
  unfold fn_154_68
  refine sm_seg 1 69 [(0, .ref a0), (1, .int i1), (2, .int i2), (3, .int i3)] [.ref a0] rfl ?_
  refine sm_gd fun h14 => ?_
  refine sm_gR rfl h14 rfl rfl fun r15 h16 => ?_
  show sm _ _ _ _ 72 [(0, .ref a0), (1, .int i1), (2, .int i2), (3, .int i3)] [.ref r15] _ _
  refine sm_gd fun h17 => ?_
  refine sm_gR rfl h17 rfl rfl fun r18 h19 => ?_
  show sm _ _ _ _ 75 [(0, .ref a0), (1, .int i1), (2, .int i2), (3, .int i3)] [.ref r18] _ _
  refine sm_gd fun h20 => ?_
  refine sm_cV (as := []) (rest := []) rfl rfl rfl rfl h20 (Nat.le_of_ble_eq_true rfl) (ca_64 w r18) fun v21 h22 => ?_
  show sm _ _ _ _ 78 [(0, .ref a0), (1, .int i1), (2, .int i2), (3, .int i3)] [.int (cm_b v21)] _ _
  refine sm_if (pc1 := 87) (lv1 := [(0, .ref a0), (1, .int i1), (2, .int i2), (3, .int i3)]) (pc2 := 81) (lv2 := [(0, .ref a0), (1, .int i1), (2, .int i2), (3, .int i3)]) (st1 := []) rfl rfl rfl (fun h23 => ?_) (fun h23 => ?_)
  · exact jt_154_87  a0 i1 i2 i3 w
  · refine sm_seg 2 83 [(0, .ref a0), (1, .int i1), (2, .int i2), (3, .int i3)] [.int (1 : Int32), .ref a0] rfl ?_
    refine sm_cV (as := [.int (1 : Int32)]) (rest := []) rfl rfl rfl rfl h14 (Nat.le_of_ble_eq_true rfl) (ca_148  a0 (1 : Int32) w) fun v24 h25 => ?_
    show sm _ _ _ _ 86 [(0, .ref a0), (1, .int i1), (2, .int i2), (3, .int i3)] [.int (cm_b v24.1)] _ _
    exact sm_rBW (b := v24.1) rfl rfl
def fn_154_29 (a0 : Nat) (i1 : Int32) (i2 : Int32) (i3 : Int32) (w : cm_W) : Option (Bool × cm_W) := (if cm_sh w a0 = some (.inl 10) then (fn_146 w a0).bind fun v27 => (if ¬ (cm_b v27) = 0 then fn_154_62  a0 w else (cm_R w a0 5).bind fun r30 => (if cm_sh w r30 = some (.inl 6) then (cm_R w r30 0).bind fun r33 => (if cm_sh w r33 = some (.inl 7) then (fn_7 w r33 i1).bind fun v36 => (if ¬ (cm_b v36) = 0 then fn_154_68  a0 i1 i2 i3 w else fn_154_62  a0 w) else none) else none)) else none)
theorem jt_154_29 (a0 : Nat) (i1 : Int32) (i2 : Int32) (i3 : Int32) (w : cm_W) : sm cm_g 154 ck_154 kq_154 29 [(0, .ref a0), (1, .int i1), (2, .int i2), (3, .int i3)] [] w ((fn_154_29 a0 i1 i2 i3 w).map cm_gB) := by
  unfold fn_154_29
  refine sm_seg 4 37 [(4, .int (1 : Int32)), (0, .ref a0), (1, .int i1), (2, .int i2), (3, .int i3)] [.ref a0] rfl ?_
  refine sm_gd fun h26 => ?_
  refine sm_cV (as := []) (rest := []) rfl rfl rfl rfl h26 (Nat.le_of_ble_eq_true rfl) (ca_146 w a0) fun v27 h28 => ?_
  show sm _ _ _ _ 40 [(4, .int (1 : Int32)), (0, .ref a0), (1, .int i1), (2, .int i2), (3, .int i3)] [.int (cm_b v27)] _ _
  refine sm_if (pc1 := 62) (lv1 := [(0, .ref a0)]) (pc2 := 43) (lv2 := [(4, .int (1 : Int32)), (0, .ref a0), (1, .int i1), (2, .int i2), (3, .int i3)]) (st1 := []) rfl rfl rfl (fun h29 => ?_) (fun h29 => ?_)
  · exact jt_154_62  a0 w
  · refine sm_seg 1 45 [(4, .int (1 : Int32)), (0, .ref a0), (1, .int i1), (2, .int i2), (3, .int i3)] [.int (1 : Int32)] rfl ?_
    refine sm_iff (c := (1 : Int32) = 0) (pc1 := 62) (pc2 := 48) (lv1 := [(4, .int (1 : Int32)), (0, .ref a0), (1, .int i1), (2, .int i2), (3, .int i3)]) (st1 := []) rfl (by decide) rfl ?_
    refine sm_seg 1 49 [(4, .int (1 : Int32)), (0, .ref a0), (1, .int i1), (2, .int i2), (3, .int i3)] [.ref a0] rfl ?_
    refine sm_gR rfl h26 rfl rfl fun r30 h31 => ?_
    show sm _ _ _ _ 52 [(4, .int (1 : Int32)), (0, .ref a0), (1, .int i1), (2, .int i2), (3, .int i3)] [.ref r30] _ _
    refine sm_gd fun h32 => ?_
    refine sm_gR rfl h32 rfl rfl fun r33 h34 => ?_
    show sm _ _ _ _ 55 [(4, .int (1 : Int32)), (0, .ref a0), (1, .int i1), (2, .int i2), (3, .int i3)] [.ref r33] _ _
    refine sm_seg 1 56 [(4, .int (1 : Int32)), (0, .ref a0), (1, .int i1), (2, .int i2), (3, .int i3)] [.int i1, .ref r33] rfl ?_
    refine sm_gd fun h35 => ?_
    refine sm_cV (as := [.int i1]) (rest := []) rfl rfl rfl rfl h35 (Nat.le_of_ble_eq_true rfl) (ca_7 w r33 i1) fun v36 h37 => ?_
    show sm _ _ _ _ 59 [(4, .int (1 : Int32)), (0, .ref a0), (1, .int i1), (2, .int i2), (3, .int i3)] [.int (cm_b v36)] _ _
    refine sm_if (pc1 := 68) (lv1 := [(0, .ref a0), (1, .int i1), (2, .int i2), (3, .int i3)]) (pc2 := 62) (lv2 := [(0, .ref a0)]) (st1 := []) rfl rfl rfl (fun h38 => ?_) (fun h38 => ?_)
    · exact jt_154_68  a0 i1 i2 i3 w
    · exact jt_154_62  a0 w
def fn_154_33 (a0 : Nat) (i1 : Int32) (i2 : Int32) (i3 : Int32) (w : cm_W) : Option (Bool × cm_W) := (if cm_sh w a0 = some (.inl 10) then (fn_146 w a0).bind fun v40 => (if ¬ (cm_b v40) = 0 then fn_154_62  a0 w else fn_154_62  a0 w) else none)
theorem jt_154_33 (a0 : Nat) (i1 : Int32) (i2 : Int32) (i3 : Int32) (w : cm_W) : sm cm_g 154 ck_154 kq_154 33 [(0, .ref a0), (1, .int i1), (2, .int i2), (3, .int i3)] [] w ((fn_154_33 a0 i1 i2 i3 w).map cm_gB) := by
  unfold fn_154_33
  refine sm_seg 3 37 [(4, .int (0 : Int32)), (0, .ref a0), (1, .int i1), (2, .int i2), (3, .int i3)] [.ref a0] rfl ?_
  refine sm_gd fun h39 => ?_
  refine sm_cV (as := []) (rest := []) rfl rfl rfl rfl h39 (Nat.le_of_ble_eq_true rfl) (ca_146 w a0) fun v40 h41 => ?_
  show sm _ _ _ _ 40 [(4, .int (0 : Int32)), (0, .ref a0), (1, .int i1), (2, .int i2), (3, .int i3)] [.int (cm_b v40)] _ _
  refine sm_if (pc1 := 62) (lv1 := [(0, .ref a0)]) (pc2 := 43) (lv2 := [(4, .int (0 : Int32)), (0, .ref a0), (1, .int i1), (2, .int i2), (3, .int i3)]) (st1 := []) rfl rfl rfl (fun h42 => ?_) (fun h42 => ?_)
  · exact jt_154_62  a0 w
  · refine sm_seg 1 45 [(4, .int (0 : Int32)), (0, .ref a0), (1, .int i1), (2, .int i2), (3, .int i3)] [.int (0 : Int32)] rfl ?_
    refine sm_ift (c := (0 : Int32) = 0) (pc1 := 62) (pc2 := 48) (lv1 := [(0, .ref a0)]) (st1 := []) rfl (by decide) rfl ?_
    exact jt_154_62  a0 w
def fn_154_14 (a0 : Nat) (i1 : Int32) (i2 : Int32) (i3 : Int32) (w : cm_W) : Option (Bool × cm_W) := (if ¬ i2 = (1 : Int32) then fn_154_33  a0 i1 i2 i3 w else (if i3 < 0 then fn_154_33  a0 i1 i2 i3 w else (if (9 : Int32) < i3 then fn_154_33  a0 i1 i2 i3 w else fn_154_29  a0 i1 i2 i3 w)))
theorem jt_154_14 (a0 : Nat) (i1 : Int32) (i2 : Int32) (i3 : Int32) (w : cm_W) : sm cm_g 154 ck_154 kq_154 14 [(0, .ref a0), (1, .int i1), (2, .int i2), (3, .int i3)] [] w ((fn_154_14 a0 i1 i2 i3 w).map cm_gB) := by
  unfold fn_154_14
  refine sm_seg 2 16 [(0, .ref a0), (1, .int i1), (2, .int i2), (3, .int i3)] [.int (1 : Int32), .int i2] rfl ?_
  refine sm_if (pc1 := 33) (lv1 := [(0, .ref a0), (1, .int i1), (2, .int i2), (3, .int i3)]) (pc2 := 19) (lv2 := [(0, .ref a0), (1, .int i1), (2, .int i2), (3, .int i3)]) (st1 := []) rfl rfl rfl (fun h43 => ?_) (fun h43 => ?_)
  · exact jt_154_33  a0 i1 i2 i3 w
  · refine sm_seg 1 20 [(0, .ref a0), (1, .int i1), (2, .int i2), (3, .int i3)] [.int i3] rfl ?_
    refine sm_if (pc1 := 33) (lv1 := [(0, .ref a0), (1, .int i1), (2, .int i2), (3, .int i3)]) (pc2 := 23) (lv2 := [(0, .ref a0), (1, .int i1), (2, .int i2), (3, .int i3)]) (st1 := []) rfl rfl rfl (fun h44 => ?_) (fun h44 => ?_)
    · exact jt_154_33  a0 i1 i2 i3 w
    · refine sm_seg 2 26 [(0, .ref a0), (1, .int i1), (2, .int i2), (3, .int i3)] [.int (9 : Int32), .int i3] rfl ?_
      refine sm_if (pc1 := 33) (lv1 := [(0, .ref a0), (1, .int i1), (2, .int i2), (3, .int i3)]) (pc2 := 29) (lv2 := [(0, .ref a0), (1, .int i1), (2, .int i2), (3, .int i3)]) (st1 := []) rfl rfl rfl (fun h45 => ?_) (fun h45 => ?_)
      · exact jt_154_33  a0 i1 i2 i3 w
      · exact jt_154_29  a0 i1 i2 i3 w
def fn_154 (a0 : Nat) (i1 : Int32) (i2 : Int32) (i3 : Int32) (w : cm_W) : Option (Bool × cm_W) := (if ¬ i2 = 0 then fn_154_14  a0 i1 i2 i3 w else (if i3 < 0 then fn_154_14  a0 i1 i2 i3 w else (if i3 ≤ (99 : Int32) then fn_154_29  a0 i1 i2 i3 w else fn_154_14  a0 i1 i2 i3 w)))
theorem jt_154_0 (a0 : Nat) (i1 : Int32) (i2 : Int32) (i3 : Int32) (w : cm_W) : sm cm_g 154 ck_154 kq_154 0 [(0, .ref a0), (1, .int i1), (2, .int i2), (3, .int i3)] [] w ((fn_154 a0 i1 i2 i3 w).map cm_gB) := by
  unfold fn_154
  refine sm_seg 1 1 [(0, .ref a0), (1, .int i1), (2, .int i2), (3, .int i3)] [.int i2] rfl ?_
  refine sm_if (pc1 := 14) (lv1 := [(0, .ref a0), (1, .int i1), (2, .int i2), (3, .int i3)]) (pc2 := 4) (lv2 := [(0, .ref a0), (1, .int i1), (2, .int i2), (3, .int i3)]) (st1 := []) rfl rfl rfl (fun h46 => ?_) (fun h46 => ?_)
  · exact jt_154_14  a0 i1 i2 i3 w
  · refine sm_seg 1 5 [(0, .ref a0), (1, .int i1), (2, .int i2), (3, .int i3)] [.int i3] rfl ?_
    refine sm_if (pc1 := 14) (lv1 := [(0, .ref a0), (1, .int i1), (2, .int i2), (3, .int i3)]) (pc2 := 8) (lv2 := [(0, .ref a0), (1, .int i1), (2, .int i2), (3, .int i3)]) (st1 := []) rfl rfl rfl (fun h47 => ?_) (fun h47 => ?_)
    · exact jt_154_14  a0 i1 i2 i3 w
    · refine sm_seg 2 11 [(0, .ref a0), (1, .int i1), (2, .int i2), (3, .int i3)] [.int (99 : Int32), .int i3] rfl ?_
      refine sm_if (pc1 := 29) (lv1 := [(0, .ref a0), (1, .int i1), (2, .int i2), (3, .int i3)]) (pc2 := 14) (lv2 := [(0, .ref a0), (1, .int i1), (2, .int i2), (3, .int i3)]) (st1 := []) rfl rfl rfl (fun h48 => ?_) (fun h48 => ?_)
      · exact jt_154_29  a0 i1 i2 i3 w
      · exact jt_154_14  a0 i1 i2 i3 w
theorem ca_154 (a0 : Nat) (i1 : Int32) (i2 : Int32) (i3 : Int32) (w : cm_W) : cm_ca cm_g 154 [.ref a0, .int i1, .int i2, .int i3] w ((fn_154 a0 i1 i2 i3 w).map cm_gB) := cm_ca_of (cm_me_of rfl rfl) rfl (jt_154_0 a0 i1 i2 i3 w)
-- NailedBoxes.open(I)I
def fn_155_21 (a0 : Nat) (w : cm_W) : Option (Int32 × cm_W) := (if cm_sh w a0 = some (.inl 10) then (fn_140 a0 (0 : Int32) w).bind fun v2 => some (v2.1, v2.2) else none)
theorem jt_155_21 (a0 : Nat) (w : cm_W) : sm cm_g 155 ck_155 kq_155 21 [(0, .ref a0)] [] w ((fn_155_21 a0 w).map cm_gI) := by
  unfold fn_155_21
  refine sm_seg 2 23 [(0, .ref a0)] [.int (0 : Int32), .ref a0] rfl ?_
  refine sm_gd fun h1 => ?_
  refine sm_cV (as := [.int (0 : Int32)]) (rest := []) rfl rfl rfl rfl h1 (Nat.le_of_ble_eq_true rfl) (ca_140  a0 (0 : Int32) w) fun v2 h3 => ?_
  show sm _ _ _ _ 26 [(0, .ref a0)] [.int v2.1] _ _
  exact sm_rIW rfl rfl
def fn_155_27 (a0 : Nat) (i1 : Int32) (w : cm_W) : Option (Int32 × cm_W) := (if cm_sh w a0 = some (.inl 10) then (cm_R w a0 5).bind fun r5 => (cm_R w a0 5).bind fun r7 => (if cm_sh w r7 = some (.inl 6) then (fn_17 w r7 i1).bind fun v10 => (if cm_sh w r5 = some (.inl 6) then (fn_101 r5 i1 v10 w).bind fun w13 => (if cm_sh w13 a0 = some (.inl 10) then (cm_R w13 a0 5).bind fun r16 => (if cm_sh w13 r16 = some (.inl 6) then (cm_R w13 r16 0).bind fun r19 => (if cm_sh w13 r19 = some (.inl 7) then (fn_1 w13 r19 i1 (1 : Int32)).bind fun v22 => some (v22, w13) else none) else none) else none) else none) else none) else none)
theorem jt_155_27 (a0 : Nat) (i1 : Int32) (w : cm_W) : sm cm_g 155 ck_155 kq_155 27 [(0, .ref a0), (1, .int i1)] [] w ((fn_155_27 a0 i1 w).map cm_gI) := by
  unfold fn_155_27
  refine sm_seg 1 28 [(0, .ref a0), (1, .int i1)] [.ref a0] rfl ?_
  refine sm_gd fun h4 => ?_
  refine sm_gR rfl h4 rfl rfl fun r5 h6 => ?_
  show sm _ _ _ _ 31 [(0, .ref a0), (1, .int i1)] [.ref r5] _ _
  refine sm_seg 2 33 [(0, .ref a0), (1, .int i1)] [.ref a0, .int i1, .ref r5] rfl ?_
  refine sm_gR rfl h4 rfl rfl fun r7 h8 => ?_
  show sm _ _ _ _ 36 [(0, .ref a0), (1, .int i1)] [.ref r7, .int i1, .ref r5] _ _
  refine sm_seg 1 37 [(0, .ref a0), (1, .int i1)] [.int i1, .ref r7, .int i1, .ref r5] rfl ?_
  refine sm_gd fun h9 => ?_
  refine sm_cV (as := [.int i1]) (rest := [.int i1, .ref r5]) rfl rfl rfl rfl h9 (Nat.le_of_ble_eq_true rfl) (ca_17 w r7 i1) fun v10 h11 => ?_
  show sm _ _ _ _ 40 [(0, .ref a0), (1, .int i1)] [.int v10, .int i1, .ref r5] _ _
  refine sm_gd fun h12 => ?_
  refine sm_cV (as := [.int i1, .int v10]) (rest := []) rfl rfl rfl rfl h12 (Nat.le_of_ble_eq_true rfl) (ca_101  r5 i1 v10 w) fun w13 h14 => ?_
  show sm _ _ _ _ 43 [(0, .ref a0), (1, .int i1)] [] _ _
  refine sm_seg 1 44 [(0, .ref a0), (1, .int i1)] [.ref a0] rfl ?_
  refine sm_gd fun h15 => ?_
  refine sm_gR rfl h15 rfl rfl fun r16 h17 => ?_
  show sm _ _ _ _ 47 [(0, .ref a0), (1, .int i1)] [.ref r16] _ _
  refine sm_gd fun h18 => ?_
  refine sm_gR rfl h18 rfl rfl fun r19 h20 => ?_
  show sm _ _ _ _ 50 [(0, .ref a0), (1, .int i1)] [.ref r19] _ _
  refine sm_seg 2 52 [(0, .ref a0), (1, .int i1)] [.int (1 : Int32), .int i1, .ref r19] rfl ?_
  refine sm_gd fun h21 => ?_
  refine sm_cV (as := [.int i1, .int (1 : Int32)]) (rest := []) rfl rfl rfl rfl h21 (Nat.le_of_ble_eq_true rfl) (ca_1 w13 r19 i1 (1 : Int32)) fun v22 h23 => ?_
  show sm _ _ _ _ 55 [(0, .ref a0), (1, .int i1)] [.int v22] _ _
  exact sm_rIW rfl rfl
def fn_155 (a0 : Nat) (i1 : Int32) (w : cm_W) : Option (Int32 × cm_W) := (if cm_sh w a0 = some (.inl 10) then (fn_146 w a0).bind fun v25 => (if ¬ (cm_b v25) = 0 then fn_155_21  a0 w else (cm_R w a0 5).bind fun r28 => (if cm_sh w r28 = some (.inl 6) then (cm_R w r28 0).bind fun r31 => (if cm_sh w r31 = some (.inl 7) then (fn_7 w r31 i1).bind fun v34 => (if ¬ (cm_b v34) = 0 then fn_155_27  a0 i1 w else fn_155_21  a0 w) else none) else none)) else none)
theorem jt_155_0 (a0 : Nat) (i1 : Int32) (w : cm_W) : sm cm_g 155 ck_155 kq_155 0 [(0, .ref a0), (1, .int i1)] [] w ((fn_155 a0 i1 w).map cm_gI) := by
  unfold fn_155
  refine sm_seg 1 1 [(0, .ref a0), (1, .int i1)] [.ref a0] rfl ?_
  refine sm_gd fun h24 => ?_
  refine sm_cV (as := []) (rest := []) rfl rfl rfl rfl h24 (Nat.le_of_ble_eq_true rfl) (ca_146 w a0) fun v25 h26 => ?_
  show sm _ _ _ _ 4 [(0, .ref a0), (1, .int i1)] [.int (cm_b v25)] _ _
  refine sm_if (pc1 := 21) (lv1 := [(0, .ref a0)]) (pc2 := 7) (lv2 := [(0, .ref a0), (1, .int i1)]) (st1 := []) rfl rfl rfl (fun h27 => ?_) (fun h27 => ?_)
  · exact jt_155_21  a0 w
  · refine sm_seg 1 8 [(0, .ref a0), (1, .int i1)] [.ref a0] rfl ?_
    refine sm_gR rfl h24 rfl rfl fun r28 h29 => ?_
    show sm _ _ _ _ 11 [(0, .ref a0), (1, .int i1)] [.ref r28] _ _
    refine sm_gd fun h30 => ?_
    refine sm_gR rfl h30 rfl rfl fun r31 h32 => ?_
    show sm _ _ _ _ 14 [(0, .ref a0), (1, .int i1)] [.ref r31] _ _
    refine sm_seg 1 15 [(0, .ref a0), (1, .int i1)] [.int i1, .ref r31] rfl ?_
    refine sm_gd fun h33 => ?_
    refine sm_cV (as := [.int i1]) (rest := []) rfl rfl rfl rfl h33 (Nat.le_of_ble_eq_true rfl) (ca_7 w r31 i1) fun v34 h35 => ?_
    show sm _ _ _ _ 18 [(0, .ref a0), (1, .int i1)] [.int (cm_b v34)] _ _
    refine sm_if (pc1 := 27) (lv1 := [(0, .ref a0), (1, .int i1)]) (pc2 := 21) (lv2 := [(0, .ref a0)]) (st1 := []) rfl rfl rfl (fun h36 => ?_) (fun h36 => ?_)
    · exact jt_155_27  a0 i1 w
    · exact jt_155_21  a0 w
theorem ca_155 (a0 : Nat) (i1 : Int32) (w : cm_W) : cm_ca cm_g 155 [.ref a0, .int i1] w ((fn_155 a0 i1 w).map cm_gI) := cm_ca_of (cm_me_of rfl rfl) rfl (jt_155_0 a0 i1 w)
-- NailedBoxes.told(II)I
def fn_156_73 (w : cm_W) (a0 : Nat) (i1 : Int32) : Option Int32 := (if cm_sh w a0 = some (.inl 10) then (cm_R w a0 5).bind fun r2 => (if cm_sh w r2 = some (.inl 6) then (fn_17 w r2 i1).bind fun v5 => some v5 else none) else none)
theorem jt_156_73 (w : cm_W) (a0 : Nat) (i1 : Int32) : sm cm_g 156 ck_156 kq_156 73 [(0, .ref a0), (1, .int i1)] [] w ((fn_156_73 w a0 i1).map (cm_fI w)) := by
  unfold fn_156_73
  refine sm_seg 1 74 [(0, .ref a0), (1, .int i1)] [.ref a0] rfl ?_
  refine sm_gd fun h1 => ?_
  refine sm_gR rfl h1 rfl rfl fun r2 h3 => ?_
  show sm _ _ _ _ 77 [(0, .ref a0), (1, .int i1)] [.ref r2] _ _
  refine sm_seg 1 78 [(0, .ref a0), (1, .int i1)] [.int i1, .ref r2] rfl ?_
  refine sm_gd fun h4 => ?_
  refine sm_cV (as := [.int i1]) (rest := []) rfl rfl rfl rfl h4 (Nat.le_of_ble_eq_true rfl) (ca_17 w r2 i1) fun v5 h6 => ?_
  show sm _ _ _ _ 81 [(0, .ref a0), (1, .int i1)] [.int v5] _ _
  exact sm_rI rfl rfl
def fn_156_82 (w : cm_W) (a0 : Nat) (i1 : Int32) : Option Int32 := (if cm_sh w a0 = some (.inl 10) then (cm_R w a0 5).bind fun r8 => (if cm_sh w r8 = some (.inl 6) then (cm_R w r8 0).bind fun r11 => (if cm_sh w r11 = some (.inl 7) then (fn_1 w r11 i1 (3 : Int32)).bind fun v14 => some v14 else none) else none) else none)
theorem jt_156_82 (w : cm_W) (a0 : Nat) (i1 : Int32) : sm cm_g 156 ck_156 kq_156 82 [(0, .ref a0), (1, .int i1)] [] w ((fn_156_82 w a0 i1).map (cm_fI w)) := by
  unfold fn_156_82
  refine sm_seg 1 83 [(0, .ref a0), (1, .int i1)] [.ref a0] rfl ?_
  refine sm_gd fun h7 => ?_
  refine sm_gR rfl h7 rfl rfl fun r8 h9 => ?_
  show sm _ _ _ _ 86 [(0, .ref a0), (1, .int i1)] [.ref r8] _ _
  refine sm_gd fun h10 => ?_
  refine sm_gR rfl h10 rfl rfl fun r11 h12 => ?_
  show sm _ _ _ _ 89 [(0, .ref a0), (1, .int i1)] [.ref r11] _ _
  refine sm_seg 2 91 [(0, .ref a0), (1, .int i1)] [.int (3 : Int32), .int i1, .ref r11] rfl ?_
  refine sm_gd fun h13 => ?_
  refine sm_cV (as := [.int i1, .int (3 : Int32)]) (rest := []) rfl rfl rfl rfl h13 (Nat.le_of_ble_eq_true rfl) (ca_1 w r11 i1 (3 : Int32)) fun v14 h15 => ?_
  show sm _ _ _ _ 94 [(0, .ref a0), (1, .int i1)] [.int v14] _ _
  exact sm_rI rfl rfl
def fn_156_95 (w : cm_W) (a0 : Nat) (i1 : Int32) : Option Int32 := (if cm_sh w a0 = some (.inl 10) then (cm_R w a0 5).bind fun r17 => (if cm_sh w r17 = some (.inl 6) then (fn_117 w r17 i1).bind fun v20 => some v20 else none) else none)
theorem jt_156_95 (w : cm_W) (a0 : Nat) (i1 : Int32) : sm cm_g 156 ck_156 kq_156 95 [(0, .ref a0), (1, .int i1)] [] w ((fn_156_95 w a0 i1).map (cm_fI w)) := by
  unfold fn_156_95
  refine sm_seg 1 96 [(0, .ref a0), (1, .int i1)] [.ref a0] rfl ?_
  refine sm_gd fun h16 => ?_
  refine sm_gR rfl h16 rfl rfl fun r17 h18 => ?_
  show sm _ _ _ _ 99 [(0, .ref a0), (1, .int i1)] [.ref r17] _ _
  refine sm_seg 1 100 [(0, .ref a0), (1, .int i1)] [.int i1, .ref r17] rfl ?_
  refine sm_gd fun h19 => ?_
  refine sm_cV (as := [.int i1]) (rest := []) rfl rfl rfl rfl h19 (Nat.le_of_ble_eq_true rfl) (ca_117 w r17 i1) fun v20 h21 => ?_
  show sm _ _ _ _ 103 [(0, .ref a0), (1, .int i1)] [.int v20] _ _
  exact sm_rI rfl rfl
def fn_156_104 (w : cm_W) (a0 : Nat) (i1 : Int32) : Option Int32 := (if cm_sh w a0 = some (.inl 10) then (fn_146 w a0).bind fun v23 => (if (cm_b v23) = 0 then some (-1 : Int32) else (cm_R w a0 5).bind fun r26 => (if cm_sh w r26 = some (.inl 6) then (cm_R w r26 0).bind fun r29 => (if cm_sh w r29 = some (.inl 7) then (fn_1 w r29 i1 (1 : Int32)).bind fun v32 => some v32 else none) else none)) else none)
theorem jt_156_104 (w : cm_W) (a0 : Nat) (i1 : Int32) : sm cm_g 156 ck_156 kq_156 104 [(0, .ref a0), (1, .int i1)] [] w ((fn_156_104 w a0 i1).map (cm_fI w)) := by
  unfold fn_156_104
  refine sm_seg 1 105 [(0, .ref a0), (1, .int i1)] [.ref a0] rfl ?_
  refine sm_gd fun h22 => ?_
  refine sm_cV (as := []) (rest := []) rfl rfl rfl rfl h22 (Nat.le_of_ble_eq_true rfl) (ca_146 w a0) fun v23 h24 => ?_
  show sm _ _ _ _ 108 [(0, .ref a0), (1, .int i1)] [.int (cm_b v23)] _ _
  refine sm_if (pc1 := 126) (lv1 := []) (pc2 := 111) (lv2 := [(0, .ref a0), (1, .int i1)]) (st1 := []) rfl rfl rfl (fun h25 => ?_) (fun h25 => ?_)
  · refine sm_seg 1 127 [] [.int (-1 : Int32)] rfl ?_
    exact sm_rI rfl rfl
  · refine sm_seg 1 112 [(0, .ref a0), (1, .int i1)] [.ref a0] rfl ?_
    refine sm_gR rfl h22 rfl rfl fun r26 h27 => ?_
    show sm _ _ _ _ 115 [(0, .ref a0), (1, .int i1)] [.ref r26] _ _
    refine sm_gd fun h28 => ?_
    refine sm_gR rfl h28 rfl rfl fun r29 h30 => ?_
    show sm _ _ _ _ 118 [(0, .ref a0), (1, .int i1)] [.ref r29] _ _
    refine sm_seg 2 120 [(0, .ref a0), (1, .int i1)] [.int (1 : Int32), .int i1, .ref r29] rfl ?_
    refine sm_gd fun h31 => ?_
    refine sm_cV (as := [.int i1, .int (1 : Int32)]) (rest := []) rfl rfl rfl rfl h31 (Nat.le_of_ble_eq_true rfl) (ca_1 w r29 i1 (1 : Int32)) fun v32 h33 => ?_
    show sm _ _ _ _ 123 [(0, .ref a0), (1, .int i1)] [.int v32] _ _
    refine sm_seg 1 127 [] [.int v32] rfl ?_
    exact sm_rI rfl rfl
def fn_156_128 (w : cm_W) (a0 : Nat) (i1 : Int32) : Option Int32 := (if cm_sh w a0 = some (.inl 10) then (cm_R w a0 5).bind fun r35 => (if cm_sh w r35 = some (.inl 6) then (cm_R w r35 0).bind fun r38 => (if cm_sh w r38 = some (.inl 7) then (fn_1 w r38 i1 (4 : Int32)).bind fun v41 => some v41 else none) else none) else none)
theorem jt_156_128 (w : cm_W) (a0 : Nat) (i1 : Int32) : sm cm_g 156 ck_156 kq_156 128 [(0, .ref a0), (1, .int i1)] [] w ((fn_156_128 w a0 i1).map (cm_fI w)) := by
  unfold fn_156_128
  refine sm_seg 1 129 [(0, .ref a0), (1, .int i1)] [.ref a0] rfl ?_
  refine sm_gd fun h34 => ?_
  refine sm_gR rfl h34 rfl rfl fun r35 h36 => ?_
  show sm _ _ _ _ 132 [(0, .ref a0), (1, .int i1)] [.ref r35] _ _
  refine sm_gd fun h37 => ?_
  refine sm_gR rfl h37 rfl rfl fun r38 h39 => ?_
  show sm _ _ _ _ 135 [(0, .ref a0), (1, .int i1)] [.ref r38] _ _
  refine sm_seg 2 137 [(0, .ref a0), (1, .int i1)] [.int (4 : Int32), .int i1, .ref r38] rfl ?_
  refine sm_gd fun h40 => ?_
  refine sm_cV (as := [.int i1, .int (4 : Int32)]) (rest := []) rfl rfl rfl rfl h40 (Nat.le_of_ble_eq_true rfl) (ca_1 w r38 i1 (4 : Int32)) fun v41 h42 => ?_
  show sm _ _ _ _ 140 [(0, .ref a0), (1, .int i1)] [.int v41] _ _
  exact sm_rI rfl rfl
def fn_156_141 (w : cm_W) (a0 : Nat) (i1 : Int32) : Option Int32 := (if cm_sh w a0 = some (.inl 10) then (cm_R w a0 5).bind fun r44 => (if cm_sh w r44 = some (.inl 6) then (cm_R w r44 0).bind fun r47 => (if cm_sh w r47 = some (.inl 7) then (fn_1 w r47 i1 (5 : Int32)).bind fun v50 => some v50 else none) else none) else none)
theorem jt_156_141 (w : cm_W) (a0 : Nat) (i1 : Int32) : sm cm_g 156 ck_156 kq_156 141 [(0, .ref a0), (1, .int i1)] [] w ((fn_156_141 w a0 i1).map (cm_fI w)) := by
  unfold fn_156_141
  refine sm_seg 1 142 [(0, .ref a0), (1, .int i1)] [.ref a0] rfl ?_
  refine sm_gd fun h43 => ?_
  refine sm_gR rfl h43 rfl rfl fun r44 h45 => ?_
  show sm _ _ _ _ 145 [(0, .ref a0), (1, .int i1)] [.ref r44] _ _
  refine sm_gd fun h46 => ?_
  refine sm_gR rfl h46 rfl rfl fun r47 h48 => ?_
  show sm _ _ _ _ 148 [(0, .ref a0), (1, .int i1)] [.ref r47] _ _
  refine sm_seg 2 150 [(0, .ref a0), (1, .int i1)] [.int (5 : Int32), .int i1, .ref r47] rfl ?_
  refine sm_gd fun h49 => ?_
  refine sm_cV (as := [.int i1, .int (5 : Int32)]) (rest := []) rfl rfl rfl rfl h49 (Nat.le_of_ble_eq_true rfl) (ca_1 w r47 i1 (5 : Int32)) fun v50 h51 => ?_
  show sm _ _ _ _ 153 [(0, .ref a0), (1, .int i1)] [.int v50] _ _
  exact sm_rI rfl rfl
def fn_156_16 (w : cm_W) (a0 : Nat) (i1 : Int32) (i2 : Int32) : Option Int32 := (if i2 = (0 : Int32) then (if cm_sh w a0 = some (.inl 10) then (cm_R w a0 5).bind fun r54 => (if cm_sh w r54 = some (.inl 6) then (cm_R w r54 0).bind fun r57 => (if cm_sh w r57 = some (.inl 7) then (fn_1 w r57 i1 (0 : Int32)).bind fun v60 => some v60 else none) else none) else none) else (if i2 = (1 : Int32) then fn_156_73 w a0 i1 else (if i2 = (2 : Int32) then fn_156_82 w a0 i1 else (if i2 = (3 : Int32) then fn_156_95 w a0 i1 else (if i2 = (4 : Int32) then fn_156_104 w a0 i1 else (if i2 = (5 : Int32) then fn_156_128 w a0 i1 else (if i2 = (6 : Int32) then fn_156_141 w a0 i1 else some (-1 : Int32))))))))
theorem jt_156_16 (w : cm_W) (a0 : Nat) (i1 : Int32) (i2 : Int32) : sm cm_g 156 ck_156 kq_156 16 [(0, .ref a0), (1, .int i1), (2, .int i2)] [] w ((fn_156_16 w a0 i1 i2).map (cm_fI w)) := by
  unfold fn_156_16
  refine sm_seg 1 17 [(0, .ref a0), (1, .int i1), (2, .int i2)] [.int i2] rfl ?_
  refine sm_br (fun h52 => ?_) (fun h52 => ?_)
  · refine sm_ts (off := (43)) (pc1 := 60) (lv1 := [(0, .ref a0), (1, .int i1), (2, .int i2)]) rfl (by rw [h52]; rfl) rfl rfl ?_
    refine sm_seg 1 61 [(0, .ref a0), (1, .int i1), (2, .int i2)] [.ref a0] rfl ?_
    refine sm_gd fun h53 => ?_
    refine sm_gR rfl h53 rfl rfl fun r54 h55 => ?_
    show sm _ _ _ _ 64 [(0, .ref a0), (1, .int i1), (2, .int i2)] [.ref r54] _ _
    refine sm_gd fun h56 => ?_
    refine sm_gR rfl h56 rfl rfl fun r57 h58 => ?_
    show sm _ _ _ _ 67 [(0, .ref a0), (1, .int i1), (2, .int i2)] [.ref r57] _ _
    refine sm_seg 2 69 [(0, .ref a0), (1, .int i1), (2, .int i2)] [.int (0 : Int32), .int i1, .ref r57] rfl ?_
    refine sm_gd fun h59 => ?_
    refine sm_cV (as := [.int i1, .int (0 : Int32)]) (rest := []) rfl rfl rfl rfl h59 (Nat.le_of_ble_eq_true rfl) (ca_1 w r57 i1 (0 : Int32)) fun v60 h61 => ?_
    show sm _ _ _ _ 72 [(0, .ref a0), (1, .int i1), (2, .int i2)] [.int v60] _ _
    exact sm_rI rfl rfl
  refine sm_br (fun h62 => ?_) (fun h62 => ?_)
  · refine sm_ts (off := (56)) (pc1 := 73) (lv1 := [(0, .ref a0), (1, .int i1)]) rfl (by rw [h62]; rfl) rfl rfl ?_
    exact jt_156_73 w a0 i1
  refine sm_br (fun h63 => ?_) (fun h63 => ?_)
  · refine sm_ts (off := (65)) (pc1 := 82) (lv1 := [(0, .ref a0), (1, .int i1)]) rfl (by rw [h63]; rfl) rfl rfl ?_
    exact jt_156_82 w a0 i1
  refine sm_br (fun h64 => ?_) (fun h64 => ?_)
  · refine sm_ts (off := (78)) (pc1 := 95) (lv1 := [(0, .ref a0), (1, .int i1)]) rfl (by rw [h64]; rfl) rfl rfl ?_
    exact jt_156_95 w a0 i1
  refine sm_br (fun h65 => ?_) (fun h65 => ?_)
  · refine sm_ts (off := (87)) (pc1 := 104) (lv1 := [(0, .ref a0), (1, .int i1)]) rfl (by rw [h65]; rfl) rfl rfl ?_
    exact jt_156_104 w a0 i1
  refine sm_br (fun h66 => ?_) (fun h66 => ?_)
  · refine sm_ts (off := (111)) (pc1 := 128) (lv1 := [(0, .ref a0), (1, .int i1)]) rfl (by rw [h66]; rfl) rfl rfl ?_
    exact jt_156_128 w a0 i1
  refine sm_br (fun h67 => ?_) (fun h67 => ?_)
  · refine sm_ts (off := (124)) (pc1 := 141) (lv1 := [(0, .ref a0), (1, .int i1)]) rfl (by rw [h67]; rfl) rfl rfl ?_
    exact jt_156_141 w a0 i1
  refine sm_ts (off := (137)) (pc1 := 154) (lv1 := []) rfl (cm_tsd (n := 7) rfl rfl (fun j hj => match j, hj with | 0, _ => .inr (cm_ne h52 rfl) | 1, _ => .inr (cm_ne h62 rfl) | 2, _ => .inr (cm_ne h63 rfl) | 3, _ => .inr (cm_ne h64 rfl) | 4, _ => .inr (cm_ne h65 rfl) | 5, _ => .inr (cm_ne h66 rfl) | 6, _ => .inr (cm_ne h67 rfl) | _ + 7, h => absurd h (by omega))) rfl rfl ?_
  refine sm_seg 1 155 [] [.int (-1 : Int32)] rfl ?_
  exact sm_rI rfl rfl
def fn_156 (w : cm_W) (a0 : Nat) (i1 : Int32) (i2 : Int32) : Option Int32 := (if cm_sh w a0 = some (.inl 10) then (cm_R w a0 5).bind fun r69 => (if cm_sh w r69 = some (.inl 6) then (cm_R w r69 0).bind fun r72 => (if cm_sh w r72 = some (.inl 7) then (fn_7 w r72 i1).bind fun v75 => (if ¬ (cm_b v75) = 0 then fn_156_16 w a0 i1 i2 else some (-1 : Int32)) else none) else none) else none)
theorem jt_156_0 (w : cm_W) (a0 : Nat) (i1 : Int32) (i2 : Int32) : sm cm_g 156 ck_156 kq_156 0 [(0, .ref a0), (1, .int i1), (2, .int i2)] [] w ((fn_156 w a0 i1 i2).map (cm_fI w)) := by
  unfold fn_156
  refine sm_seg 1 1 [(0, .ref a0), (1, .int i1), (2, .int i2)] [.ref a0] rfl ?_
  refine sm_gd fun h68 => ?_
  refine sm_gR rfl h68 rfl rfl fun r69 h70 => ?_
  show sm _ _ _ _ 4 [(0, .ref a0), (1, .int i1), (2, .int i2)] [.ref r69] _ _
  refine sm_gd fun h71 => ?_
  refine sm_gR rfl h71 rfl rfl fun r72 h73 => ?_
  show sm _ _ _ _ 7 [(0, .ref a0), (1, .int i1), (2, .int i2)] [.ref r72] _ _
  refine sm_seg 1 8 [(0, .ref a0), (1, .int i1), (2, .int i2)] [.int i1, .ref r72] rfl ?_
  refine sm_gd fun h74 => ?_
  refine sm_cV (as := [.int i1]) (rest := []) rfl rfl rfl rfl h74 (Nat.le_of_ble_eq_true rfl) (ca_7 w r72 i1) fun v75 h76 => ?_
  show sm _ _ _ _ 11 [(0, .ref a0), (1, .int i1), (2, .int i2)] [.int (cm_b v75)] _ _
  refine sm_if (pc1 := 16) (lv1 := [(0, .ref a0), (1, .int i1), (2, .int i2)]) (pc2 := 14) (lv2 := [(0, .ref a0), (1, .int i1), (2, .int i2)]) (st1 := []) rfl rfl rfl (fun h77 => ?_) (fun h77 => ?_)
  · exact jt_156_16 w a0 i1 i2
  · refine sm_seg 1 15 [(0, .ref a0), (1, .int i1), (2, .int i2)] [.int (-1 : Int32)] rfl ?_
    exact sm_rI rfl rfl
theorem ca_156 (w : cm_W) (a0 : Nat) (i1 : Int32) (i2 : Int32) : cm_ca cm_g 156 [.ref a0, .int i1, .int i2] w ((fn_156 w a0 i1 i2).map (cm_fI w)) := cm_ca_of (cm_me_of rfl rfl) rfl (jt_156_0 w a0 i1 i2)
-- NailedBoxes.record(III)I
def fn_157_11 (w : cm_W) (a0 : Nat) (i1 : Int32) (i2 : Int32) (i3 : Int32) : Option Int32 := (if cm_sh w a0 = some (.inl 10) then (cm_R w a0 5).bind fun r2 => (if cm_sh w r2 = some (.inl 6) then (cm_R w r2 1).bind fun r5 => (cm_R w a0 5).bind fun r7 => (if cm_sh w r7 = some (.inl 6) then (fn_118 w r7 i1 i2).bind fun v10 => (if cm_sh w r5 = some (.inl 7) then (fn_1 w r5 v10 i3).bind fun v13 => some v13 else none) else none) else none) else none)
theorem jt_157_11 (w : cm_W) (a0 : Nat) (i1 : Int32) (i2 : Int32) (i3 : Int32) : sm cm_g 157 ck_157 kq_157 11 [(0, .ref a0), (1, .int i1), (2, .int i2), (3, .int i3)] [] w ((fn_157_11 w a0 i1 i2 i3).map (cm_fI w)) := by
  unfold fn_157_11
  refine sm_seg 1 12 [(0, .ref a0), (1, .int i1), (2, .int i2), (3, .int i3)] [.ref a0] rfl ?_
  refine sm_gd fun h1 => ?_
  refine sm_gR rfl h1 rfl rfl fun r2 h3 => ?_
  show sm _ _ _ _ 15 [(0, .ref a0), (1, .int i1), (2, .int i2), (3, .int i3)] [.ref r2] _ _
  refine sm_gd fun h4 => ?_
  refine sm_gR rfl h4 rfl rfl fun r5 h6 => ?_
  show sm _ _ _ _ 18 [(0, .ref a0), (1, .int i1), (2, .int i2), (3, .int i3)] [.ref r5] _ _
  refine sm_seg 1 19 [(0, .ref a0), (1, .int i1), (2, .int i2), (3, .int i3)] [.ref a0, .ref r5] rfl ?_
  refine sm_gR rfl h1 rfl rfl fun r7 h8 => ?_
  show sm _ _ _ _ 22 [(0, .ref a0), (1, .int i1), (2, .int i2), (3, .int i3)] [.ref r7, .ref r5] _ _
  refine sm_seg 2 24 [(0, .ref a0), (1, .int i1), (2, .int i2), (3, .int i3)] [.int i2, .int i1, .ref r7, .ref r5] rfl ?_
  refine sm_gd fun h9 => ?_
  refine sm_cV (as := [.int i1, .int i2]) (rest := [.ref r5]) rfl rfl rfl rfl h9 (Nat.le_of_ble_eq_true rfl) (ca_118 w r7 i1 i2) fun v10 h11 => ?_
  show sm _ _ _ _ 27 [(0, .ref a0), (1, .int i1), (2, .int i2), (3, .int i3)] [.int v10, .ref r5] _ _
  refine sm_seg 1 28 [(0, .ref a0), (1, .int i1), (2, .int i2), (3, .int i3)] [.int i3, .int v10, .ref r5] rfl ?_
  refine sm_gd fun h12 => ?_
  refine sm_cV (as := [.int v10, .int i3]) (rest := []) rfl rfl rfl rfl h12 (Nat.le_of_ble_eq_true rfl) (ca_1 w r5 v10 i3) fun v13 h14 => ?_
  show sm _ _ _ _ 31 [(0, .ref a0), (1, .int i1), (2, .int i2), (3, .int i3)] [.int v13] _ _
  exact sm_rI rfl rfl
def fn_157 (w : cm_W) (a0 : Nat) (i1 : Int32) (i2 : Int32) (i3 : Int32) : Option Int32 := (if i3 < 0 then some (-1 : Int32) else (if i3 ≤ (4 : Int32) then fn_157_11 w a0 i1 i2 i3 else some (-1 : Int32)))
theorem jt_157_0 (w : cm_W) (a0 : Nat) (i1 : Int32) (i2 : Int32) (i3 : Int32) : sm cm_g 157 ck_157 kq_157 0 [(0, .ref a0), (1, .int i1), (2, .int i2), (3, .int i3)] [] w ((fn_157 w a0 i1 i2 i3).map (cm_fI w)) := by
  unfold fn_157
  refine sm_seg 1 1 [(0, .ref a0), (1, .int i1), (2, .int i2), (3, .int i3)] [.int i3] rfl ?_
  refine sm_if (pc1 := 9) (lv1 := []) (pc2 := 4) (lv2 := [(0, .ref a0), (1, .int i1), (2, .int i2), (3, .int i3)]) (st1 := []) rfl rfl rfl (fun h15 => ?_) (fun h15 => ?_)
  · refine sm_seg 1 10 [] [.int (-1 : Int32)] rfl ?_
    exact sm_rI rfl rfl
  · refine sm_seg 2 6 [(0, .ref a0), (1, .int i1), (2, .int i2), (3, .int i3)] [.int (4 : Int32), .int i3] rfl ?_
    refine sm_if (pc1 := 11) (lv1 := [(0, .ref a0), (1, .int i1), (2, .int i2), (3, .int i3)]) (pc2 := 9) (lv2 := []) (st1 := []) rfl rfl rfl (fun h16 => ?_) (fun h16 => ?_)
    · exact jt_157_11 w a0 i1 i2 i3
    · refine sm_seg 1 10 [] [.int (-1 : Int32)] rfl ?_
      exact sm_rI rfl rfl
theorem ca_157 (w : cm_W) (a0 : Nat) (i1 : Int32) (i2 : Int32) (i3 : Int32) : cm_ca cm_g 157 [.ref a0, .int i1, .int i2, .int i3] w ((fn_157 w a0 i1 i2 i3).map (cm_fI w)) := cm_ca_of (cm_me_of rfl rfl) rfl (jt_157_0 w a0 i1 i2 i3)
-- NailedBoxes.think(II)I
def fn_158_30 (a0 : Nat) (i1 : Int32) (i2 : Int32) (w : cm_W) : Option (Int32 × cm_W) := (if cm_sh w a0 = some (.inl 10) then (cm_R w a0 9).bind fun r2 => (cm_R w a0 3).bind fun r4 => (cm_R w a0 5).bind fun r6 => (if cm_sh w r2 = some (.inl 8) then (fn_133 r2 r4 r6 i1 w).bind fun w9 => (if cm_sh w9 a0 = some (.inl 10) then (cm_R w9 a0 9).bind fun r12 => (if cm_sh w9 r12 = some (.inl 8) then (fn_134 w9 r12 i2).bind fun v15 => some (v15, w9) else none) else none) else none) else none)
theorem jt_158_30 (a0 : Nat) (i1 : Int32) (i2 : Int32) (w : cm_W) : sm cm_g 158 ck_158 kq_158 30 [(0, .ref a0), (1, .int i1), (2, .int i2)] [] w ((fn_158_30 a0 i1 i2 w).map cm_gI) := by
  unfold fn_158_30
  refine sm_seg 1 31 [(0, .ref a0), (1, .int i1), (2, .int i2)] [.ref a0] rfl ?_
  refine sm_gd fun h1 => ?_
  refine sm_gR rfl h1 rfl rfl fun r2 h3 => ?_
  show sm _ _ _ _ 34 [(0, .ref a0), (1, .int i1), (2, .int i2)] [.ref r2] _ _
  refine sm_seg 1 35 [(0, .ref a0), (1, .int i1), (2, .int i2)] [.ref a0, .ref r2] rfl ?_
  refine sm_gR rfl h1 rfl rfl fun r4 h5 => ?_
  show sm _ _ _ _ 38 [(0, .ref a0), (1, .int i1), (2, .int i2)] [.ref r4, .ref r2] _ _
  refine sm_seg 1 39 [(0, .ref a0), (1, .int i1), (2, .int i2)] [.ref a0, .ref r4, .ref r2] rfl ?_
  refine sm_gR rfl h1 rfl rfl fun r6 h7 => ?_
  show sm _ _ _ _ 42 [(0, .ref a0), (1, .int i1), (2, .int i2)] [.ref r6, .ref r4, .ref r2] _ _
  refine sm_seg 1 43 [(0, .ref a0), (1, .int i1), (2, .int i2)] [.int i1, .ref r6, .ref r4, .ref r2] rfl ?_
  refine sm_gd fun h8 => ?_
  refine sm_cV (as := [.ref r4, .ref r6, .int i1]) (rest := []) rfl rfl rfl rfl h8 (Nat.le_of_ble_eq_true rfl) (ca_133  r2 r4 r6 i1 w) fun w9 h10 => ?_
  show sm _ _ _ _ 46 [(0, .ref a0), (1, .int i1), (2, .int i2)] [] _ _
  refine sm_seg 1 47 [(0, .ref a0), (1, .int i1), (2, .int i2)] [.ref a0] rfl ?_
  refine sm_gd fun h11 => ?_
  refine sm_gR rfl h11 rfl rfl fun r12 h13 => ?_
  show sm _ _ _ _ 50 [(0, .ref a0), (1, .int i1), (2, .int i2)] [.ref r12] _ _
  refine sm_seg 1 51 [(0, .ref a0), (1, .int i1), (2, .int i2)] [.int i2, .ref r12] rfl ?_
  refine sm_gd fun h14 => ?_
  refine sm_cV (as := [.int i2]) (rest := []) rfl rfl rfl rfl h14 (Nat.le_of_ble_eq_true rfl) (ca_134 w9 r12 i2) fun v15 h16 => ?_
  show sm _ _ _ _ 54 [(0, .ref a0), (1, .int i1), (2, .int i2)] [.int v15] _ _
  exact sm_rIW rfl rfl
def fn_158 (a0 : Nat) (i1 : Int32) (i2 : Int32) (w : cm_W) : Option (Int32 × cm_W) := (if cm_sh w a0 = some (.inl 10) then (cm_R w a0 5).bind fun r18 => (if cm_sh w r18 = some (.inl 6) then (cm_R w r18 0).bind fun r21 => (if cm_sh w r21 = some (.inl 7) then (fn_7 w r21 i1).bind fun v24 => (if (cm_b v24) = 0 then some ((-1 : Int32), w) else (cm_R w a0 3).bind fun r27 => (if cm_sh w r27 = some (.inl 9) then (cm_R w r27 1).bind fun r30 => (if cm_sh w r30 = some (.inl 7) then (fn_7 w r30 i2).bind fun v33 => (if ¬ (cm_b v33) = 0 then fn_158_30  a0 i1 i2 w else some ((-1 : Int32), w)) else none) else none)) else none) else none) else none)
theorem jt_158_0 (a0 : Nat) (i1 : Int32) (i2 : Int32) (w : cm_W) : sm cm_g 158 ck_158 kq_158 0 [(0, .ref a0), (1, .int i1), (2, .int i2)] [] w ((fn_158 a0 i1 i2 w).map cm_gI) := by
  unfold fn_158
  refine sm_seg 1 1 [(0, .ref a0), (1, .int i1), (2, .int i2)] [.ref a0] rfl ?_
  refine sm_gd fun h17 => ?_
  refine sm_gR rfl h17 rfl rfl fun r18 h19 => ?_
  show sm _ _ _ _ 4 [(0, .ref a0), (1, .int i1), (2, .int i2)] [.ref r18] _ _
  refine sm_gd fun h20 => ?_
  refine sm_gR rfl h20 rfl rfl fun r21 h22 => ?_
  show sm _ _ _ _ 7 [(0, .ref a0), (1, .int i1), (2, .int i2)] [.ref r21] _ _
  refine sm_seg 1 8 [(0, .ref a0), (1, .int i1), (2, .int i2)] [.int i1, .ref r21] rfl ?_
  refine sm_gd fun h23 => ?_
  refine sm_cV (as := [.int i1]) (rest := []) rfl rfl rfl rfl h23 (Nat.le_of_ble_eq_true rfl) (ca_7 w r21 i1) fun v24 h25 => ?_
  show sm _ _ _ _ 11 [(0, .ref a0), (1, .int i1), (2, .int i2)] [.int (cm_b v24)] _ _
  refine sm_if (pc1 := 28) (lv1 := []) (pc2 := 14) (lv2 := [(0, .ref a0), (1, .int i1), (2, .int i2)]) (st1 := []) rfl rfl rfl (fun h26 => ?_) (fun h26 => ?_)
  · refine sm_seg 1 29 [] [.int (-1 : Int32)] rfl ?_
    exact sm_rIW rfl rfl
  · refine sm_seg 1 15 [(0, .ref a0), (1, .int i1), (2, .int i2)] [.ref a0] rfl ?_
    refine sm_gR rfl h17 rfl rfl fun r27 h28 => ?_
    show sm _ _ _ _ 18 [(0, .ref a0), (1, .int i1), (2, .int i2)] [.ref r27] _ _
    refine sm_gd fun h29 => ?_
    refine sm_gR rfl h29 rfl rfl fun r30 h31 => ?_
    show sm _ _ _ _ 21 [(0, .ref a0), (1, .int i1), (2, .int i2)] [.ref r30] _ _
    refine sm_seg 1 22 [(0, .ref a0), (1, .int i1), (2, .int i2)] [.int i2, .ref r30] rfl ?_
    refine sm_gd fun h32 => ?_
    refine sm_cV (as := [.int i2]) (rest := []) rfl rfl rfl rfl h32 (Nat.le_of_ble_eq_true rfl) (ca_7 w r30 i2) fun v33 h34 => ?_
    show sm _ _ _ _ 25 [(0, .ref a0), (1, .int i1), (2, .int i2)] [.int (cm_b v33)] _ _
    refine sm_if (pc1 := 30) (lv1 := [(0, .ref a0), (1, .int i1), (2, .int i2)]) (pc2 := 28) (lv2 := []) (st1 := []) rfl rfl rfl (fun h35 => ?_) (fun h35 => ?_)
    · exact jt_158_30  a0 i1 i2 w
    · refine sm_seg 1 29 [] [.int (-1 : Int32)] rfl ?_
      exact sm_rIW rfl rfl
theorem ca_158 (a0 : Nat) (i1 : Int32) (i2 : Int32) (w : cm_W) : cm_ca cm_g 158 [.ref a0, .int i1, .int i2] w ((fn_158 a0 i1 i2 w).map cm_gI) := cm_ca_of (cm_me_of rfl rfl) rfl (jt_158_0 a0 i1 i2 w)
-- NailedBoxes.mean(I)I
def fn_159_16 (a0 : Nat) (i1 : Int32) (w : cm_W) : Option (Int32 × cm_W) := (if cm_sh w a0 = some (.inl 10) then (cm_R w a0 9).bind fun r2 => (cm_R w a0 3).bind fun r4 => (cm_R w a0 5).bind fun r6 => (if cm_sh w r2 = some (.inl 8) then (fn_133 r2 r4 r6 i1 w).bind fun w9 => (if cm_sh w9 a0 = some (.inl 10) then (cm_R w9 a0 9).bind fun r12 => (cm_R w9 a0 3).bind fun r14 => (if cm_sh w9 r12 = some (.inl 8) then (fn_135 w9 r12 r14).bind fun v17 => some (v17, w9) else none) else none) else none) else none)
theorem jt_159_16 (a0 : Nat) (i1 : Int32) (w : cm_W) : sm cm_g 159 ck_159 kq_159 16 [(0, .ref a0), (1, .int i1)] [] w ((fn_159_16 a0 i1 w).map cm_gI) := by
  unfold fn_159_16
  refine sm_seg 1 17 [(0, .ref a0), (1, .int i1)] [.ref a0] rfl ?_
  refine sm_gd fun h1 => ?_
  refine sm_gR rfl h1 rfl rfl fun r2 h3 => ?_
  show sm _ _ _ _ 20 [(0, .ref a0), (1, .int i1)] [.ref r2] _ _
  refine sm_seg 1 21 [(0, .ref a0), (1, .int i1)] [.ref a0, .ref r2] rfl ?_
  refine sm_gR rfl h1 rfl rfl fun r4 h5 => ?_
  show sm _ _ _ _ 24 [(0, .ref a0), (1, .int i1)] [.ref r4, .ref r2] _ _
  refine sm_seg 1 25 [(0, .ref a0), (1, .int i1)] [.ref a0, .ref r4, .ref r2] rfl ?_
  refine sm_gR rfl h1 rfl rfl fun r6 h7 => ?_
  show sm _ _ _ _ 28 [(0, .ref a0), (1, .int i1)] [.ref r6, .ref r4, .ref r2] _ _
  refine sm_seg 1 29 [(0, .ref a0), (1, .int i1)] [.int i1, .ref r6, .ref r4, .ref r2] rfl ?_
  refine sm_gd fun h8 => ?_
  refine sm_cV (as := [.ref r4, .ref r6, .int i1]) (rest := []) rfl rfl rfl rfl h8 (Nat.le_of_ble_eq_true rfl) (ca_133  r2 r4 r6 i1 w) fun w9 h10 => ?_
  show sm _ _ _ _ 32 [(0, .ref a0), (1, .int i1)] [] _ _
  refine sm_seg 1 33 [(0, .ref a0), (1, .int i1)] [.ref a0] rfl ?_
  refine sm_gd fun h11 => ?_
  refine sm_gR rfl h11 rfl rfl fun r12 h13 => ?_
  show sm _ _ _ _ 36 [(0, .ref a0), (1, .int i1)] [.ref r12] _ _
  refine sm_seg 1 37 [(0, .ref a0), (1, .int i1)] [.ref a0, .ref r12] rfl ?_
  refine sm_gR rfl h11 rfl rfl fun r14 h15 => ?_
  show sm _ _ _ _ 40 [(0, .ref a0), (1, .int i1)] [.ref r14, .ref r12] _ _
  refine sm_gd fun h16 => ?_
  refine sm_cV (as := [.ref r14]) (rest := []) rfl rfl rfl rfl h16 (Nat.le_of_ble_eq_true rfl) (ca_135 w9 r12 r14) fun v17 h18 => ?_
  show sm _ _ _ _ 43 [(0, .ref a0), (1, .int i1)] [.int v17] _ _
  exact sm_rIW rfl rfl
def fn_159 (a0 : Nat) (i1 : Int32) (w : cm_W) : Option (Int32 × cm_W) := (if cm_sh w a0 = some (.inl 10) then (cm_R w a0 5).bind fun r20 => (if cm_sh w r20 = some (.inl 6) then (cm_R w r20 0).bind fun r23 => (if cm_sh w r23 = some (.inl 7) then (fn_7 w r23 i1).bind fun v26 => (if ¬ (cm_b v26) = 0 then fn_159_16  a0 i1 w else some ((-1 : Int32), w)) else none) else none) else none)
theorem jt_159_0 (a0 : Nat) (i1 : Int32) (w : cm_W) : sm cm_g 159 ck_159 kq_159 0 [(0, .ref a0), (1, .int i1)] [] w ((fn_159 a0 i1 w).map cm_gI) := by
  unfold fn_159
  refine sm_seg 1 1 [(0, .ref a0), (1, .int i1)] [.ref a0] rfl ?_
  refine sm_gd fun h19 => ?_
  refine sm_gR rfl h19 rfl rfl fun r20 h21 => ?_
  show sm _ _ _ _ 4 [(0, .ref a0), (1, .int i1)] [.ref r20] _ _
  refine sm_gd fun h22 => ?_
  refine sm_gR rfl h22 rfl rfl fun r23 h24 => ?_
  show sm _ _ _ _ 7 [(0, .ref a0), (1, .int i1)] [.ref r23] _ _
  refine sm_seg 1 8 [(0, .ref a0), (1, .int i1)] [.int i1, .ref r23] rfl ?_
  refine sm_gd fun h25 => ?_
  refine sm_cV (as := [.int i1]) (rest := []) rfl rfl rfl rfl h25 (Nat.le_of_ble_eq_true rfl) (ca_7 w r23 i1) fun v26 h27 => ?_
  show sm _ _ _ _ 11 [(0, .ref a0), (1, .int i1)] [.int (cm_b v26)] _ _
  refine sm_if (pc1 := 16) (lv1 := [(0, .ref a0), (1, .int i1)]) (pc2 := 14) (lv2 := [(0, .ref a0), (1, .int i1)]) (st1 := []) rfl rfl rfl (fun h28 => ?_) (fun h28 => ?_)
  · exact jt_159_16  a0 i1 w
  · refine sm_seg 1 15 [(0, .ref a0), (1, .int i1)] [.int (-1 : Int32)] rfl ?_
    exact sm_rIW rfl rfl
theorem ca_159 (a0 : Nat) (i1 : Int32) (w : cm_W) : cm_ca cm_g 159 [.ref a0, .int i1] w ((fn_159 a0 i1 w).map cm_gI) := cm_ca_of (cm_me_of rfl rfl) rfl (jt_159_0 a0 i1 w)
-- NailedBoxes.holds(III)Z
def fn_160_81 (a0 : Nat) (i1 : Int32) (i2 : Int32) (i3 : Int32) (w : cm_W) : Option (Bool × cm_W) := (if cm_sh w a0 = some (.inl 10) then (cm_R w a0 5).bind fun r2 => (if cm_sh w r2 = some (.inl 6) then (fn_102 r2 i1 i2 i3 w).bind fun w5 => some (true, w5) else none) else none)
theorem jt_160_81 (a0 : Nat) (i1 : Int32) (i2 : Int32) (i3 : Int32) (w : cm_W) : sm cm_g 160 ck_160 kq_160 81 [(0, .ref a0), (1, .int i1), (2, .int i2), (3, .int i3)] [] w ((fn_160_81 a0 i1 i2 i3 w).map cm_gB) := by
  unfold fn_160_81
  refine sm_seg 1 82 [(0, .ref a0), (1, .int i1), (2, .int i2), (3, .int i3)] [.ref a0] rfl ?_
  refine sm_gd fun h1 => ?_
  refine sm_gR rfl h1 rfl rfl fun r2 h3 => ?_
  show sm _ _ _ _ 85 [(0, .ref a0), (1, .int i1), (2, .int i2), (3, .int i3)] [.ref r2] _ _
  refine sm_seg 3 88 [(0, .ref a0), (1, .int i1), (2, .int i2), (3, .int i3)] [.int i3, .int i2, .int i1, .ref r2] rfl ?_
  refine sm_gd fun h4 => ?_
  refine sm_cV (as := [.int i1, .int i2, .int i3]) (rest := []) rfl rfl rfl rfl h4 (Nat.le_of_ble_eq_true rfl) (ca_102  r2 i1 i2 i3 w) fun w5 h6 => ?_
  show sm _ _ _ _ 91 [(0, .ref a0), (1, .int i1), (2, .int i2), (3, .int i3)] [] _ _
  refine sm_seg 1 92 [(0, .ref a0), (1, .int i1), (2, .int i2), (3, .int i3)] [.int (1 : Int32)] rfl ?_
  exact sm_rBW (b := true) rfl rfl
def fn_160_67 (a0 : Nat) (i1 : Int32) (i2 : Int32) (i3 : Int32) (w : cm_W) : Option (Bool × cm_W) := (if cm_sh w a0 = some (.inl 10) then (fn_148 a0 (0 : Int32) w).bind fun v8 => some (v8.1, v8.2) else none)
theorem jt_160_67 (a0 : Nat) (i1 : Int32) (i2 : Int32) (i3 : Int32) (w : cm_W) : sm cm_g 160 ck_160 kq_160 67 [(0, .ref a0), (1, .int i1), (2, .int i2), (3, .int i3)] [] w ((fn_160_67 a0 i1 i2 i3 w).map cm_gB) := by
  unfold fn_160_67
  refine sm_seg 3 72 [(4, .int (0 : Int32)), (0, .ref a0), (1, .int i1), (2, .int i2), (3, .int i3)] [.int (0 : Int32)] rfl ?_
  refine sm_iff (c := ¬ (0 : Int32) = 0) (pc1 := 81) (pc2 := 75) (lv1 := [(4, .int (0 : Int32)), (0, .ref a0), (1, .int i1), (2, .int i2), (3, .int i3)]) (st1 := []) rfl (by decide) rfl ?_
  refine sm_seg 2 77 [(4, .int (0 : Int32)), (0, .ref a0), (1, .int i1), (2, .int i2), (3, .int i3)] [.int (0 : Int32), .ref a0] rfl ?_
  refine sm_gd fun h7 => ?_
  refine sm_cV (as := [.int (0 : Int32)]) (rest := []) rfl rfl rfl rfl h7 (Nat.le_of_ble_eq_true rfl) (ca_148  a0 (0 : Int32) w) fun v8 h9 => ?_
  show sm _ _ _ _ 80 [(4, .int (0 : Int32)), (0, .ref a0), (1, .int i1), (2, .int i2), (3, .int i3)] [.int (cm_b v8.1)] _ _
  exact sm_rBW (b := v8.1) rfl rfl
def fn_160 (a0 : Nat) (i1 : Int32) (i2 : Int32) (i3 : Int32) (w : cm_W) : Option (Bool × cm_W) := (if cm_sh w a0 = some (.inl 10) then (cm_R w a0 5).bind fun r11 => (if cm_sh w r11 = some (.inl 6) then (cm_R w r11 0).bind fun r14 => (if cm_sh w r14 = some (.inl 7) then (fn_7 w r14 i1).bind fun v17 => (if (cm_b v17) = 0 then fn_160_67  a0 i1 i2 i3 w else (cm_R w a0 3).bind fun r20 => (if cm_sh w r20 = some (.inl 9) then (cm_R w r20 3).bind fun r23 => (if cm_sh w r23 = some (.inl 7) then (fn_7 w r23 i2).bind fun v26 => (if (cm_b v26) = 0 then fn_160_67  a0 i1 i2 i3 w else (if i3 < 0 then fn_160_67  a0 i1 i2 i3 w else (if (100 : Int32) < i3 then fn_160_67  a0 i1 i2 i3 w else (cm_R w a0 5).bind fun r31 => (if cm_sh w r31 = some (.inl 6) then (fn_20 w r31 i1).bind fun v34 => (cm_R w a0 5).bind fun r36 => (if cm_sh w r36 = some (.inl 6) then (fn_19 w r36 i1 i2).bind fun v39 => (if (100 : Int32) < ((v34 - v39) + i3) then fn_160_67  a0 i1 i2 i3 w else fn_160_81  a0 i1 i2 i3 w) else none) else none)))) else none) else none)) else none) else none) else none)
theorem jt_160_0 (a0 : Nat) (i1 : Int32) (i2 : Int32) (i3 : Int32) (w : cm_W) : sm cm_g 160 ck_160 kq_160 0 [(0, .ref a0), (1, .int i1), (2, .int i2), (3, .int i3)] [] w ((fn_160 a0 i1 i2 i3 w).map cm_gB) := by
  unfold fn_160
  refine sm_seg 1 1 [(0, .ref a0), (1, .int i1), (2, .int i2), (3, .int i3)] [.ref a0] rfl ?_
  refine sm_gd fun h10 => ?_
  refine sm_gR rfl h10 rfl rfl fun r11 h12 => ?_
  show sm _ _ _ _ 4 [(0, .ref a0), (1, .int i1), (2, .int i2), (3, .int i3)] [.ref r11] _ _
  refine sm_gd fun h13 => ?_
  refine sm_gR rfl h13 rfl rfl fun r14 h15 => ?_
  show sm _ _ _ _ 7 [(0, .ref a0), (1, .int i1), (2, .int i2), (3, .int i3)] [.ref r14] _ _
  refine sm_seg 1 8 [(0, .ref a0), (1, .int i1), (2, .int i2), (3, .int i3)] [.int i1, .ref r14] rfl ?_
  refine sm_gd fun h16 => ?_
  refine sm_cV (as := [.int i1]) (rest := []) rfl rfl rfl rfl h16 (Nat.le_of_ble_eq_true rfl) (ca_7 w r14 i1) fun v17 h18 => ?_
  show sm _ _ _ _ 11 [(0, .ref a0), (1, .int i1), (2, .int i2), (3, .int i3)] [.int (cm_b v17)] _ _
  refine sm_if (pc1 := 67) (lv1 := [(0, .ref a0), (1, .int i1), (2, .int i2), (3, .int i3)]) (pc2 := 14) (lv2 := [(0, .ref a0), (1, .int i1), (2, .int i2), (3, .int i3)]) (st1 := []) rfl rfl rfl (fun h19 => ?_) (fun h19 => ?_)
  · exact jt_160_67  a0 i1 i2 i3 w
  · refine sm_seg 1 15 [(0, .ref a0), (1, .int i1), (2, .int i2), (3, .int i3)] [.ref a0] rfl ?_
    refine sm_gR rfl h10 rfl rfl fun r20 h21 => ?_
    show sm _ _ _ _ 18 [(0, .ref a0), (1, .int i1), (2, .int i2), (3, .int i3)] [.ref r20] _ _
    refine sm_gd fun h22 => ?_
    refine sm_gR rfl h22 rfl rfl fun r23 h24 => ?_
    show sm _ _ _ _ 21 [(0, .ref a0), (1, .int i1), (2, .int i2), (3, .int i3)] [.ref r23] _ _
    refine sm_seg 1 22 [(0, .ref a0), (1, .int i1), (2, .int i2), (3, .int i3)] [.int i2, .ref r23] rfl ?_
    refine sm_gd fun h25 => ?_
    refine sm_cV (as := [.int i2]) (rest := []) rfl rfl rfl rfl h25 (Nat.le_of_ble_eq_true rfl) (ca_7 w r23 i2) fun v26 h27 => ?_
    show sm _ _ _ _ 25 [(0, .ref a0), (1, .int i1), (2, .int i2), (3, .int i3)] [.int (cm_b v26)] _ _
    refine sm_if (pc1 := 67) (lv1 := [(0, .ref a0), (1, .int i1), (2, .int i2), (3, .int i3)]) (pc2 := 28) (lv2 := [(0, .ref a0), (1, .int i1), (2, .int i2), (3, .int i3)]) (st1 := []) rfl rfl rfl (fun h28 => ?_) (fun h28 => ?_)
    · exact jt_160_67  a0 i1 i2 i3 w
    · refine sm_seg 1 29 [(0, .ref a0), (1, .int i1), (2, .int i2), (3, .int i3)] [.int i3] rfl ?_
      refine sm_if (pc1 := 67) (lv1 := [(0, .ref a0), (1, .int i1), (2, .int i2), (3, .int i3)]) (pc2 := 32) (lv2 := [(0, .ref a0), (1, .int i1), (2, .int i2), (3, .int i3)]) (st1 := []) rfl rfl rfl (fun h29 => ?_) (fun h29 => ?_)
      · exact jt_160_67  a0 i1 i2 i3 w
      · refine sm_seg 2 35 [(0, .ref a0), (1, .int i1), (2, .int i2), (3, .int i3)] [.int (100 : Int32), .int i3] rfl ?_
        refine sm_if (pc1 := 67) (lv1 := [(0, .ref a0), (1, .int i1), (2, .int i2), (3, .int i3)]) (pc2 := 38) (lv2 := [(0, .ref a0), (1, .int i1), (2, .int i2), (3, .int i3)]) (st1 := []) rfl rfl rfl (fun h30 => ?_) (fun h30 => ?_)
        · exact jt_160_67  a0 i1 i2 i3 w
        · refine sm_seg 1 39 [(0, .ref a0), (1, .int i1), (2, .int i2), (3, .int i3)] [.ref a0] rfl ?_
          refine sm_gR rfl h10 rfl rfl fun r31 h32 => ?_
          show sm _ _ _ _ 42 [(0, .ref a0), (1, .int i1), (2, .int i2), (3, .int i3)] [.ref r31] _ _
          refine sm_seg 1 43 [(0, .ref a0), (1, .int i1), (2, .int i2), (3, .int i3)] [.int i1, .ref r31] rfl ?_
          refine sm_gd fun h33 => ?_
          refine sm_cV (as := [.int i1]) (rest := []) rfl rfl rfl rfl h33 (Nat.le_of_ble_eq_true rfl) (ca_20 w r31 i1) fun v34 h35 => ?_
          show sm _ _ _ _ 46 [(0, .ref a0), (1, .int i1), (2, .int i2), (3, .int i3)] [.int v34] _ _
          refine sm_seg 1 47 [(0, .ref a0), (1, .int i1), (2, .int i2), (3, .int i3)] [.ref a0, .int v34] rfl ?_
          refine sm_gR rfl h10 rfl rfl fun r36 h37 => ?_
          show sm _ _ _ _ 50 [(0, .ref a0), (1, .int i1), (2, .int i2), (3, .int i3)] [.ref r36, .int v34] _ _
          refine sm_seg 2 52 [(0, .ref a0), (1, .int i1), (2, .int i2), (3, .int i3)] [.int i2, .int i1, .ref r36, .int v34] rfl ?_
          refine sm_gd fun h38 => ?_
          refine sm_cV (as := [.int i1, .int i2]) (rest := [.int v34]) rfl rfl rfl rfl h38 (Nat.le_of_ble_eq_true rfl) (ca_19 w r36 i1 i2) fun v39 h40 => ?_
          show sm _ _ _ _ 55 [(0, .ref a0), (1, .int i1), (2, .int i2), (3, .int i3)] [.int v39, .int v34] _ _
          refine sm_seg 4 60 [(0, .ref a0), (1, .int i1), (2, .int i2), (3, .int i3)] [.int (100 : Int32), .int ((v34 - v39) + i3)] rfl ?_
          refine sm_if (pc1 := 67) (lv1 := [(0, .ref a0), (1, .int i1), (2, .int i2), (3, .int i3)]) (pc2 := 63) (lv2 := [(0, .ref a0), (1, .int i1), (2, .int i2), (3, .int i3)]) (st1 := []) rfl rfl rfl (fun h41 => ?_) (fun h41 => ?_)
          · exact jt_160_67  a0 i1 i2 i3 w
          · refine sm_seg 4 72 [(4, .int (1 : Int32)), (0, .ref a0), (1, .int i1), (2, .int i2), (3, .int i3)] [.int (1 : Int32)] rfl ?_
            refine sm_ift (c := ¬ (1 : Int32) = 0) (pc1 := 81) (pc2 := 75) (lv1 := [(0, .ref a0), (1, .int i1), (2, .int i2), (3, .int i3)]) (st1 := []) rfl (by decide) rfl ?_
            exact jt_160_81  a0 i1 i2 i3 w
theorem ca_160 (a0 : Nat) (i1 : Int32) (i2 : Int32) (i3 : Int32) (w : cm_W) : cm_ca cm_g 160 [.ref a0, .int i1, .int i2, .int i3] w ((fn_160 a0 i1 i2 i3 w).map cm_gB) := cm_ca_of (cm_me_of rfl rfl) rfl (jt_160_0 a0 i1 i2 i3 w)
-- NailedBoxes.june(I)I
def fn_161_23 (a0 : Nat) (i1 : Int32) (w : cm_W) : Option (Int32 × cm_W) := (if cm_sh w a0 = some (.inl 10) then (cm_R w a0 10).bind fun r2 => (cm_R w a0 5).bind fun r4 => (if cm_sh w r2 = some (.inl 2) then (fn_22 r2 r4 i1 w).bind fun w7 => (if cm_sh w7 a0 = some (.inl 10) then (cm_R w7 a0 5).bind fun r10 => (if cm_sh w7 r10 = some (.inl 6) then (fn_109 w7 r10 i1).bind fun v13 => (cm_R w7 a0 10).bind fun r15 => (cm_R w7 a0 3).bind fun r17 => (cm_R w7 a0 5).bind fun r19 => (if cm_sh w7 r15 = some (.inl 2) then (fn_27 w7 r15 r17 r19 i1).bind fun v22 => (cm_R w7 a0 10).bind fun r24 => (cm_R w7 a0 3).bind fun r26 => (if cm_sh w7 r24 = some (.inl 2) then (fn_25 w7 r24 r26).bind fun v29 => some (((v13 + v22) + v29), w7) else none) else none) else none) else none) else none) else none)
theorem jt_161_23 (a0 : Nat) (i1 : Int32) (w : cm_W) : sm cm_g 161 ck_161 kq_161 23 [(0, .ref a0), (1, .int i1)] [] w ((fn_161_23 a0 i1 w).map cm_gI) := by
  unfold fn_161_23
  refine sm_seg 1 24 [(0, .ref a0), (1, .int i1)] [.ref a0] rfl ?_
  refine sm_gd fun h1 => ?_
  refine sm_gR rfl h1 rfl rfl fun r2 h3 => ?_
  show sm _ _ _ _ 27 [(0, .ref a0), (1, .int i1)] [.ref r2] _ _
  refine sm_seg 1 28 [(0, .ref a0), (1, .int i1)] [.ref a0, .ref r2] rfl ?_
  refine sm_gR rfl h1 rfl rfl fun r4 h5 => ?_
  show sm _ _ _ _ 31 [(0, .ref a0), (1, .int i1)] [.ref r4, .ref r2] _ _
  refine sm_seg 1 32 [(0, .ref a0), (1, .int i1)] [.int i1, .ref r4, .ref r2] rfl ?_
  refine sm_gd fun h6 => ?_
  refine sm_cV (as := [.ref r4, .int i1]) (rest := []) rfl rfl rfl rfl h6 (Nat.le_of_ble_eq_true rfl) (ca_22  r2 r4 i1 w) fun w7 h8 => ?_
  show sm _ _ _ _ 35 [(0, .ref a0), (1, .int i1)] [] _ _
  refine sm_seg 1 36 [(0, .ref a0), (1, .int i1)] [.ref a0] rfl ?_
  refine sm_gd fun h9 => ?_
  refine sm_gR rfl h9 rfl rfl fun r10 h11 => ?_
  show sm _ _ _ _ 39 [(0, .ref a0), (1, .int i1)] [.ref r10] _ _
  refine sm_seg 1 40 [(0, .ref a0), (1, .int i1)] [.int i1, .ref r10] rfl ?_
  refine sm_gd fun h12 => ?_
  refine sm_cV (as := [.int i1]) (rest := []) rfl rfl rfl rfl h12 (Nat.le_of_ble_eq_true rfl) (ca_109 w7 r10 i1) fun v13 h14 => ?_
  show sm _ _ _ _ 43 [(0, .ref a0), (1, .int i1)] [.int v13] _ _
  refine sm_seg 1 44 [(0, .ref a0), (1, .int i1)] [.ref a0, .int v13] rfl ?_
  refine sm_gR rfl h9 rfl rfl fun r15 h16 => ?_
  show sm _ _ _ _ 47 [(0, .ref a0), (1, .int i1)] [.ref r15, .int v13] _ _
  refine sm_seg 1 48 [(0, .ref a0), (1, .int i1)] [.ref a0, .ref r15, .int v13] rfl ?_
  refine sm_gR rfl h9 rfl rfl fun r17 h18 => ?_
  show sm _ _ _ _ 51 [(0, .ref a0), (1, .int i1)] [.ref r17, .ref r15, .int v13] _ _
  refine sm_seg 1 52 [(0, .ref a0), (1, .int i1)] [.ref a0, .ref r17, .ref r15, .int v13] rfl ?_
  refine sm_gR rfl h9 rfl rfl fun r19 h20 => ?_
  show sm _ _ _ _ 55 [(0, .ref a0), (1, .int i1)] [.ref r19, .ref r17, .ref r15, .int v13] _ _
  refine sm_seg 1 56 [(0, .ref a0), (1, .int i1)] [.int i1, .ref r19, .ref r17, .ref r15, .int v13] rfl ?_
  refine sm_gd fun h21 => ?_
  refine sm_cV (as := [.ref r17, .ref r19, .int i1]) (rest := [.int v13]) rfl rfl rfl rfl h21 (Nat.le_of_ble_eq_true rfl) (ca_27 w7 r15 r17 r19 i1) fun v22 h23 => ?_
  show sm _ _ _ _ 59 [(0, .ref a0), (1, .int i1)] [.int v22, .int v13] _ _
  refine sm_seg 2 61 [(0, .ref a0), (1, .int i1)] [.ref a0, .int (v13 + v22)] rfl ?_
  refine sm_gR rfl h9 rfl rfl fun r24 h25 => ?_
  show sm _ _ _ _ 64 [(0, .ref a0), (1, .int i1)] [.ref r24, .int (v13 + v22)] _ _
  refine sm_seg 1 65 [(0, .ref a0), (1, .int i1)] [.ref a0, .ref r24, .int (v13 + v22)] rfl ?_
  refine sm_gR rfl h9 rfl rfl fun r26 h27 => ?_
  show sm _ _ _ _ 68 [(0, .ref a0), (1, .int i1)] [.ref r26, .ref r24, .int (v13 + v22)] _ _
  refine sm_gd fun h28 => ?_
  refine sm_cV (as := [.ref r26]) (rest := [.int (v13 + v22)]) rfl rfl rfl rfl h28 (Nat.le_of_ble_eq_true rfl) (ca_25 w7 r24 r26) fun v29 h30 => ?_
  show sm _ _ _ _ 71 [(0, .ref a0), (1, .int i1)] [.int v29, .int (v13 + v22)] _ _
  refine sm_seg 1 72 [(0, .ref a0), (1, .int i1)] [.int ((v13 + v22) + v29)] rfl ?_
  exact sm_rIW rfl rfl
def fn_161 (a0 : Nat) (i1 : Int32) (w : cm_W) : Option (Int32 × cm_W) := (if cm_sh w a0 = some (.inl 10) then (fn_146 w a0).bind fun v32 => (if (cm_b v32) = 0 then some ((-1 : Int32), w) else (cm_R w a0 3).bind fun r35 => (if cm_sh w r35 = some (.inl 9) then (cm_R w r35 3).bind fun r38 => (if cm_sh w r38 = some (.inl 7) then (fn_7 w r38 i1).bind fun v41 => (if ¬ (cm_b v41) = 0 then fn_161_23  a0 i1 w else some ((-1 : Int32), w)) else none) else none)) else none)
theorem jt_161_0 (a0 : Nat) (i1 : Int32) (w : cm_W) : sm cm_g 161 ck_161 kq_161 0 [(0, .ref a0), (1, .int i1)] [] w ((fn_161 a0 i1 w).map cm_gI) := by
  unfold fn_161
  refine sm_seg 1 1 [(0, .ref a0), (1, .int i1)] [.ref a0] rfl ?_
  refine sm_gd fun h31 => ?_
  refine sm_cV (as := []) (rest := []) rfl rfl rfl rfl h31 (Nat.le_of_ble_eq_true rfl) (ca_146 w a0) fun v32 h33 => ?_
  show sm _ _ _ _ 4 [(0, .ref a0), (1, .int i1)] [.int (cm_b v32)] _ _
  refine sm_if (pc1 := 21) (lv1 := []) (pc2 := 7) (lv2 := [(0, .ref a0), (1, .int i1)]) (st1 := []) rfl rfl rfl (fun h34 => ?_) (fun h34 => ?_)
  · refine sm_seg 1 22 [] [.int (-1 : Int32)] rfl ?_
    exact sm_rIW rfl rfl
  · refine sm_seg 1 8 [(0, .ref a0), (1, .int i1)] [.ref a0] rfl ?_
    refine sm_gR rfl h31 rfl rfl fun r35 h36 => ?_
    show sm _ _ _ _ 11 [(0, .ref a0), (1, .int i1)] [.ref r35] _ _
    refine sm_gd fun h37 => ?_
    refine sm_gR rfl h37 rfl rfl fun r38 h39 => ?_
    show sm _ _ _ _ 14 [(0, .ref a0), (1, .int i1)] [.ref r38] _ _
    refine sm_seg 1 15 [(0, .ref a0), (1, .int i1)] [.int i1, .ref r38] rfl ?_
    refine sm_gd fun h40 => ?_
    refine sm_cV (as := [.int i1]) (rest := []) rfl rfl rfl rfl h40 (Nat.le_of_ble_eq_true rfl) (ca_7 w r38 i1) fun v41 h42 => ?_
    show sm _ _ _ _ 18 [(0, .ref a0), (1, .int i1)] [.int (cm_b v41)] _ _
    refine sm_if (pc1 := 23) (lv1 := [(0, .ref a0), (1, .int i1)]) (pc2 := 21) (lv2 := []) (st1 := []) rfl rfl rfl (fun h43 => ?_) (fun h43 => ?_)
    · exact jt_161_23  a0 i1 w
    · refine sm_seg 1 22 [] [.int (-1 : Int32)] rfl ?_
      exact sm_rIW rfl rfl
theorem ca_161 (a0 : Nat) (i1 : Int32) (w : cm_W) : cm_ca cm_g 161 [.ref a0, .int i1] w ((fn_161 a0 i1 w).map cm_gI) := cm_ca_of (cm_me_of rfl rfl) rfl (jt_161_0 a0 i1 w)
-- NailedBoxes.apart()I
def fn_162_34 : Nat → Nat → Int32 → Int32 → cm_W → Option (Int32 × cm_W)
  | 0, _, _, _, _ => none
  | n + 1, a0, i1, i2, w => (if cm_sh w a0 = some (.inl 10) then (cm_R w a0 3).bind fun r2 => (if cm_sh w r2 = some (.inl 9) then (cm_R w r2 3).bind fun r5 => (if cm_sh w r5 = some (.inl 7) then (if (cm_I w r5 2) ≤ i2 then some (i1, w) else (cm_R w a0 10).bind fun r9 => (cm_R w a0 5).bind fun r11 => (if cm_sh w r9 = some (.inl 2) then (fn_22 r9 r11 i2 w).bind fun w14 => (if cm_sh w14 a0 = some (.inl 10) then (cm_R w14 a0 10).bind fun r17 => (cm_R w14 a0 3).bind fun r19 => (if cm_sh w14 r17 = some (.inl 2) then (fn_25 w14 r17 r19).bind fun v22 => fn_162_34 n a0 (i1 - v22) (i2 + (1 : Int32)) w14 else none) else none) else none)) else none) else none) else none)
theorem jt_162_34 : ∀ (n : Nat) (a0 : Nat) (i1 : Int32) (i2 : Int32) (w : cm_W), sm cm_g 162 ck_162 kq_162 34 [(0, .ref a0), (1, .int i1), (2, .int i2)] [] w ((fn_162_34 n a0 i1 i2 w).map cm_gI) := by
  intro n
  induction n with
  | zero => intro a0 i1 i2 w; exact sm_no
  | succ n ih =>
    intro a0 i1 i2 w
    rw [fn_162_34]
    refine sm_seg 2 36 [(0, .ref a0), (1, .int i1), (2, .int i2)] [.ref a0, .int i2] rfl ?_
    refine sm_gd fun h1 => ?_
    refine sm_gR rfl h1 rfl rfl fun r2 h3 => ?_
    show sm _ _ _ _ 39 [(0, .ref a0), (1, .int i1), (2, .int i2)] [.ref r2, .int i2] _ _
    refine sm_gd fun h4 => ?_
    refine sm_gR rfl h4 rfl rfl fun r5 h6 => ?_
    show sm _ _ _ _ 42 [(0, .ref a0), (1, .int i1), (2, .int i2)] [.ref r5, .int i2] _ _
    refine sm_gd fun h7 => ?_
    refine sm_gI rfl h7 rfl ?_
    show sm _ _ _ _ 45 [(0, .ref a0), (1, .int i1), (2, .int i2)] [.int (cm_I w r5 2), .int i2] _ _
    refine sm_if (pc1 := 80) (lv1 := [(1, .int i1)]) (pc2 := 48) (lv2 := [(0, .ref a0), (1, .int i1), (2, .int i2)]) (st1 := []) rfl rfl rfl (fun h8 => ?_) (fun h8 => ?_)
    · refine sm_seg 1 81 [(1, .int i1)] [.int i1] rfl ?_
      exact sm_rIW rfl rfl
    · refine sm_seg 1 49 [(0, .ref a0), (1, .int i1), (2, .int i2)] [.ref a0] rfl ?_
      refine sm_gR rfl h1 rfl rfl fun r9 h10 => ?_
      show sm _ _ _ _ 52 [(0, .ref a0), (1, .int i1), (2, .int i2)] [.ref r9] _ _
      refine sm_seg 1 53 [(0, .ref a0), (1, .int i1), (2, .int i2)] [.ref a0, .ref r9] rfl ?_
      refine sm_gR rfl h1 rfl rfl fun r11 h12 => ?_
      show sm _ _ _ _ 56 [(0, .ref a0), (1, .int i1), (2, .int i2)] [.ref r11, .ref r9] _ _
      refine sm_seg 1 57 [(0, .ref a0), (1, .int i1), (2, .int i2)] [.int i2, .ref r11, .ref r9] rfl ?_
      refine sm_gd fun h13 => ?_
      refine sm_cV (as := [.ref r11, .int i2]) (rest := []) rfl rfl rfl rfl h13 (Nat.le_of_ble_eq_true rfl) (ca_22  r9 r11 i2 w) fun w14 h15 => ?_
      show sm _ _ _ _ 60 [(0, .ref a0), (1, .int i1), (2, .int i2)] [] _ _
      refine sm_seg 2 62 [(0, .ref a0), (1, .int i1), (2, .int i2)] [.ref a0, .int i1] rfl ?_
      refine sm_gd fun h16 => ?_
      refine sm_gR rfl h16 rfl rfl fun r17 h18 => ?_
      show sm _ _ _ _ 65 [(0, .ref a0), (1, .int i1), (2, .int i2)] [.ref r17, .int i1] _ _
      refine sm_seg 1 66 [(0, .ref a0), (1, .int i1), (2, .int i2)] [.ref a0, .ref r17, .int i1] rfl ?_
      refine sm_gR rfl h16 rfl rfl fun r19 h20 => ?_
      show sm _ _ _ _ 69 [(0, .ref a0), (1, .int i1), (2, .int i2)] [.ref r19, .ref r17, .int i1] _ _
      refine sm_gd fun h21 => ?_
      refine sm_cV (as := [.ref r19]) (rest := [.int i1]) rfl rfl rfl rfl h21 (Nat.le_of_ble_eq_true rfl) (ca_25 w14 r17 r19) fun v22 h23 => ?_
      show sm _ _ _ _ 72 [(0, .ref a0), (1, .int i1), (2, .int i2)] [.int v22, .int i1] _ _
      refine sm_seg 4 34 [(0, .ref a0), (1, .int (i1 - v22)), (2, .int (i2 + (1 : Int32)))] [] rfl ?_
      exact ih a0 (i1 - v22) (i2 + (1 : Int32)) w14
def fn_162_9 (a0 : Nat) (w : cm_W) : Option (Int32 × cm_W) := (if cm_sh w a0 = some (.inl 10) then (cm_R w a0 10).bind fun r25 => (cm_R w a0 5).bind fun r27 => (if cm_sh w r25 = some (.inl 2) then (fn_23 r25 r27 w).bind fun w30 => (if cm_sh w30 a0 = some (.inl 10) then (cm_R w30 a0 10).bind fun r33 => (cm_R w30 a0 3).bind fun r35 => (if cm_sh w30 r33 = some (.inl 2) then (fn_25 w30 r33 r35).bind fun v38 => fn_162_34  cm_N a0 v38 (0 : Int32) w30 else none) else none) else none) else none)
theorem jt_162_9 (a0 : Nat) (w : cm_W) : sm cm_g 162 ck_162 kq_162 9 [(0, .ref a0)] [] w ((fn_162_9 a0 w).map cm_gI) := by
  unfold fn_162_9
  refine sm_seg 1 10 [(0, .ref a0)] [.ref a0] rfl ?_
  refine sm_gd fun h24 => ?_
  refine sm_gR rfl h24 rfl rfl fun r25 h26 => ?_
  show sm _ _ _ _ 13 [(0, .ref a0)] [.ref r25] _ _
  refine sm_seg 1 14 [(0, .ref a0)] [.ref a0, .ref r25] rfl ?_
  refine sm_gR rfl h24 rfl rfl fun r27 h28 => ?_
  show sm _ _ _ _ 17 [(0, .ref a0)] [.ref r27, .ref r25] _ _
  refine sm_gd fun h29 => ?_
  refine sm_cV (as := [.ref r27]) (rest := []) rfl rfl rfl rfl h29 (Nat.le_of_ble_eq_true rfl) (ca_23  r25 r27 w) fun w30 h31 => ?_
  show sm _ _ _ _ 20 [(0, .ref a0)] [] _ _
  refine sm_seg 1 21 [(0, .ref a0)] [.ref a0] rfl ?_
  refine sm_gd fun h32 => ?_
  refine sm_gR rfl h32 rfl rfl fun r33 h34 => ?_
  show sm _ _ _ _ 24 [(0, .ref a0)] [.ref r33] _ _
  refine sm_seg 1 25 [(0, .ref a0)] [.ref a0, .ref r33] rfl ?_
  refine sm_gR rfl h32 rfl rfl fun r35 h36 => ?_
  show sm _ _ _ _ 28 [(0, .ref a0)] [.ref r35, .ref r33] _ _
  refine sm_gd fun h37 => ?_
  refine sm_cV (as := [.ref r35]) (rest := []) rfl rfl rfl rfl h37 (Nat.le_of_ble_eq_true rfl) (ca_25 w30 r33 r35) fun v38 h39 => ?_
  show sm _ _ _ _ 31 [(0, .ref a0)] [.int v38] _ _
  refine sm_seg 3 34 [(0, .ref a0), (1, .int v38), (2, .int (0 : Int32))] [] rfl ?_
  exact jt_162_34  cm_N a0 v38 (0 : Int32) w30
def fn_162 (a0 : Nat) (w : cm_W) : Option (Int32 × cm_W) := (if cm_sh w a0 = some (.inl 10) then (fn_146 w a0).bind fun v41 => (if ¬ (cm_b v41) = 0 then fn_162_9  a0 w else some ((-1 : Int32), w)) else none)
theorem jt_162_0 (a0 : Nat) (w : cm_W) : sm cm_g 162 ck_162 kq_162 0 [(0, .ref a0)] [] w ((fn_162 a0 w).map cm_gI) := by
  unfold fn_162
  refine sm_seg 1 1 [(0, .ref a0)] [.ref a0] rfl ?_
  refine sm_gd fun h40 => ?_
  refine sm_cV (as := []) (rest := []) rfl rfl rfl rfl h40 (Nat.le_of_ble_eq_true rfl) (ca_146 w a0) fun v41 h42 => ?_
  show sm _ _ _ _ 4 [(0, .ref a0)] [.int (cm_b v41)] _ _
  refine sm_if (pc1 := 9) (lv1 := [(0, .ref a0)]) (pc2 := 7) (lv2 := [(0, .ref a0)]) (st1 := []) rfl rfl rfl (fun h43 => ?_) (fun h43 => ?_)
  · exact jt_162_9  a0 w
  · refine sm_seg 1 8 [(0, .ref a0)] [.int (-1 : Int32)] rfl ?_
    exact sm_rIW rfl rfl
theorem ca_162 (a0 : Nat) (w : cm_W) : cm_ca cm_g 162 [.ref a0] w ((fn_162 a0 w).map cm_gI) := cm_ca_of (cm_me_of rfl rfl) rfl (jt_162_0 a0 w)
-- NailedBoxes.lend(IIII)I
def fn_163_27 (a0 : Nat) (w : cm_W) : Option (Int32 × cm_W) := (if cm_sh w a0 = some (.inl 10) then (fn_140 a0 (0 : Int32) w).bind fun v2 => some (v2.1, v2.2) else none)
theorem jt_163_27 (a0 : Nat) (w : cm_W) : sm cm_g 163 ck_163 kq_163 27 [(0, .ref a0)] [] w ((fn_163_27 a0 w).map cm_gI) := by
  unfold fn_163_27
  refine sm_seg 2 29 [(0, .ref a0)] [.int (0 : Int32), .ref a0] rfl ?_
  refine sm_gd fun h1 => ?_
  refine sm_cV (as := [.int (0 : Int32)]) (rest := []) rfl rfl rfl rfl h1 (Nat.le_of_ble_eq_true rfl) (ca_140  a0 (0 : Int32) w) fun v2 h3 => ?_
  show sm _ _ _ _ 32 [(0, .ref a0)] [.int v2.1] _ _
  exact sm_rIW rfl rfl
def fn_163_52 (a0 : Nat) (i1 : Int32) (i2 : Int32) (i3 : Int32) (i4 : Int32) (w : cm_W) : Option (Int32 × cm_W) := (if cm_sh w a0 = some (.inl 10) then (cm_R w a0 5).bind fun r5 => (if cm_sh w r5 = some (.inl 6) then (fn_17 w r5 i1).bind fun v8 => (cm_R w a0 5).bind fun r10 => (if cm_sh w r10 = some (.inl 6) then (fn_112 r10 i1 i2 w).bind fun w13 => (if cm_sh w13 a0 = some (.inl 10) then (cm_R w13 a0 5).bind fun r16 => (if cm_sh w13 r16 = some (.inl 6) then (fn_113 r16 i2 v8 i3 w13).bind fun w19 => (if cm_sh w19 a0 = some (.inl 10) then (cm_R w19 a0 5).bind fun r22 => (if cm_sh w19 r22 = some (.inl 6) then (fn_106 r22 i1 v8 i2 i3 ((i3 * i4) / (10 : Int32)) w19).bind fun v25 => some (v25.1, v25.2) else none) else none) else none) else none) else none) else none) else none)
theorem jt_163_52 (a0 : Nat) (i1 : Int32) (i2 : Int32) (i3 : Int32) (i4 : Int32) (w : cm_W) : sm cm_g 163 ck_163 kq_163 52 [(0, .ref a0), (1, .int i1), (2, .int i2), (3, .int i3), (4, .int i4)] [] w ((fn_163_52 a0 i1 i2 i3 i4 w).map cm_gI) := by
  unfold fn_163_52
  refine sm_seg 1 53 [(0, .ref a0), (1, .int i1), (2, .int i2), (3, .int i3), (4, .int i4)] [.ref a0] rfl ?_
  refine sm_gd fun h4 => ?_
  refine sm_gR rfl h4 rfl rfl fun r5 h6 => ?_
  show sm _ _ _ _ 56 [(0, .ref a0), (1, .int i1), (2, .int i2), (3, .int i3), (4, .int i4)] [.ref r5] _ _
  refine sm_seg 1 57 [(0, .ref a0), (1, .int i1), (2, .int i2), (3, .int i3), (4, .int i4)] [.int i1, .ref r5] rfl ?_
  refine sm_gd fun h7 => ?_
  refine sm_cV (as := [.int i1]) (rest := []) rfl rfl rfl rfl h7 (Nat.le_of_ble_eq_true rfl) (ca_17 w r5 i1) fun v8 h9 => ?_
  show sm _ _ _ _ 60 [(0, .ref a0), (1, .int i1), (2, .int i2), (3, .int i3), (4, .int i4)] [.int v8] _ _
  refine sm_seg 2 63 [(5, .int v8), (0, .ref a0), (1, .int i1), (2, .int i2), (3, .int i3), (4, .int i4)] [.ref a0] rfl ?_
  refine sm_gR rfl h4 rfl rfl fun r10 h11 => ?_
  show sm _ _ _ _ 66 [(5, .int v8), (0, .ref a0), (1, .int i1), (2, .int i2), (3, .int i3), (4, .int i4)] [.ref r10] _ _
  refine sm_seg 2 68 [(5, .int v8), (0, .ref a0), (1, .int i1), (2, .int i2), (3, .int i3), (4, .int i4)] [.int i2, .int i1, .ref r10] rfl ?_
  refine sm_gd fun h12 => ?_
  refine sm_cV (as := [.int i1, .int i2]) (rest := []) rfl rfl rfl rfl h12 (Nat.le_of_ble_eq_true rfl) (ca_112  r10 i1 i2 w) fun w13 h14 => ?_
  show sm _ _ _ _ 71 [(5, .int v8), (0, .ref a0), (1, .int i1), (2, .int i2), (3, .int i3), (4, .int i4)] [] _ _
  refine sm_seg 1 72 [(5, .int v8), (0, .ref a0), (1, .int i1), (2, .int i2), (3, .int i3), (4, .int i4)] [.ref a0] rfl ?_
  refine sm_gd fun h15 => ?_
  refine sm_gR rfl h15 rfl rfl fun r16 h17 => ?_
  show sm _ _ _ _ 75 [(5, .int v8), (0, .ref a0), (1, .int i1), (2, .int i2), (3, .int i3), (4, .int i4)] [.ref r16] _ _
  refine sm_seg 3 79 [(5, .int v8), (0, .ref a0), (1, .int i1), (2, .int i2), (3, .int i3), (4, .int i4)] [.int i3, .int v8, .int i2, .ref r16] rfl ?_
  refine sm_gd fun h18 => ?_
  refine sm_cV (as := [.int i2, .int v8, .int i3]) (rest := []) rfl rfl rfl rfl h18 (Nat.le_of_ble_eq_true rfl) (ca_113  r16 i2 v8 i3 w13) fun w19 h20 => ?_
  show sm _ _ _ _ 82 [(5, .int v8), (0, .ref a0), (1, .int i1), (2, .int i2), (3, .int i3), (4, .int i4)] [] _ _
  refine sm_seg 1 83 [(5, .int v8), (0, .ref a0), (1, .int i1), (2, .int i2), (3, .int i3), (4, .int i4)] [.ref a0] rfl ?_
  refine sm_gd fun h21 => ?_
  refine sm_gR rfl h21 rfl rfl fun r22 h23 => ?_
  show sm _ _ _ _ 86 [(5, .int v8), (0, .ref a0), (1, .int i1), (2, .int i2), (3, .int i3), (4, .int i4)] [.ref r22] _ _
  refine sm_seg 9 98 [(5, .int v8), (0, .ref a0), (1, .int i1), (2, .int i2), (3, .int i3), (4, .int i4)] [.int ((i3 * i4) / (10 : Int32)), .int i3, .int i2, .int v8, .int i1, .ref r22] rfl ?_
  refine sm_gd fun h24 => ?_
  refine sm_cV (as := [.int i1, .int v8, .int i2, .int i3, .int ((i3 * i4) / (10 : Int32))]) (rest := []) rfl rfl rfl rfl h24 (Nat.le_of_ble_eq_true rfl) (ca_106  r22 i1 v8 i2 i3 ((i3 * i4) / (10 : Int32)) w19) fun v25 h26 => ?_
  show sm _ _ _ _ 101 [(5, .int v8), (0, .ref a0), (1, .int i1), (2, .int i2), (3, .int i3), (4, .int i4)] [.int v25.1] _ _
  exact sm_rIW rfl rfl
def fn_163_33 (a0 : Nat) (i1 : Int32) (i2 : Int32) (i3 : Int32) (i4 : Int32) (w : cm_W) : Option (Int32 × cm_W) := (if cm_sh w a0 = some (.inl 10) then (cm_R w a0 5).bind fun r28 => (if cm_sh w r28 = some (.inl 6) then (cm_R w r28 2).bind fun r31 => (if cm_sh w r31 = some (.inl 7) then (fn_64 w r31).bind fun v34 => (if (cm_b v34) = 0 then fn_163_52  a0 i1 i2 i3 i4 w else (fn_140 a0 (1 : Int32) w).bind fun v37 => some (v37.1, v37.2)) else none) else none) else none)
theorem jt_163_33 (a0 : Nat) (i1 : Int32) (i2 : Int32) (i3 : Int32) (i4 : Int32) (w : cm_W) : sm cm_g 163 ck_163 kq_163 33 [(0, .ref a0), (1, .int i1), (2, .int i2), (3, .int i3), (4, .int i4)] [] w ((fn_163_33 a0 i1 i2 i3 i4 w).map cm_gI) := by
  unfold fn_163_33
  refine sm_seg 1 34 [(0, .ref a0), (1, .int i1), (2, .int i2), (3, .int i3), (4, .int i4)] [.ref a0] rfl ?_
  refine sm_gd fun h27 => ?_
  refine sm_gR rfl h27 rfl rfl fun r28 h29 => ?_
  show sm _ _ _ _ 37 [(0, .ref a0), (1, .int i1), (2, .int i2), (3, .int i3), (4, .int i4)] [.ref r28] _ _
  refine sm_gd fun h30 => ?_
  refine sm_gR rfl h30 rfl rfl fun r31 h32 => ?_
  show sm _ _ _ _ 40 [(0, .ref a0), (1, .int i1), (2, .int i2), (3, .int i3), (4, .int i4)] [.ref r31] _ _
  refine sm_gd fun h33 => ?_
  refine sm_cV (as := []) (rest := []) rfl rfl rfl rfl h33 (Nat.le_of_ble_eq_true rfl) (ca_64 w r31) fun v34 h35 => ?_
  show sm _ _ _ _ 43 [(0, .ref a0), (1, .int i1), (2, .int i2), (3, .int i3), (4, .int i4)] [.int (cm_b v34)] _ _
  refine sm_if (pc1 := 52) (lv1 := [(0, .ref a0), (1, .int i1), (2, .int i2), (3, .int i3), (4, .int i4)]) (pc2 := 46) (lv2 := [(0, .ref a0), (1, .int i1), (2, .int i2), (3, .int i3), (4, .int i4)]) (st1 := []) rfl rfl rfl (fun h36 => ?_) (fun h36 => ?_)
  · exact jt_163_52  a0 i1 i2 i3 i4 w
  · refine sm_seg 2 48 [(0, .ref a0), (1, .int i1), (2, .int i2), (3, .int i3), (4, .int i4)] [.int (1 : Int32), .ref a0] rfl ?_
    refine sm_cV (as := [.int (1 : Int32)]) (rest := []) rfl rfl rfl rfl h27 (Nat.le_of_ble_eq_true rfl) (ca_140  a0 (1 : Int32) w) fun v37 h38 => ?_
    show sm _ _ _ _ 51 [(0, .ref a0), (1, .int i1), (2, .int i2), (3, .int i3), (4, .int i4)] [.int v37.1] _ _
    exact sm_rIW rfl rfl
def fn_163 (a0 : Nat) (i1 : Int32) (i2 : Int32) (i3 : Int32) (i4 : Int32) (w : cm_W) : Option (Int32 × cm_W) := (if i3 < (1 : Int32) then fn_163_27  a0 w else (if i4 < 0 then fn_163_27  a0 w else (if (10 : Int32) < i4 then fn_163_27  a0 w else (if cm_sh w a0 = some (.inl 10) then (fn_151 w a0 i1 i2 i3).bind fun v43 => (if ¬ (cm_b v43) = 0 then fn_163_33  a0 i1 i2 i3 i4 w else fn_163_27  a0 w) else none))))
theorem jt_163_0 (a0 : Nat) (i1 : Int32) (i2 : Int32) (i3 : Int32) (i4 : Int32) (w : cm_W) : sm cm_g 163 ck_163 kq_163 0 [(0, .ref a0), (1, .int i1), (2, .int i2), (3, .int i3), (4, .int i4)] [] w ((fn_163 a0 i1 i2 i3 i4 w).map cm_gI) := by
  unfold fn_163
  refine sm_seg 2 2 [(0, .ref a0), (1, .int i1), (2, .int i2), (3, .int i3), (4, .int i4)] [.int (1 : Int32), .int i3] rfl ?_
  refine sm_if (pc1 := 27) (lv1 := [(0, .ref a0)]) (pc2 := 5) (lv2 := [(0, .ref a0), (1, .int i1), (2, .int i2), (3, .int i3), (4, .int i4)]) (st1 := []) rfl rfl rfl (fun h39 => ?_) (fun h39 => ?_)
  · exact jt_163_27  a0 w
  · refine sm_seg 1 7 [(0, .ref a0), (1, .int i1), (2, .int i2), (3, .int i3), (4, .int i4)] [.int i4] rfl ?_
    refine sm_if (pc1 := 27) (lv1 := [(0, .ref a0)]) (pc2 := 10) (lv2 := [(0, .ref a0), (1, .int i1), (2, .int i2), (3, .int i3), (4, .int i4)]) (st1 := []) rfl rfl rfl (fun h40 => ?_) (fun h40 => ?_)
    · exact jt_163_27  a0 w
    · refine sm_seg 2 14 [(0, .ref a0), (1, .int i1), (2, .int i2), (3, .int i3), (4, .int i4)] [.int (10 : Int32), .int i4] rfl ?_
      refine sm_if (pc1 := 27) (lv1 := [(0, .ref a0)]) (pc2 := 17) (lv2 := [(0, .ref a0), (1, .int i1), (2, .int i2), (3, .int i3), (4, .int i4)]) (st1 := []) rfl rfl rfl (fun h41 => ?_) (fun h41 => ?_)
      · exact jt_163_27  a0 w
      · refine sm_seg 4 21 [(0, .ref a0), (1, .int i1), (2, .int i2), (3, .int i3), (4, .int i4)] [.int i3, .int i2, .int i1, .ref a0] rfl ?_
        refine sm_gd fun h42 => ?_
        refine sm_cV (as := [.int i1, .int i2, .int i3]) (rest := []) rfl rfl rfl rfl h42 (Nat.le_of_ble_eq_true rfl) (ca_151 w a0 i1 i2 i3) fun v43 h44 => ?_
        show sm _ _ _ _ 24 [(0, .ref a0), (1, .int i1), (2, .int i2), (3, .int i3), (4, .int i4)] [.int (cm_b v43)] _ _
        refine sm_if (pc1 := 33) (lv1 := [(0, .ref a0), (1, .int i1), (2, .int i2), (3, .int i3), (4, .int i4)]) (pc2 := 27) (lv2 := [(0, .ref a0)]) (st1 := []) rfl rfl rfl (fun h45 => ?_) (fun h45 => ?_)
        · exact jt_163_33  a0 i1 i2 i3 i4 w
        · exact jt_163_27  a0 w
theorem ca_163 (a0 : Nat) (i1 : Int32) (i2 : Int32) (i3 : Int32) (i4 : Int32) (w : cm_W) : cm_ca cm_g 163 [.ref a0, .int i1, .int i2, .int i3, .int i4] w ((fn_163 a0 i1 i2 i3 i4 w).map cm_gI) := cm_ca_of (cm_me_of rfl rfl) rfl (jt_163_0 a0 i1 i2 i3 i4 w)
-- NailedBoxes.bring(I)Z
def fn_164_18 (a0 : Nat) (w : cm_W) : Option (Bool × cm_W) := (if cm_sh w a0 = some (.inl 10) then (fn_148 a0 (0 : Int32) w).bind fun v2 => some (v2.1, v2.2) else none)
theorem jt_164_18 (a0 : Nat) (w : cm_W) : sm cm_g 164 ck_164 kq_164 18 [(0, .ref a0)] [] w ((fn_164_18 a0 w).map cm_gB) := by
  unfold fn_164_18
  refine sm_seg 2 20 [(0, .ref a0)] [.int (0 : Int32), .ref a0] rfl ?_
  refine sm_gd fun h1 => ?_
  refine sm_cV (as := [.int (0 : Int32)]) (rest := []) rfl rfl rfl rfl h1 (Nat.le_of_ble_eq_true rfl) (ca_148  a0 (0 : Int32) w) fun v2 h3 => ?_
  show sm _ _ _ _ 23 [(0, .ref a0)] [.int (cm_b v2.1)] _ _
  exact sm_rBW (b := v2.1) rfl rfl
def fn_164_24 (a0 : Nat) (i1 : Int32) (w : cm_W) : Option (Bool × cm_W) := (if cm_sh w a0 = some (.inl 10) then (cm_R w a0 5).bind fun r5 => (if cm_sh w r5 = some (.inl 6) then (fn_114 r5 i1 w).bind fun w8 => some (true, w8) else none) else none)
theorem jt_164_24 (a0 : Nat) (i1 : Int32) (w : cm_W) : sm cm_g 164 ck_164 kq_164 24 [(0, .ref a0), (1, .int i1)] [] w ((fn_164_24 a0 i1 w).map cm_gB) := by
  unfold fn_164_24
  refine sm_seg 1 25 [(0, .ref a0), (1, .int i1)] [.ref a0] rfl ?_
  refine sm_gd fun h4 => ?_
  refine sm_gR rfl h4 rfl rfl fun r5 h6 => ?_
  show sm _ _ _ _ 28 [(0, .ref a0), (1, .int i1)] [.ref r5] _ _
  refine sm_seg 1 29 [(0, .ref a0), (1, .int i1)] [.int i1, .ref r5] rfl ?_
  refine sm_gd fun h7 => ?_
  refine sm_cV (as := [.int i1]) (rest := []) rfl rfl rfl rfl h7 (Nat.le_of_ble_eq_true rfl) (ca_114  r5 i1 w) fun w8 h9 => ?_
  show sm _ _ _ _ 32 [(0, .ref a0), (1, .int i1)] [] _ _
  refine sm_seg 1 33 [(0, .ref a0), (1, .int i1)] [.int (1 : Int32)] rfl ?_
  exact sm_rBW (b := true) rfl rfl
def fn_164 (a0 : Nat) (i1 : Int32) (w : cm_W) : Option (Bool × cm_W) := (if cm_sh w a0 = some (.inl 10) then (fn_146 w a0).bind fun v11 => (if ¬ (cm_b v11) = 0 then fn_164_18  a0 w else (cm_R w a0 5).bind fun r14 => (if cm_sh w r14 = some (.inl 6) then (fn_111 w r14 i1).bind fun v17 => (if ¬ (cm_b v17) = 0 then fn_164_24  a0 i1 w else fn_164_18  a0 w) else none)) else none)
theorem jt_164_0 (a0 : Nat) (i1 : Int32) (w : cm_W) : sm cm_g 164 ck_164 kq_164 0 [(0, .ref a0), (1, .int i1)] [] w ((fn_164 a0 i1 w).map cm_gB) := by
  unfold fn_164
  refine sm_seg 1 1 [(0, .ref a0), (1, .int i1)] [.ref a0] rfl ?_
  refine sm_gd fun h10 => ?_
  refine sm_cV (as := []) (rest := []) rfl rfl rfl rfl h10 (Nat.le_of_ble_eq_true rfl) (ca_146 w a0) fun v11 h12 => ?_
  show sm _ _ _ _ 4 [(0, .ref a0), (1, .int i1)] [.int (cm_b v11)] _ _
  refine sm_if (pc1 := 18) (lv1 := [(0, .ref a0)]) (pc2 := 7) (lv2 := [(0, .ref a0), (1, .int i1)]) (st1 := []) rfl rfl rfl (fun h13 => ?_) (fun h13 => ?_)
  · exact jt_164_18  a0 w
  · refine sm_seg 1 8 [(0, .ref a0), (1, .int i1)] [.ref a0] rfl ?_
    refine sm_gR rfl h10 rfl rfl fun r14 h15 => ?_
    show sm _ _ _ _ 11 [(0, .ref a0), (1, .int i1)] [.ref r14] _ _
    refine sm_seg 1 12 [(0, .ref a0), (1, .int i1)] [.int i1, .ref r14] rfl ?_
    refine sm_gd fun h16 => ?_
    refine sm_cV (as := [.int i1]) (rest := []) rfl rfl rfl rfl h16 (Nat.le_of_ble_eq_true rfl) (ca_111 w r14 i1) fun v17 h18 => ?_
    show sm _ _ _ _ 15 [(0, .ref a0), (1, .int i1)] [.int (cm_b v17)] _ _
    refine sm_if (pc1 := 24) (lv1 := [(0, .ref a0), (1, .int i1)]) (pc2 := 18) (lv2 := [(0, .ref a0)]) (st1 := []) rfl rfl rfl (fun h19 => ?_) (fun h19 => ?_)
    · exact jt_164_24  a0 i1 w
    · exact jt_164_18  a0 w
theorem ca_164 (a0 : Nat) (i1 : Int32) (w : cm_W) : cm_ca cm_g 164 [.ref a0, .int i1] w ((fn_164 a0 i1 w).map cm_gB) := cm_ca_of (cm_me_of rfl rfl) rfl (jt_164_0 a0 i1 w)
-- NailedBoxes.loan(II)I
def fn_165 (w : cm_W) (a0 : Nat) (i1 : Int32) (i2 : Int32) : Option Int32 := (if cm_sh w a0 = some (.inl 10) then (cm_R w a0 5).bind fun r2 => (if cm_sh w r2 = some (.inl 6) then (cm_R w r2 2).bind fun r5 => (if cm_sh w r5 = some (.inl 7) then (fn_1 w r5 i1 i2).bind fun v8 => some v8 else none) else none) else none)
theorem jt_165_0 (w : cm_W) (a0 : Nat) (i1 : Int32) (i2 : Int32) : sm cm_g 165 ck_165 kq_165 0 [(0, .ref a0), (1, .int i1), (2, .int i2)] [] w ((fn_165 w a0 i1 i2).map (cm_fI w)) := by
  unfold fn_165
  refine sm_seg 1 1 [(0, .ref a0), (1, .int i1), (2, .int i2)] [.ref a0] rfl ?_
  refine sm_gd fun h1 => ?_
  refine sm_gR rfl h1 rfl rfl fun r2 h3 => ?_
  show sm _ _ _ _ 4 [(0, .ref a0), (1, .int i1), (2, .int i2)] [.ref r2] _ _
  refine sm_gd fun h4 => ?_
  refine sm_gR rfl h4 rfl rfl fun r5 h6 => ?_
  show sm _ _ _ _ 7 [(0, .ref a0), (1, .int i1), (2, .int i2)] [.ref r5] _ _
  refine sm_seg 2 9 [(0, .ref a0), (1, .int i1), (2, .int i2)] [.int i2, .int i1, .ref r5] rfl ?_
  refine sm_gd fun h7 => ?_
  refine sm_cV (as := [.int i1, .int i2]) (rest := []) rfl rfl rfl rfl h7 (Nat.le_of_ble_eq_true rfl) (ca_1 w r5 i1 i2) fun v8 h9 => ?_
  show sm _ _ _ _ 12 [(0, .ref a0), (1, .int i1), (2, .int i2)] [.int v8] _ _
  exact sm_rI rfl rfl
theorem ca_165 (w : cm_W) (a0 : Nat) (i1 : Int32) (i2 : Int32) : cm_ca cm_g 165 [.ref a0, .int i1, .int i2] w ((fn_165 w a0 i1 i2).map (cm_fI w)) := cm_ca_of (cm_me_of rfl rfl) rfl (jt_165_0 w a0 i1 i2)
-- NailedBoxes.known(II)I
def fn_166_73 (w : cm_W) (a0 : Nat) (i1 : Int32) : Option Int32 := (if cm_sh w a0 = some (.inl 10) then (cm_R w a0 5).bind fun r2 => (if cm_sh w r2 = some (.inl 6) then (fn_119 w r2 i1).bind fun v5 => some v5 else none) else none)
theorem jt_166_73 (w : cm_W) (a0 : Nat) (i1 : Int32) : sm cm_g 166 ck_166 kq_166 73 [(0, .ref a0), (1, .int i1)] [] w ((fn_166_73 w a0 i1).map (cm_fI w)) := by
  unfold fn_166_73
  refine sm_seg 1 74 [(0, .ref a0), (1, .int i1)] [.ref a0] rfl ?_
  refine sm_gd fun h1 => ?_
  refine sm_gR rfl h1 rfl rfl fun r2 h3 => ?_
  show sm _ _ _ _ 77 [(0, .ref a0), (1, .int i1)] [.ref r2] _ _
  refine sm_seg 1 78 [(0, .ref a0), (1, .int i1)] [.int i1, .ref r2] rfl ?_
  refine sm_gd fun h4 => ?_
  refine sm_cV (as := [.int i1]) (rest := []) rfl rfl rfl rfl h4 (Nat.le_of_ble_eq_true rfl) (ca_119 w r2 i1) fun v5 h6 => ?_
  show sm _ _ _ _ 81 [(0, .ref a0), (1, .int i1)] [.int v5] _ _
  exact sm_rI rfl rfl
def fn_166_82 (w : cm_W) (a0 : Nat) (i1 : Int32) : Option Int32 := (if cm_sh w a0 = some (.inl 10) then (cm_R w a0 5).bind fun r8 => (if cm_sh w r8 = some (.inl 6) then (fn_120 w r8 i1 (1 : Int32)).bind fun v11 => some v11 else none) else none)
theorem jt_166_82 (w : cm_W) (a0 : Nat) (i1 : Int32) : sm cm_g 166 ck_166 kq_166 82 [(0, .ref a0), (1, .int i1)] [] w ((fn_166_82 w a0 i1).map (cm_fI w)) := by
  unfold fn_166_82
  refine sm_seg 1 83 [(0, .ref a0), (1, .int i1)] [.ref a0] rfl ?_
  refine sm_gd fun h7 => ?_
  refine sm_gR rfl h7 rfl rfl fun r8 h9 => ?_
  show sm _ _ _ _ 86 [(0, .ref a0), (1, .int i1)] [.ref r8] _ _
  refine sm_seg 2 88 [(0, .ref a0), (1, .int i1)] [.int (1 : Int32), .int i1, .ref r8] rfl ?_
  refine sm_gd fun h10 => ?_
  refine sm_cV (as := [.int i1, .int (1 : Int32)]) (rest := []) rfl rfl rfl rfl h10 (Nat.le_of_ble_eq_true rfl) (ca_120 w r8 i1 (1 : Int32)) fun v11 h12 => ?_
  show sm _ _ _ _ 91 [(0, .ref a0), (1, .int i1)] [.int v11] _ _
  exact sm_rI rfl rfl
def fn_166_92 (w : cm_W) (a0 : Nat) (i1 : Int32) : Option Int32 := (if cm_sh w a0 = some (.inl 10) then (cm_R w a0 5).bind fun r14 => (if cm_sh w r14 = some (.inl 6) then (fn_120 w r14 i1 (0 : Int32)).bind fun v17 => some v17 else none) else none)
theorem jt_166_92 (w : cm_W) (a0 : Nat) (i1 : Int32) : sm cm_g 166 ck_166 kq_166 92 [(0, .ref a0), (1, .int i1)] [] w ((fn_166_92 w a0 i1).map (cm_fI w)) := by
  unfold fn_166_92
  refine sm_seg 1 93 [(0, .ref a0), (1, .int i1)] [.ref a0] rfl ?_
  refine sm_gd fun h13 => ?_
  refine sm_gR rfl h13 rfl rfl fun r14 h15 => ?_
  show sm _ _ _ _ 96 [(0, .ref a0), (1, .int i1)] [.ref r14] _ _
  refine sm_seg 2 98 [(0, .ref a0), (1, .int i1)] [.int (0 : Int32), .int i1, .ref r14] rfl ?_
  refine sm_gd fun h16 => ?_
  refine sm_cV (as := [.int i1, .int (0 : Int32)]) (rest := []) rfl rfl rfl rfl h16 (Nat.le_of_ble_eq_true rfl) (ca_120 w r14 i1 (0 : Int32)) fun v17 h18 => ?_
  show sm _ _ _ _ 101 [(0, .ref a0), (1, .int i1)] [.int v17] _ _
  exact sm_rI rfl rfl
def fn_166_23 (w : cm_W) (a0 : Nat) (i1 : Int32) (i2 : Int32) : Option Int32 := (if i2 = (0 : Int32) then (if cm_sh w a0 = some (.inl 10) then (cm_R w a0 10).bind fun r21 => (cm_R w a0 3).bind fun r23 => (cm_R w a0 5).bind fun r25 => (if cm_sh w r21 = some (.inl 2) then (fn_29 w r21 r23 r25 i1).bind fun v28 => some v28 else none) else none) else (if i2 = (1 : Int32) then fn_166_73 w a0 i1 else (if i2 = (2 : Int32) then fn_166_82 w a0 i1 else (if i2 = (3 : Int32) then fn_166_92 w a0 i1 else some (-1 : Int32)))))
theorem jt_166_23 (w : cm_W) (a0 : Nat) (i1 : Int32) (i2 : Int32) : sm cm_g 166 ck_166 kq_166 23 [(0, .ref a0), (1, .int i1), (2, .int i2)] [] w ((fn_166_23 w a0 i1 i2).map (cm_fI w)) := by
  unfold fn_166_23
  refine sm_seg 1 24 [(0, .ref a0), (1, .int i1), (2, .int i2)] [.int i2] rfl ?_
  refine sm_br (fun h19 => ?_) (fun h19 => ?_)
  · refine sm_ts (off := (32)) (pc1 := 56) (lv1 := [(0, .ref a0), (1, .int i1), (2, .int i2)]) rfl (by rw [h19]; rfl) rfl rfl ?_
    refine sm_seg 1 57 [(0, .ref a0), (1, .int i1), (2, .int i2)] [.ref a0] rfl ?_
    refine sm_gd fun h20 => ?_
    refine sm_gR rfl h20 rfl rfl fun r21 h22 => ?_
    show sm _ _ _ _ 60 [(0, .ref a0), (1, .int i1), (2, .int i2)] [.ref r21] _ _
    refine sm_seg 1 61 [(0, .ref a0), (1, .int i1), (2, .int i2)] [.ref a0, .ref r21] rfl ?_
    refine sm_gR rfl h20 rfl rfl fun r23 h24 => ?_
    show sm _ _ _ _ 64 [(0, .ref a0), (1, .int i1), (2, .int i2)] [.ref r23, .ref r21] _ _
    refine sm_seg 1 65 [(0, .ref a0), (1, .int i1), (2, .int i2)] [.ref a0, .ref r23, .ref r21] rfl ?_
    refine sm_gR rfl h20 rfl rfl fun r25 h26 => ?_
    show sm _ _ _ _ 68 [(0, .ref a0), (1, .int i1), (2, .int i2)] [.ref r25, .ref r23, .ref r21] _ _
    refine sm_seg 1 69 [(0, .ref a0), (1, .int i1), (2, .int i2)] [.int i1, .ref r25, .ref r23, .ref r21] rfl ?_
    refine sm_gd fun h27 => ?_
    refine sm_cV (as := [.ref r23, .ref r25, .int i1]) (rest := []) rfl rfl rfl rfl h27 (Nat.le_of_ble_eq_true rfl) (ca_29 w r21 r23 r25 i1) fun v28 h29 => ?_
    show sm _ _ _ _ 72 [(0, .ref a0), (1, .int i1), (2, .int i2)] [.int v28] _ _
    exact sm_rI rfl rfl
  refine sm_br (fun h30 => ?_) (fun h30 => ?_)
  · refine sm_ts (off := (49)) (pc1 := 73) (lv1 := [(0, .ref a0), (1, .int i1)]) rfl (by rw [h30]; rfl) rfl rfl ?_
    exact jt_166_73 w a0 i1
  refine sm_br (fun h31 => ?_) (fun h31 => ?_)
  · refine sm_ts (off := (58)) (pc1 := 82) (lv1 := [(0, .ref a0), (1, .int i1)]) rfl (by rw [h31]; rfl) rfl rfl ?_
    exact jt_166_82 w a0 i1
  refine sm_br (fun h32 => ?_) (fun h32 => ?_)
  · refine sm_ts (off := (68)) (pc1 := 92) (lv1 := [(0, .ref a0), (1, .int i1)]) rfl (by rw [h32]; rfl) rfl rfl ?_
    exact jt_166_92 w a0 i1
  refine sm_ts (off := (78)) (pc1 := 102) (lv1 := []) rfl (cm_tsd (n := 4) rfl rfl (fun j hj => match j, hj with | 0, _ => .inr (cm_ne h19 rfl) | 1, _ => .inr (cm_ne h30 rfl) | 2, _ => .inr (cm_ne h31 rfl) | 3, _ => .inr (cm_ne h32 rfl) | _ + 4, h => absurd h (by omega))) rfl rfl ?_
  refine sm_seg 1 103 [] [.int (-1 : Int32)] rfl ?_
  exact sm_rI rfl rfl
def fn_166 (w : cm_W) (a0 : Nat) (i1 : Int32) (i2 : Int32) : Option Int32 := (if cm_sh w a0 = some (.inl 10) then (fn_146 w a0).bind fun v34 => (if (cm_b v34) = 0 then some (-1 : Int32) else (cm_R w a0 3).bind fun r37 => (if cm_sh w r37 = some (.inl 9) then (cm_R w r37 3).bind fun r40 => (if cm_sh w r40 = some (.inl 7) then (fn_7 w r40 i1).bind fun v43 => (if ¬ (cm_b v43) = 0 then fn_166_23 w a0 i1 i2 else some (-1 : Int32)) else none) else none)) else none)
theorem jt_166_0 (w : cm_W) (a0 : Nat) (i1 : Int32) (i2 : Int32) : sm cm_g 166 ck_166 kq_166 0 [(0, .ref a0), (1, .int i1), (2, .int i2)] [] w ((fn_166 w a0 i1 i2).map (cm_fI w)) := by
  unfold fn_166
  refine sm_seg 1 1 [(0, .ref a0), (1, .int i1), (2, .int i2)] [.ref a0] rfl ?_
  refine sm_gd fun h33 => ?_
  refine sm_cV (as := []) (rest := []) rfl rfl rfl rfl h33 (Nat.le_of_ble_eq_true rfl) (ca_146 w a0) fun v34 h35 => ?_
  show sm _ _ _ _ 4 [(0, .ref a0), (1, .int i1), (2, .int i2)] [.int (cm_b v34)] _ _
  refine sm_if (pc1 := 21) (lv1 := []) (pc2 := 7) (lv2 := [(0, .ref a0), (1, .int i1), (2, .int i2)]) (st1 := []) rfl rfl rfl (fun h36 => ?_) (fun h36 => ?_)
  · refine sm_seg 1 22 [] [.int (-1 : Int32)] rfl ?_
    exact sm_rI rfl rfl
  · refine sm_seg 1 8 [(0, .ref a0), (1, .int i1), (2, .int i2)] [.ref a0] rfl ?_
    refine sm_gR rfl h33 rfl rfl fun r37 h38 => ?_
    show sm _ _ _ _ 11 [(0, .ref a0), (1, .int i1), (2, .int i2)] [.ref r37] _ _
    refine sm_gd fun h39 => ?_
    refine sm_gR rfl h39 rfl rfl fun r40 h41 => ?_
    show sm _ _ _ _ 14 [(0, .ref a0), (1, .int i1), (2, .int i2)] [.ref r40] _ _
    refine sm_seg 1 15 [(0, .ref a0), (1, .int i1), (2, .int i2)] [.int i1, .ref r40] rfl ?_
    refine sm_gd fun h42 => ?_
    refine sm_cV (as := [.int i1]) (rest := []) rfl rfl rfl rfl h42 (Nat.le_of_ble_eq_true rfl) (ca_7 w r40 i1) fun v43 h44 => ?_
    show sm _ _ _ _ 18 [(0, .ref a0), (1, .int i1), (2, .int i2)] [.int (cm_b v43)] _ _
    refine sm_if (pc1 := 23) (lv1 := [(0, .ref a0), (1, .int i1), (2, .int i2)]) (pc2 := 21) (lv2 := []) (st1 := []) rfl rfl rfl (fun h45 => ?_) (fun h45 => ?_)
    · exact jt_166_23 w a0 i1 i2
    · refine sm_seg 1 22 [] [.int (-1 : Int32)] rfl ?_
      exact sm_rI rfl rfl
theorem ca_166 (w : cm_W) (a0 : Nat) (i1 : Int32) (i2 : Int32) : cm_ca cm_g 166 [.ref a0, .int i1, .int i2] w ((fn_166 w a0 i1 i2).map (cm_fI w)) := cm_ca_of (cm_me_of rfl rfl) rfl (jt_166_0 w a0 i1 i2)
-- NailedBoxes.heavy(I)I
def fn_167_79 (w : cm_W) (k_27 : Nat → Int32 → Int32 → Int32 → Option Int32) (a0 : Nat) (i1 : Int32) (i2 : Int32) (i3 : Int32) : Option Int32 := k_27 a0 i1 i2 (i3 + (1 : Int32))
theorem jt_167_79 (w : cm_W) (k_27 : Nat → Int32 → Int32 → Int32 → Option Int32) (hk_27 : ∀ (a0 : Nat) (i1 : Int32) (i2 : Int32) (i3 : Int32), sm cm_g 167 ck_167 kq_167 27 [(0, .ref a0), (1, .int i1), (2, .int i2), (3, .int i3)] [] w ((k_27 a0 i1 i2 i3).map (cm_fI w))) (a0 : Nat) (i1 : Int32) (i2 : Int32) (i3 : Int32) : sm cm_g 167 ck_167 kq_167 79 [(0, .ref a0), (1, .int i1), (2, .int i2), (3, .int i3)] [] w ((fn_167_79 w k_27 a0 i1 i2 i3).map (cm_fI w)) := by
  unfold fn_167_79
  refine sm_seg 2 27 [(0, .ref a0), (1, .int i1), (2, .int i2), (3, .int (i3 + (1 : Int32)))] [] rfl ?_
  exact hk_27 a0 i1 i2 (i3 + (1 : Int32))
def fn_167_27 (w : cm_W) : Nat → Nat → Int32 → Int32 → Int32 → Option Int32
  | 0, _, _, _, _ => none
  | n + 1, a0, i1, i2, i3 => (if cm_sh w a0 = some (.inl 10) then (cm_R w a0 5).bind fun r2 => (if cm_sh w r2 = some (.inl 6) then (cm_R w r2 0).bind fun r5 => (if cm_sh w r5 = some (.inl 7) then (if (cm_I w r5 2) ≤ i3 then some i2 else (cm_R w a0 5).bind fun r9 => (if cm_sh w r9 = some (.inl 6) then (fn_115 w r9 i3 i1).bind fun v12 => (if (cm_b v12) = 0 then fn_167_79 w (fn_167_27 w n) a0 i1 i2 i3 else (cm_R w a0 3).bind fun r15 => (if cm_sh w r15 = some (.inl 9) then (cm_R w r15 1).bind fun r18 => (cm_R w a0 5).bind fun r20 => (if cm_sh w r20 = some (.inl 6) then (cm_R w r20 0).bind fun r23 => (if cm_sh w r23 = some (.inl 7) then (fn_1 w r23 i3 (1 : Int32)).bind fun v26 => (if cm_sh w r18 = some (.inl 7) then (fn_1 w r18 v26 (1 : Int32)).bind fun v29 => fn_167_79 w (fn_167_27 w n) a0 i1 (i2 + v29) i3 else none) else none) else none) else none)) else none)) else none) else none) else none)
theorem jt_167_27 (w : cm_W) : ∀ (n : Nat) (a0 : Nat) (i1 : Int32) (i2 : Int32) (i3 : Int32), sm cm_g 167 ck_167 kq_167 27 [(0, .ref a0), (1, .int i1), (2, .int i2), (3, .int i3)] [] w ((fn_167_27 w n a0 i1 i2 i3).map (cm_fI w)) := by
  intro n
  induction n with
  | zero => intro a0 i1 i2 i3; exact sm_no
  | succ n ih =>
    intro a0 i1 i2 i3
    rw [fn_167_27]
    refine sm_seg 2 29 [(0, .ref a0), (1, .int i1), (2, .int i2), (3, .int i3)] [.ref a0, .int i3] rfl ?_
    refine sm_gd fun h1 => ?_
    refine sm_gR rfl h1 rfl rfl fun r2 h3 => ?_
    show sm _ _ _ _ 32 [(0, .ref a0), (1, .int i1), (2, .int i2), (3, .int i3)] [.ref r2, .int i3] _ _
    refine sm_gd fun h4 => ?_
    refine sm_gR rfl h4 rfl rfl fun r5 h6 => ?_
    show sm _ _ _ _ 35 [(0, .ref a0), (1, .int i1), (2, .int i2), (3, .int i3)] [.ref r5, .int i3] _ _
    refine sm_gd fun h7 => ?_
    refine sm_gI rfl h7 rfl ?_
    show sm _ _ _ _ 38 [(0, .ref a0), (1, .int i1), (2, .int i2), (3, .int i3)] [.int (cm_I w r5 2), .int i3] _ _
    refine sm_if (pc1 := 85) (lv1 := [(2, .int i2)]) (pc2 := 41) (lv2 := [(0, .ref a0), (1, .int i1), (2, .int i2), (3, .int i3)]) (st1 := []) rfl rfl rfl (fun h8 => ?_) (fun h8 => ?_)
    · refine sm_seg 1 86 [(2, .int i2)] [.int i2] rfl ?_
      exact sm_rI rfl rfl
    · refine sm_seg 1 42 [(0, .ref a0), (1, .int i1), (2, .int i2), (3, .int i3)] [.ref a0] rfl ?_
      refine sm_gR rfl h1 rfl rfl fun r9 h10 => ?_
      show sm _ _ _ _ 45 [(0, .ref a0), (1, .int i1), (2, .int i2), (3, .int i3)] [.ref r9] _ _
      refine sm_seg 2 47 [(0, .ref a0), (1, .int i1), (2, .int i2), (3, .int i3)] [.int i1, .int i3, .ref r9] rfl ?_
      refine sm_gd fun h11 => ?_
      refine sm_cV (as := [.int i3, .int i1]) (rest := []) rfl rfl rfl rfl h11 (Nat.le_of_ble_eq_true rfl) (ca_115 w r9 i3 i1) fun v12 h13 => ?_
      show sm _ _ _ _ 50 [(0, .ref a0), (1, .int i1), (2, .int i2), (3, .int i3)] [.int (cm_b v12)] _ _
      refine sm_if (pc1 := 79) (lv1 := [(0, .ref a0), (1, .int i1), (2, .int i2), (3, .int i3)]) (pc2 := 53) (lv2 := [(0, .ref a0), (1, .int i1), (2, .int i2), (3, .int i3)]) (st1 := []) rfl rfl rfl (fun h14 => ?_) (fun h14 => ?_)
      · exact jt_167_79 w (fn_167_27 w n) ih a0 i1 i2 i3
      · refine sm_seg 2 55 [(0, .ref a0), (1, .int i1), (2, .int i2), (3, .int i3)] [.ref a0, .int i2] rfl ?_
        refine sm_gR rfl h1 rfl rfl fun r15 h16 => ?_
        show sm _ _ _ _ 58 [(0, .ref a0), (1, .int i1), (2, .int i2), (3, .int i3)] [.ref r15, .int i2] _ _
        refine sm_gd fun h17 => ?_
        refine sm_gR rfl h17 rfl rfl fun r18 h19 => ?_
        show sm _ _ _ _ 61 [(0, .ref a0), (1, .int i1), (2, .int i2), (3, .int i3)] [.ref r18, .int i2] _ _
        refine sm_seg 1 62 [(0, .ref a0), (1, .int i1), (2, .int i2), (3, .int i3)] [.ref a0, .ref r18, .int i2] rfl ?_
        refine sm_gR rfl h1 rfl rfl fun r20 h21 => ?_
        show sm _ _ _ _ 65 [(0, .ref a0), (1, .int i1), (2, .int i2), (3, .int i3)] [.ref r20, .ref r18, .int i2] _ _
        refine sm_gd fun h22 => ?_
        refine sm_gR rfl h22 rfl rfl fun r23 h24 => ?_
        show sm _ _ _ _ 68 [(0, .ref a0), (1, .int i1), (2, .int i2), (3, .int i3)] [.ref r23, .ref r18, .int i2] _ _
        refine sm_seg 2 70 [(0, .ref a0), (1, .int i1), (2, .int i2), (3, .int i3)] [.int (1 : Int32), .int i3, .ref r23, .ref r18, .int i2] rfl ?_
        refine sm_gd fun h25 => ?_
        refine sm_cV (as := [.int i3, .int (1 : Int32)]) (rest := [.ref r18, .int i2]) rfl rfl rfl rfl h25 (Nat.le_of_ble_eq_true rfl) (ca_1 w r23 i3 (1 : Int32)) fun v26 h27 => ?_
        show sm _ _ _ _ 73 [(0, .ref a0), (1, .int i1), (2, .int i2), (3, .int i3)] [.int v26, .ref r18, .int i2] _ _
        refine sm_seg 1 74 [(0, .ref a0), (1, .int i1), (2, .int i2), (3, .int i3)] [.int (1 : Int32), .int v26, .ref r18, .int i2] rfl ?_
        refine sm_gd fun h28 => ?_
        refine sm_cV (as := [.int v26, .int (1 : Int32)]) (rest := [.int i2]) rfl rfl rfl rfl h28 (Nat.le_of_ble_eq_true rfl) (ca_1 w r18 v26 (1 : Int32)) fun v29 h30 => ?_
        show sm _ _ _ _ 77 [(0, .ref a0), (1, .int i1), (2, .int i2), (3, .int i3)] [.int v29, .int i2] _ _
        refine sm_seg 2 79 [(0, .ref a0), (1, .int i1), (2, .int (i2 + v29)), (3, .int i3)] [] rfl ?_
        exact jt_167_79 w (fn_167_27 w n) ih a0 i1 (i2 + v29) i3
def fn_167_23 (w : cm_W) (a0 : Nat) (i1 : Int32) : Option Int32 := fn_167_27 w cm_N a0 i1 (0 : Int32) (0 : Int32)
theorem jt_167_23 (w : cm_W) (a0 : Nat) (i1 : Int32) : sm cm_g 167 ck_167 kq_167 23 [(0, .ref a0), (1, .int i1)] [] w ((fn_167_23 w a0 i1).map (cm_fI w)) := by
  unfold fn_167_23
  refine sm_seg 4 27 [(0, .ref a0), (1, .int i1), (2, .int (0 : Int32)), (3, .int (0 : Int32))] [] rfl ?_
  exact jt_167_27 w cm_N a0 i1 (0 : Int32) (0 : Int32)
def fn_167 (w : cm_W) (a0 : Nat) (i1 : Int32) : Option Int32 := (if cm_sh w a0 = some (.inl 10) then (fn_146 w a0).bind fun v32 => (if (cm_b v32) = 0 then some (-1 : Int32) else (cm_R w a0 5).bind fun r35 => (if cm_sh w r35 = some (.inl 6) then (cm_R w r35 0).bind fun r38 => (if cm_sh w r38 = some (.inl 7) then (fn_7 w r38 i1).bind fun v41 => (if ¬ (cm_b v41) = 0 then fn_167_23 w a0 i1 else some (-1 : Int32)) else none) else none)) else none)
theorem jt_167_0 (w : cm_W) (a0 : Nat) (i1 : Int32) : sm cm_g 167 ck_167 kq_167 0 [(0, .ref a0), (1, .int i1)] [] w ((fn_167 w a0 i1).map (cm_fI w)) := by
  unfold fn_167
  refine sm_seg 1 1 [(0, .ref a0), (1, .int i1)] [.ref a0] rfl ?_
  refine sm_gd fun h31 => ?_
  refine sm_cV (as := []) (rest := []) rfl rfl rfl rfl h31 (Nat.le_of_ble_eq_true rfl) (ca_146 w a0) fun v32 h33 => ?_
  show sm _ _ _ _ 4 [(0, .ref a0), (1, .int i1)] [.int (cm_b v32)] _ _
  refine sm_if (pc1 := 21) (lv1 := []) (pc2 := 7) (lv2 := [(0, .ref a0), (1, .int i1)]) (st1 := []) rfl rfl rfl (fun h34 => ?_) (fun h34 => ?_)
  · refine sm_seg 1 22 [] [.int (-1 : Int32)] rfl ?_
    exact sm_rI rfl rfl
  · refine sm_seg 1 8 [(0, .ref a0), (1, .int i1)] [.ref a0] rfl ?_
    refine sm_gR rfl h31 rfl rfl fun r35 h36 => ?_
    show sm _ _ _ _ 11 [(0, .ref a0), (1, .int i1)] [.ref r35] _ _
    refine sm_gd fun h37 => ?_
    refine sm_gR rfl h37 rfl rfl fun r38 h39 => ?_
    show sm _ _ _ _ 14 [(0, .ref a0), (1, .int i1)] [.ref r38] _ _
    refine sm_seg 1 15 [(0, .ref a0), (1, .int i1)] [.int i1, .ref r38] rfl ?_
    refine sm_gd fun h40 => ?_
    refine sm_cV (as := [.int i1]) (rest := []) rfl rfl rfl rfl h40 (Nat.le_of_ble_eq_true rfl) (ca_7 w r38 i1) fun v41 h42 => ?_
    show sm _ _ _ _ 18 [(0, .ref a0), (1, .int i1)] [.int (cm_b v41)] _ _
    refine sm_if (pc1 := 23) (lv1 := [(0, .ref a0), (1, .int i1)]) (pc2 := 21) (lv2 := []) (st1 := []) rfl rfl rfl (fun h43 => ?_) (fun h43 => ?_)
    · exact jt_167_23 w a0 i1
    · refine sm_seg 1 22 [] [.int (-1 : Int32)] rfl ?_
      exact sm_rI rfl rfl
theorem ca_167 (w : cm_W) (a0 : Nat) (i1 : Int32) : cm_ca cm_g 167 [.ref a0, .int i1] w ((fn_167 w a0 i1).map (cm_fI w)) := cm_ca_of (cm_me_of rfl rfl) rfl (jt_167_0 w a0 i1)
-- NailedBoxes.came(I)I
def fn_168_36 (w : cm_W) (a0 : Nat) : Option Int32 := (if cm_sh w a0 = some (.inl 10) then (cm_R w a0 5).bind fun r2 => (if cm_sh w r2 = some (.inl 6) then (fn_122 w r2).bind fun v5 => some v5 else none) else none)
theorem jt_168_36 (w : cm_W) (a0 : Nat) : sm cm_g 168 ck_168 kq_168 36 [(0, .ref a0)] [] w ((fn_168_36 w a0).map (cm_fI w)) := by
  unfold fn_168_36
  refine sm_seg 1 37 [(0, .ref a0)] [.ref a0] rfl ?_
  refine sm_gd fun h1 => ?_
  refine sm_gR rfl h1 rfl rfl fun r2 h3 => ?_
  show sm _ _ _ _ 40 [(0, .ref a0)] [.ref r2] _ _
  refine sm_gd fun h4 => ?_
  refine sm_cV (as := []) (rest := []) rfl rfl rfl rfl h4 (Nat.le_of_ble_eq_true rfl) (ca_122 w r2) fun v5 h6 => ?_
  show sm _ _ _ _ 43 [(0, .ref a0)] [.int v5] _ _
  exact sm_rI rfl rfl
def fn_168_44 (w : cm_W) (a0 : Nat) : Option Int32 := (if cm_sh w a0 = some (.inl 10) then (cm_R w a0 5).bind fun r8 => (if cm_sh w r8 = some (.inl 6) then (fn_123 w r8).bind fun v11 => some v11 else none) else none)
theorem jt_168_44 (w : cm_W) (a0 : Nat) : sm cm_g 168 ck_168 kq_168 44 [(0, .ref a0)] [] w ((fn_168_44 w a0).map (cm_fI w)) := by
  unfold fn_168_44
  refine sm_seg 1 45 [(0, .ref a0)] [.ref a0] rfl ?_
  refine sm_gd fun h7 => ?_
  refine sm_gR rfl h7 rfl rfl fun r8 h9 => ?_
  show sm _ _ _ _ 48 [(0, .ref a0)] [.ref r8] _ _
  refine sm_gd fun h10 => ?_
  refine sm_cV (as := []) (rest := []) rfl rfl rfl rfl h10 (Nat.le_of_ble_eq_true rfl) (ca_123 w r8) fun v11 h12 => ?_
  show sm _ _ _ _ 51 [(0, .ref a0)] [.int v11] _ _
  exact sm_rI rfl rfl
def fn_168 (w : cm_W) (a0 : Nat) (i1 : Int32) : Option Int32 := (if i1 = (0 : Int32) then (if cm_sh w a0 = some (.inl 10) then (cm_R w a0 5).bind fun r15 => (if cm_sh w r15 = some (.inl 6) then (fn_121 w r15).bind fun v18 => some v18 else none) else none) else (if i1 = (1 : Int32) then fn_168_36 w a0 else (if i1 = (2 : Int32) then fn_168_44 w a0 else some (-1 : Int32))))
theorem jt_168_0 (w : cm_W) (a0 : Nat) (i1 : Int32) : sm cm_g 168 ck_168 kq_168 0 [(0, .ref a0), (1, .int i1)] [] w ((fn_168 w a0 i1).map (cm_fI w)) := by
  unfold fn_168
  refine sm_seg 1 1 [(0, .ref a0), (1, .int i1)] [.int i1] rfl ?_
  refine sm_br (fun h13 => ?_) (fun h13 => ?_)
  · refine sm_ts (off := (27)) (pc1 := 28) (lv1 := [(0, .ref a0), (1, .int i1)]) rfl (by rw [h13]; rfl) rfl rfl ?_
    refine sm_seg 1 29 [(0, .ref a0), (1, .int i1)] [.ref a0] rfl ?_
    refine sm_gd fun h14 => ?_
    refine sm_gR rfl h14 rfl rfl fun r15 h16 => ?_
    show sm _ _ _ _ 32 [(0, .ref a0), (1, .int i1)] [.ref r15] _ _
    refine sm_gd fun h17 => ?_
    refine sm_cV (as := []) (rest := []) rfl rfl rfl rfl h17 (Nat.le_of_ble_eq_true rfl) (ca_121 w r15) fun v18 h19 => ?_
    show sm _ _ _ _ 35 [(0, .ref a0), (1, .int i1)] [.int v18] _ _
    exact sm_rI rfl rfl
  refine sm_br (fun h20 => ?_) (fun h20 => ?_)
  · refine sm_ts (off := (35)) (pc1 := 36) (lv1 := [(0, .ref a0)]) rfl (by rw [h20]; rfl) rfl rfl ?_
    exact jt_168_36 w a0
  refine sm_br (fun h21 => ?_) (fun h21 => ?_)
  · refine sm_ts (off := (43)) (pc1 := 44) (lv1 := [(0, .ref a0)]) rfl (by rw [h21]; rfl) rfl rfl ?_
    exact jt_168_44 w a0
  refine sm_ts (off := (51)) (pc1 := 52) (lv1 := []) rfl (cm_tsd (n := 3) rfl rfl (fun j hj => match j, hj with | 0, _ => .inr (cm_ne h13 rfl) | 1, _ => .inr (cm_ne h20 rfl) | 2, _ => .inr (cm_ne h21 rfl) | _ + 3, h => absurd h (by omega))) rfl rfl ?_
  refine sm_seg 1 53 [] [.int (-1 : Int32)] rfl ?_
  exact sm_rI rfl rfl
theorem ca_168 (w : cm_W) (a0 : Nat) (i1 : Int32) : cm_ca cm_g 168 [.ref a0, .int i1] w ((fn_168 w a0 i1).map (cm_fI w)) := cm_ca_of (cm_me_of rfl rfl) rfl (jt_168_0 w a0 i1)
-- NailedBoxes.wanted(II)I
def fn_169_107 (k_42 : Nat → Int32 → Int32 → Int32 → Int32 → Int32 → cm_W → Option (Int32 × cm_W)) (a0 : Nat) (i1 : Int32) (i2 : Int32) (i3 : Int32) (i4 : Int32) (i5 : Int32) (w : cm_W) : Option (Int32 × cm_W) := k_42 a0 i1 i2 i3 i4 (i5 + (1 : Int32)) w
theorem jt_169_107 (k_42 : Nat → Int32 → Int32 → Int32 → Int32 → Int32 → cm_W → Option (Int32 × cm_W)) (hk_42 : ∀ (a0 : Nat) (i1 : Int32) (i2 : Int32) (i3 : Int32) (i4 : Int32) (i5 : Int32) (w : cm_W), sm cm_g 169 ck_169 kq_169 42 [(0, .ref a0), (1, .int i1), (2, .int i2), (3, .int i3), (4, .int i4), (5, .int i5)] [] w ((k_42 a0 i1 i2 i3 i4 i5 w).map cm_gI)) (a0 : Nat) (i1 : Int32) (i2 : Int32) (i3 : Int32) (i4 : Int32) (i5 : Int32) (w : cm_W) : sm cm_g 169 ck_169 kq_169 107 [(0, .ref a0), (1, .int i1), (2, .int i2), (3, .int i3), (4, .int i4), (5, .int i5)] [] w ((fn_169_107 k_42 a0 i1 i2 i3 i4 i5 w).map cm_gI) := by
  unfold fn_169_107
  refine sm_seg 2 42 [(0, .ref a0), (1, .int i1), (2, .int i2), (3, .int i3), (4, .int i4), (5, .int (i5 + (1 : Int32)))] [] rfl ?_
  exact hk_42 a0 i1 i2 i3 i4 (i5 + (1 : Int32)) w
def fn_169_74 (k_42 : Nat → Int32 → Int32 → Int32 → Int32 → Int32 → cm_W → Option (Int32 × cm_W)) (a0 : Nat) (i1 : Int32) (i2 : Int32) (i3 : Int32) (i4 : Int32) (i5 : Int32) (w : cm_W) : Option (Int32 × cm_W) := (if cm_sh w a0 = some (.inl 10) then (cm_R w a0 10).bind fun r2 => (cm_R w a0 3).bind fun r4 => (cm_R w a0 5).bind fun r6 => (if cm_sh w r2 = some (.inl 2) then (fn_26 r2 r4 r6 i5 i1 w).bind fun v9 => (if v9.1 ≤ i3 then fn_169_107  k_42 a0 i1 i2 i3 i4 i5 v9.2 else fn_169_107  k_42 a0 i1 i2 v9.1 i5 i5 v9.2) else none) else none)
theorem jt_169_74 (k_42 : Nat → Int32 → Int32 → Int32 → Int32 → Int32 → cm_W → Option (Int32 × cm_W)) (hk_42 : ∀ (a0 : Nat) (i1 : Int32) (i2 : Int32) (i3 : Int32) (i4 : Int32) (i5 : Int32) (w : cm_W), sm cm_g 169 ck_169 kq_169 42 [(0, .ref a0), (1, .int i1), (2, .int i2), (3, .int i3), (4, .int i4), (5, .int i5)] [] w ((k_42 a0 i1 i2 i3 i4 i5 w).map cm_gI)) (a0 : Nat) (i1 : Int32) (i2 : Int32) (i3 : Int32) (i4 : Int32) (i5 : Int32) (w : cm_W) : sm cm_g 169 ck_169 kq_169 74 [(0, .ref a0), (1, .int i1), (2, .int i2), (3, .int i3), (4, .int i4), (5, .int i5)] [] w ((fn_169_74 k_42 a0 i1 i2 i3 i4 i5 w).map cm_gI) := by
  unfold fn_169_74
  refine sm_seg 1 75 [(0, .ref a0), (1, .int i1), (2, .int i2), (3, .int i3), (4, .int i4), (5, .int i5)] [.ref a0] rfl ?_
  refine sm_gd fun h1 => ?_
  refine sm_gR rfl h1 rfl rfl fun r2 h3 => ?_
  show sm _ _ _ _ 78 [(0, .ref a0), (1, .int i1), (2, .int i2), (3, .int i3), (4, .int i4), (5, .int i5)] [.ref r2] _ _
  refine sm_seg 1 79 [(0, .ref a0), (1, .int i1), (2, .int i2), (3, .int i3), (4, .int i4), (5, .int i5)] [.ref a0, .ref r2] rfl ?_
  refine sm_gR rfl h1 rfl rfl fun r4 h5 => ?_
  show sm _ _ _ _ 82 [(0, .ref a0), (1, .int i1), (2, .int i2), (3, .int i3), (4, .int i4), (5, .int i5)] [.ref r4, .ref r2] _ _
  refine sm_seg 1 83 [(0, .ref a0), (1, .int i1), (2, .int i2), (3, .int i3), (4, .int i4), (5, .int i5)] [.ref a0, .ref r4, .ref r2] rfl ?_
  refine sm_gR rfl h1 rfl rfl fun r6 h7 => ?_
  show sm _ _ _ _ 86 [(0, .ref a0), (1, .int i1), (2, .int i2), (3, .int i3), (4, .int i4), (5, .int i5)] [.ref r6, .ref r4, .ref r2] _ _
  refine sm_seg 2 89 [(0, .ref a0), (1, .int i1), (2, .int i2), (3, .int i3), (4, .int i4), (5, .int i5)] [.int i1, .int i5, .ref r6, .ref r4, .ref r2] rfl ?_
  refine sm_gd fun h8 => ?_
  refine sm_cV (as := [.ref r4, .ref r6, .int i5, .int i1]) (rest := []) rfl rfl rfl rfl h8 (Nat.le_of_ble_eq_true rfl) (ca_26  r2 r4 r6 i5 i1 w) fun v9 h10 => ?_
  show sm _ _ _ _ 92 [(0, .ref a0), (1, .int i1), (2, .int i2), (3, .int i3), (4, .int i4), (5, .int i5)] [.int v9.1] _ _
  refine sm_seg 3 97 [(6, .int v9.1), (0, .ref a0), (1, .int i1), (2, .int i2), (3, .int i3), (4, .int i4), (5, .int i5)] [.int i3, .int v9.1] rfl ?_
  refine sm_if (pc1 := 107) (lv1 := [(0, .ref a0), (1, .int i1), (2, .int i2), (3, .int i3), (4, .int i4), (5, .int i5)]) (pc2 := 100) (lv2 := [(6, .int v9.1), (0, .ref a0), (1, .int i1), (2, .int i2), (3, .int i3), (4, .int i4), (5, .int i5)]) (st1 := []) rfl rfl rfl (fun h11 => ?_) (fun h11 => ?_)
  · exact jt_169_107  k_42 hk_42 a0 i1 i2 i3 i4 i5 v9.2
  · refine sm_seg 4 107 [(0, .ref a0), (1, .int i1), (2, .int i2), (3, .int v9.1), (4, .int i5), (5, .int i5)] [] rfl ?_
    exact jt_169_107  k_42 hk_42 a0 i1 i2 v9.1 i5 i5 v9.2
def fn_169_130 (i2 : Int32) (i3 : Int32) (w : cm_W) : Option (Int32 × cm_W) := (if ¬ i2 = (1 : Int32) then some ((-1 : Int32), w) else some (i3, w))
theorem jt_169_130 (i2 : Int32) (i3 : Int32) (w : cm_W) : sm cm_g 169 ck_169 kq_169 130 [(2, .int i2), (3, .int i3)] [] w ((fn_169_130 i2 i3 w).map cm_gI) := by
  unfold fn_169_130
  refine sm_seg 2 132 [(2, .int i2), (3, .int i3)] [.int (1 : Int32), .int i2] rfl ?_
  refine sm_if (pc1 := 139) (lv1 := []) (pc2 := 135) (lv2 := [(2, .int i2), (3, .int i3)]) (st1 := []) rfl rfl rfl (fun h12 => ?_) (fun h12 => ?_)
  · refine sm_seg 1 140 [] [.int (-1 : Int32)] rfl ?_
    exact sm_rIW rfl rfl
  · refine sm_seg 2 140 [] [.int i3] rfl ?_
    exact sm_rIW rfl rfl
def fn_169_121 (i2 : Int32) (i3 : Int32) (i4 : Int32) (w : cm_W) : Option (Int32 × cm_W) := (if ¬ i2 = 0 then fn_169_130  i2 i3 w else some (i4, w))
theorem jt_169_121 (i2 : Int32) (i3 : Int32) (i4 : Int32) (w : cm_W) : sm cm_g 169 ck_169 kq_169 121 [(2, .int i2), (3, .int i3), (4, .int i4)] [] w ((fn_169_121 i2 i3 i4 w).map cm_gI) := by
  unfold fn_169_121
  refine sm_seg 1 122 [(2, .int i2), (3, .int i3), (4, .int i4)] [.int i2] rfl ?_
  refine sm_if (pc1 := 130) (lv1 := [(2, .int i2), (3, .int i3)]) (pc2 := 125) (lv2 := [(2, .int i2), (3, .int i3), (4, .int i4)]) (st1 := []) rfl rfl rfl (fun h13 => ?_) (fun h13 => ?_)
  · exact jt_169_130  i2 i3 w
  · refine sm_seg 2 140 [] [.int i4] rfl ?_
    exact sm_rIW rfl rfl
def fn_169_113 (i2 : Int32) (i3 : Int32) (i4 : Int32) (w : cm_W) : Option (Int32 × cm_W) := (if ¬ i4 = (-1 : Int32) then fn_169_121  i2 i3 i4 w else some ((-1 : Int32), w))
theorem jt_169_113 (i2 : Int32) (i3 : Int32) (i4 : Int32) (w : cm_W) : sm cm_g 169 ck_169 kq_169 113 [(2, .int i2), (3, .int i3), (4, .int i4)] [] w ((fn_169_113 i2 i3 i4 w).map cm_gI) := by
  unfold fn_169_113
  refine sm_seg 2 116 [(2, .int i2), (3, .int i3), (4, .int i4)] [.int (-1 : Int32), .int i4] rfl ?_
  refine sm_if (pc1 := 121) (lv1 := [(2, .int i2), (3, .int i3), (4, .int i4)]) (pc2 := 119) (lv2 := [(2, .int i2), (3, .int i3), (4, .int i4)]) (st1 := []) rfl rfl rfl (fun h14 => ?_) (fun h14 => ?_)
  · exact jt_169_121  i2 i3 i4 w
  · refine sm_seg 1 120 [(2, .int i2), (3, .int i3), (4, .int i4)] [.int (-1 : Int32)] rfl ?_
    exact sm_rIW rfl rfl
def fn_169_42 : Nat → Nat → Int32 → Int32 → Int32 → Int32 → Int32 → cm_W → Option (Int32 × cm_W)
  | 0, _, _, _, _, _, _, _ => none
  | n + 1, a0, i1, i2, i3, i4, i5, w => (if cm_sh w a0 = some (.inl 10) then (cm_R w a0 3).bind fun r16 => (if cm_sh w r16 = some (.inl 9) then (cm_R w r16 3).bind fun r19 => (if cm_sh w r19 = some (.inl 7) then (if (cm_I w r19 2) ≤ i5 then fn_169_113  i2 i3 i4 w else (cm_R w a0 5).bind fun r23 => (if cm_sh w r23 = some (.inl 6) then (fn_17 w r23 i1).bind fun v26 => (if ¬ i5 = v26 then fn_169_74  (fn_169_42 n) a0 i1 i2 i3 i4 i5 w else (if (0 : Int32) ≤ i3 then fn_169_107  (fn_169_42 n) a0 i1 i2 i3 i4 i5 w else fn_169_107  (fn_169_42 n) a0 i1 i2 (0 : Int32) i5 i5 w)) else none)) else none) else none) else none)
theorem jt_169_42 : ∀ (n : Nat) (a0 : Nat) (i1 : Int32) (i2 : Int32) (i3 : Int32) (i4 : Int32) (i5 : Int32) (w : cm_W), sm cm_g 169 ck_169 kq_169 42 [(0, .ref a0), (1, .int i1), (2, .int i2), (3, .int i3), (4, .int i4), (5, .int i5)] [] w ((fn_169_42 n a0 i1 i2 i3 i4 i5 w).map cm_gI) := by
  intro n
  induction n with
  | zero => intro a0 i1 i2 i3 i4 i5 w; exact sm_no
  | succ n ih =>
    intro a0 i1 i2 i3 i4 i5 w
    rw [fn_169_42]
    refine sm_seg 2 45 [(0, .ref a0), (1, .int i1), (2, .int i2), (3, .int i3), (4, .int i4), (5, .int i5)] [.ref a0, .int i5] rfl ?_
    refine sm_gd fun h15 => ?_
    refine sm_gR rfl h15 rfl rfl fun r16 h17 => ?_
    show sm _ _ _ _ 48 [(0, .ref a0), (1, .int i1), (2, .int i2), (3, .int i3), (4, .int i4), (5, .int i5)] [.ref r16, .int i5] _ _
    refine sm_gd fun h18 => ?_
    refine sm_gR rfl h18 rfl rfl fun r19 h20 => ?_
    show sm _ _ _ _ 51 [(0, .ref a0), (1, .int i1), (2, .int i2), (3, .int i3), (4, .int i4), (5, .int i5)] [.ref r19, .int i5] _ _
    refine sm_gd fun h21 => ?_
    refine sm_gI rfl h21 rfl ?_
    show sm _ _ _ _ 54 [(0, .ref a0), (1, .int i1), (2, .int i2), (3, .int i3), (4, .int i4), (5, .int i5)] [.int (cm_I w r19 2), .int i5] _ _
    refine sm_if (pc1 := 113) (lv1 := [(2, .int i2), (3, .int i3), (4, .int i4)]) (pc2 := 57) (lv2 := [(0, .ref a0), (1, .int i1), (2, .int i2), (3, .int i3), (4, .int i4), (5, .int i5)]) (st1 := []) rfl rfl rfl (fun h22 => ?_) (fun h22 => ?_)
    · exact jt_169_113  i2 i3 i4 w
    · refine sm_seg 2 60 [(0, .ref a0), (1, .int i1), (2, .int i2), (3, .int i3), (4, .int i4), (5, .int i5)] [.ref a0, .int i5] rfl ?_
      refine sm_gR rfl h15 rfl rfl fun r23 h24 => ?_
      show sm _ _ _ _ 63 [(0, .ref a0), (1, .int i1), (2, .int i2), (3, .int i3), (4, .int i4), (5, .int i5)] [.ref r23, .int i5] _ _
      refine sm_seg 1 64 [(0, .ref a0), (1, .int i1), (2, .int i2), (3, .int i3), (4, .int i4), (5, .int i5)] [.int i1, .ref r23, .int i5] rfl ?_
      refine sm_gd fun h25 => ?_
      refine sm_cV (as := [.int i1]) (rest := [.int i5]) rfl rfl rfl rfl h25 (Nat.le_of_ble_eq_true rfl) (ca_17 w r23 i1) fun v26 h27 => ?_
      show sm _ _ _ _ 67 [(0, .ref a0), (1, .int i1), (2, .int i2), (3, .int i3), (4, .int i4), (5, .int i5)] [.int v26, .int i5] _ _
      refine sm_if (pc1 := 74) (lv1 := [(0, .ref a0), (1, .int i1), (2, .int i2), (3, .int i3), (4, .int i4), (5, .int i5)]) (pc2 := 70) (lv2 := [(0, .ref a0), (1, .int i1), (2, .int i2), (3, .int i3), (4, .int i4), (5, .int i5)]) (st1 := []) rfl rfl rfl (fun h28 => ?_) (fun h28 => ?_)
      · exact jt_169_74  (fn_169_42 n) ih a0 i1 i2 i3 i4 i5 w
      · refine sm_seg 5 97 [(6, .int (0 : Int32)), (0, .ref a0), (1, .int i1), (2, .int i2), (3, .int i3), (4, .int i4), (5, .int i5)] [.int i3, .int (0 : Int32)] rfl ?_
        refine sm_if (pc1 := 107) (lv1 := [(0, .ref a0), (1, .int i1), (2, .int i2), (3, .int i3), (4, .int i4), (5, .int i5)]) (pc2 := 100) (lv2 := [(6, .int (0 : Int32)), (0, .ref a0), (1, .int i1), (2, .int i2), (3, .int i3), (4, .int i4), (5, .int i5)]) (st1 := []) rfl rfl rfl (fun h29 => ?_) (fun h29 => ?_)
        · exact jt_169_107  (fn_169_42 n) ih a0 i1 i2 i3 i4 i5 w
        · refine sm_seg 4 107 [(0, .ref a0), (1, .int i1), (2, .int i2), (3, .int (0 : Int32)), (4, .int i5), (5, .int i5)] [] rfl ?_
          exact jt_169_107  (fn_169_42 n) ih a0 i1 i2 (0 : Int32) i5 i5 w
def fn_169_34 (a0 : Nat) (i1 : Int32) (i2 : Int32) (w : cm_W) : Option (Int32 × cm_W) := fn_169_42  cm_N a0 i1 i2 (0 : Int32) (-1 : Int32) (0 : Int32) w
theorem jt_169_34 (a0 : Nat) (i1 : Int32) (i2 : Int32) (w : cm_W) : sm cm_g 169 ck_169 kq_169 34 [(0, .ref a0), (1, .int i1), (2, .int i2)] [] w ((fn_169_34 a0 i1 i2 w).map cm_gI) := by
  unfold fn_169_34
  refine sm_seg 6 42 [(0, .ref a0), (1, .int i1), (2, .int i2), (3, .int (0 : Int32)), (4, .int (-1 : Int32)), (5, .int (0 : Int32))] [] rfl ?_
  exact jt_169_42  cm_N a0 i1 i2 (0 : Int32) (-1 : Int32) (0 : Int32) w
def fn_169 (a0 : Nat) (i1 : Int32) (i2 : Int32) (w : cm_W) : Option (Int32 × cm_W) := (if cm_sh w a0 = some (.inl 10) then (fn_146 w a0).bind fun v31 => (if (cm_b v31) = 0 then some ((-1 : Int32), w) else (cm_R w a0 5).bind fun r34 => (if cm_sh w r34 = some (.inl 6) then (cm_R w r34 0).bind fun r37 => (if cm_sh w r37 = some (.inl 7) then (fn_7 w r37 i1).bind fun v40 => (if (cm_b v40) = 0 then some ((-1 : Int32), w) else (cm_R w a0 5).bind fun r43 => (if cm_sh w r43 = some (.inl 6) then (fn_20 w r43 i1).bind fun v46 => (if v46 ≤ 0 then fn_169_34  a0 i1 i2 w else some ((-1 : Int32), w)) else none)) else none) else none)) else none)
theorem jt_169_0 (a0 : Nat) (i1 : Int32) (i2 : Int32) (w : cm_W) : sm cm_g 169 ck_169 kq_169 0 [(0, .ref a0), (1, .int i1), (2, .int i2)] [] w ((fn_169 a0 i1 i2 w).map cm_gI) := by
  unfold fn_169
  refine sm_seg 1 1 [(0, .ref a0), (1, .int i1), (2, .int i2)] [.ref a0] rfl ?_
  refine sm_gd fun h30 => ?_
  refine sm_cV (as := []) (rest := []) rfl rfl rfl rfl h30 (Nat.le_of_ble_eq_true rfl) (ca_146 w a0) fun v31 h32 => ?_
  show sm _ _ _ _ 4 [(0, .ref a0), (1, .int i1), (2, .int i2)] [.int (cm_b v31)] _ _
  refine sm_if (pc1 := 32) (lv1 := []) (pc2 := 7) (lv2 := [(0, .ref a0), (1, .int i1), (2, .int i2)]) (st1 := []) rfl rfl rfl (fun h33 => ?_) (fun h33 => ?_)
  · refine sm_seg 1 33 [] [.int (-1 : Int32)] rfl ?_
    exact sm_rIW rfl rfl
  · refine sm_seg 1 8 [(0, .ref a0), (1, .int i1), (2, .int i2)] [.ref a0] rfl ?_
    refine sm_gR rfl h30 rfl rfl fun r34 h35 => ?_
    show sm _ _ _ _ 11 [(0, .ref a0), (1, .int i1), (2, .int i2)] [.ref r34] _ _
    refine sm_gd fun h36 => ?_
    refine sm_gR rfl h36 rfl rfl fun r37 h38 => ?_
    show sm _ _ _ _ 14 [(0, .ref a0), (1, .int i1), (2, .int i2)] [.ref r37] _ _
    refine sm_seg 1 15 [(0, .ref a0), (1, .int i1), (2, .int i2)] [.int i1, .ref r37] rfl ?_
    refine sm_gd fun h39 => ?_
    refine sm_cV (as := [.int i1]) (rest := []) rfl rfl rfl rfl h39 (Nat.le_of_ble_eq_true rfl) (ca_7 w r37 i1) fun v40 h41 => ?_
    show sm _ _ _ _ 18 [(0, .ref a0), (1, .int i1), (2, .int i2)] [.int (cm_b v40)] _ _
    refine sm_if (pc1 := 32) (lv1 := []) (pc2 := 21) (lv2 := [(0, .ref a0), (1, .int i1), (2, .int i2)]) (st1 := []) rfl rfl rfl (fun h42 => ?_) (fun h42 => ?_)
    · refine sm_seg 1 33 [] [.int (-1 : Int32)] rfl ?_
      exact sm_rIW rfl rfl
    · refine sm_seg 1 22 [(0, .ref a0), (1, .int i1), (2, .int i2)] [.ref a0] rfl ?_
      refine sm_gR rfl h30 rfl rfl fun r43 h44 => ?_
      show sm _ _ _ _ 25 [(0, .ref a0), (1, .int i1), (2, .int i2)] [.ref r43] _ _
      refine sm_seg 1 26 [(0, .ref a0), (1, .int i1), (2, .int i2)] [.int i1, .ref r43] rfl ?_
      refine sm_gd fun h45 => ?_
      refine sm_cV (as := [.int i1]) (rest := []) rfl rfl rfl rfl h45 (Nat.le_of_ble_eq_true rfl) (ca_20 w r43 i1) fun v46 h47 => ?_
      show sm _ _ _ _ 29 [(0, .ref a0), (1, .int i1), (2, .int i2)] [.int v46] _ _
      refine sm_if (pc1 := 34) (lv1 := [(0, .ref a0), (1, .int i1), (2, .int i2)]) (pc2 := 32) (lv2 := []) (st1 := []) rfl rfl rfl (fun h48 => ?_) (fun h48 => ?_)
      · exact jt_169_34  a0 i1 i2 w
      · refine sm_seg 1 33 [] [.int (-1 : Int32)] rfl ?_
        exact sm_rIW rfl rfl
theorem ca_169 (a0 : Nat) (i1 : Int32) (i2 : Int32) (w : cm_W) : cm_ca cm_g 169 [.ref a0, .int i1, .int i2] w ((fn_169 a0 i1 i2 w).map cm_gI) := cm_ca_of (cm_me_of rfl rfl) rfl (jt_169_0 a0 i1 i2 w)
-- NailedBoxes.row(IIII)I
def fn_170_97 (a0 : Nat) (i1 : Int32) (i2 : Int32) (i3 : Int32) (i4 : Int32) (w : cm_W) : Option (Int32 × cm_W) := (if cm_sh w a0 = some (.inl 10) then (cm_R w a0 5).bind fun r2 => (if cm_sh w r2 = some (.inl 6) then (fn_107 r2 i1 i2 i3 i4 w).bind fun v5 => some (v5.1, v5.2) else none) else none)
theorem jt_170_97 (a0 : Nat) (i1 : Int32) (i2 : Int32) (i3 : Int32) (i4 : Int32) (w : cm_W) : sm cm_g 170 ck_170 kq_170 97 [(0, .ref a0), (1, .int i1), (2, .int i2), (3, .int i3), (4, .int i4)] [] w ((fn_170_97 a0 i1 i2 i3 i4 w).map cm_gI) := by
  unfold fn_170_97
  refine sm_seg 1 98 [(0, .ref a0), (1, .int i1), (2, .int i2), (3, .int i3), (4, .int i4)] [.ref a0] rfl ?_
  refine sm_gd fun h1 => ?_
  refine sm_gR rfl h1 rfl rfl fun r2 h3 => ?_
  show sm _ _ _ _ 101 [(0, .ref a0), (1, .int i1), (2, .int i2), (3, .int i3), (4, .int i4)] [.ref r2] _ _
  refine sm_seg 4 106 [(0, .ref a0), (1, .int i1), (2, .int i2), (3, .int i3), (4, .int i4)] [.int i4, .int i3, .int i2, .int i1, .ref r2] rfl ?_
  refine sm_gd fun h4 => ?_
  refine sm_cV (as := [.int i1, .int i2, .int i3, .int i4]) (rest := []) rfl rfl rfl rfl h4 (Nat.le_of_ble_eq_true rfl) (ca_107  r2 i1 i2 i3 i4 w) fun v5 h6 => ?_
  show sm _ _ _ _ 109 [(0, .ref a0), (1, .int i1), (2, .int i2), (3, .int i3), (4, .int i4)] [.int v5.1] _ _
  exact sm_rIW rfl rfl
def fn_170_78 (a0 : Nat) (i1 : Int32) (i2 : Int32) (i3 : Int32) (i4 : Int32) (w : cm_W) : Option (Int32 × cm_W) := (if cm_sh w a0 = some (.inl 10) then (cm_R w a0 5).bind fun r8 => (if cm_sh w r8 = some (.inl 6) then (cm_R w r8 3).bind fun r11 => (if cm_sh w r11 = some (.inl 7) then (fn_64 w r11).bind fun v14 => (if (cm_b v14) = 0 then fn_170_97  a0 i1 i2 i3 i4 w else (fn_140 a0 (1 : Int32) w).bind fun v17 => some (v17.1, v17.2)) else none) else none) else none)
theorem jt_170_78 (a0 : Nat) (i1 : Int32) (i2 : Int32) (i3 : Int32) (i4 : Int32) (w : cm_W) : sm cm_g 170 ck_170 kq_170 78 [(0, .ref a0), (1, .int i1), (2, .int i2), (3, .int i3), (4, .int i4)] [] w ((fn_170_78 a0 i1 i2 i3 i4 w).map cm_gI) := by
  unfold fn_170_78
  refine sm_seg 1 79 [(0, .ref a0), (1, .int i1), (2, .int i2), (3, .int i3), (4, .int i4)] [.ref a0] rfl ?_
  refine sm_gd fun h7 => ?_
  refine sm_gR rfl h7 rfl rfl fun r8 h9 => ?_
  show sm _ _ _ _ 82 [(0, .ref a0), (1, .int i1), (2, .int i2), (3, .int i3), (4, .int i4)] [.ref r8] _ _
  refine sm_gd fun h10 => ?_
  refine sm_gR rfl h10 rfl rfl fun r11 h12 => ?_
  show sm _ _ _ _ 85 [(0, .ref a0), (1, .int i1), (2, .int i2), (3, .int i3), (4, .int i4)] [.ref r11] _ _
  refine sm_gd fun h13 => ?_
  refine sm_cV (as := []) (rest := []) rfl rfl rfl rfl h13 (Nat.le_of_ble_eq_true rfl) (ca_64 w r11) fun v14 h15 => ?_
  show sm _ _ _ _ 88 [(0, .ref a0), (1, .int i1), (2, .int i2), (3, .int i3), (4, .int i4)] [.int (cm_b v14)] _ _
  refine sm_if (pc1 := 97) (lv1 := [(0, .ref a0), (1, .int i1), (2, .int i2), (3, .int i3), (4, .int i4)]) (pc2 := 91) (lv2 := [(0, .ref a0), (1, .int i1), (2, .int i2), (3, .int i3), (4, .int i4)]) (st1 := []) rfl rfl rfl (fun h16 => ?_) (fun h16 => ?_)
  · exact jt_170_97  a0 i1 i2 i3 i4 w
  · refine sm_seg 2 93 [(0, .ref a0), (1, .int i1), (2, .int i2), (3, .int i3), (4, .int i4)] [.int (1 : Int32), .ref a0] rfl ?_
    refine sm_cV (as := [.int (1 : Int32)]) (rest := []) rfl rfl rfl rfl h7 (Nat.le_of_ble_eq_true rfl) (ca_140  a0 (1 : Int32) w) fun v17 h18 => ?_
    show sm _ _ _ _ 96 [(0, .ref a0), (1, .int i1), (2, .int i2), (3, .int i3), (4, .int i4)] [.int v17.1] _ _
    exact sm_rIW rfl rfl
def fn_170_64 (a0 : Nat) (i1 : Int32) (i2 : Int32) (i3 : Int32) (i4 : Int32) (w : cm_W) : Option (Int32 × cm_W) := (if cm_sh w a0 = some (.inl 10) then (fn_140 a0 (0 : Int32) w).bind fun v20 => some (v20.1, v20.2) else none)
theorem jt_170_64 (a0 : Nat) (i1 : Int32) (i2 : Int32) (i3 : Int32) (i4 : Int32) (w : cm_W) : sm cm_g 170 ck_170 kq_170 64 [(0, .ref a0), (1, .int i1), (2, .int i2), (3, .int i3), (4, .int i4)] [] w ((fn_170_64 a0 i1 i2 i3 i4 w).map cm_gI) := by
  unfold fn_170_64
  refine sm_seg 3 69 [(5, .int (0 : Int32)), (0, .ref a0), (1, .int i1), (2, .int i2), (3, .int i3), (4, .int i4)] [.int (0 : Int32)] rfl ?_
  refine sm_iff (c := ¬ (0 : Int32) = 0) (pc1 := 78) (pc2 := 72) (lv1 := [(5, .int (0 : Int32)), (0, .ref a0), (1, .int i1), (2, .int i2), (3, .int i3), (4, .int i4)]) (st1 := []) rfl (by decide) rfl ?_
  refine sm_seg 2 74 [(5, .int (0 : Int32)), (0, .ref a0), (1, .int i1), (2, .int i2), (3, .int i3), (4, .int i4)] [.int (0 : Int32), .ref a0] rfl ?_
  refine sm_gd fun h19 => ?_
  refine sm_cV (as := [.int (0 : Int32)]) (rest := []) rfl rfl rfl rfl h19 (Nat.le_of_ble_eq_true rfl) (ca_140  a0 (0 : Int32) w) fun v20 h21 => ?_
  show sm _ _ _ _ 77 [(5, .int (0 : Int32)), (0, .ref a0), (1, .int i1), (2, .int i2), (3, .int i3), (4, .int i4)] [.int v20.1] _ _
  exact sm_rIW rfl rfl
def fn_170 (a0 : Nat) (i1 : Int32) (i2 : Int32) (i3 : Int32) (i4 : Int32) (w : cm_W) : Option (Int32 × cm_W) := (if cm_sh w a0 = some (.inl 10) then (cm_R w a0 5).bind fun r23 => (if cm_sh w r23 = some (.inl 6) then (cm_R w r23 0).bind fun r26 => (if cm_sh w r26 = some (.inl 7) then (fn_7 w r26 i1).bind fun v29 => (if (cm_b v29) = 0 then fn_170_64  a0 i1 i2 i3 i4 w else (cm_R w a0 3).bind fun r32 => (if cm_sh w r32 = some (.inl 9) then (cm_R w r32 3).bind fun r35 => (if cm_sh w r35 = some (.inl 7) then (fn_7 w r35 i2).bind fun v38 => (if (cm_b v38) = 0 then fn_170_64  a0 i1 i2 i3 i4 w else (cm_R w a0 3).bind fun r41 => (if cm_sh w r41 = some (.inl 9) then (cm_R w r41 3).bind fun r44 => (if cm_sh w r44 = some (.inl 7) then (fn_7 w r44 i3).bind fun v47 => (if (cm_b v47) = 0 then fn_170_64  a0 i1 i2 i3 i4 w else (if i2 = i3 then fn_170_64  a0 i1 i2 i3 i4 w else (if i4 < 0 then fn_170_64  a0 i1 i2 i3 i4 w else (if (9999 : Int32) < i4 then fn_170_64  a0 i1 i2 i3 i4 w else fn_170_78  a0 i1 i2 i3 i4 w)))) else none) else none)) else none) else none)) else none) else none) else none)
theorem jt_170_0 (a0 : Nat) (i1 : Int32) (i2 : Int32) (i3 : Int32) (i4 : Int32) (w : cm_W) : sm cm_g 170 ck_170 kq_170 0 [(0, .ref a0), (1, .int i1), (2, .int i2), (3, .int i3), (4, .int i4)] [] w ((fn_170 a0 i1 i2 i3 i4 w).map cm_gI) := by
  unfold fn_170
  refine sm_seg 1 1 [(0, .ref a0), (1, .int i1), (2, .int i2), (3, .int i3), (4, .int i4)] [.ref a0] rfl ?_
  refine sm_gd fun h22 => ?_
  refine sm_gR rfl h22 rfl rfl fun r23 h24 => ?_
  show sm _ _ _ _ 4 [(0, .ref a0), (1, .int i1), (2, .int i2), (3, .int i3), (4, .int i4)] [.ref r23] _ _
  refine sm_gd fun h25 => ?_
  refine sm_gR rfl h25 rfl rfl fun r26 h27 => ?_
  show sm _ _ _ _ 7 [(0, .ref a0), (1, .int i1), (2, .int i2), (3, .int i3), (4, .int i4)] [.ref r26] _ _
  refine sm_seg 1 8 [(0, .ref a0), (1, .int i1), (2, .int i2), (3, .int i3), (4, .int i4)] [.int i1, .ref r26] rfl ?_
  refine sm_gd fun h28 => ?_
  refine sm_cV (as := [.int i1]) (rest := []) rfl rfl rfl rfl h28 (Nat.le_of_ble_eq_true rfl) (ca_7 w r26 i1) fun v29 h30 => ?_
  show sm _ _ _ _ 11 [(0, .ref a0), (1, .int i1), (2, .int i2), (3, .int i3), (4, .int i4)] [.int (cm_b v29)] _ _
  refine sm_if (pc1 := 64) (lv1 := [(0, .ref a0), (1, .int i1), (2, .int i2), (3, .int i3), (4, .int i4)]) (pc2 := 14) (lv2 := [(0, .ref a0), (1, .int i1), (2, .int i2), (3, .int i3), (4, .int i4)]) (st1 := []) rfl rfl rfl (fun h31 => ?_) (fun h31 => ?_)
  · exact jt_170_64  a0 i1 i2 i3 i4 w
  · refine sm_seg 1 15 [(0, .ref a0), (1, .int i1), (2, .int i2), (3, .int i3), (4, .int i4)] [.ref a0] rfl ?_
    refine sm_gR rfl h22 rfl rfl fun r32 h33 => ?_
    show sm _ _ _ _ 18 [(0, .ref a0), (1, .int i1), (2, .int i2), (3, .int i3), (4, .int i4)] [.ref r32] _ _
    refine sm_gd fun h34 => ?_
    refine sm_gR rfl h34 rfl rfl fun r35 h36 => ?_
    show sm _ _ _ _ 21 [(0, .ref a0), (1, .int i1), (2, .int i2), (3, .int i3), (4, .int i4)] [.ref r35] _ _
    refine sm_seg 1 22 [(0, .ref a0), (1, .int i1), (2, .int i2), (3, .int i3), (4, .int i4)] [.int i2, .ref r35] rfl ?_
    refine sm_gd fun h37 => ?_
    refine sm_cV (as := [.int i2]) (rest := []) rfl rfl rfl rfl h37 (Nat.le_of_ble_eq_true rfl) (ca_7 w r35 i2) fun v38 h39 => ?_
    show sm _ _ _ _ 25 [(0, .ref a0), (1, .int i1), (2, .int i2), (3, .int i3), (4, .int i4)] [.int (cm_b v38)] _ _
    refine sm_if (pc1 := 64) (lv1 := [(0, .ref a0), (1, .int i1), (2, .int i2), (3, .int i3), (4, .int i4)]) (pc2 := 28) (lv2 := [(0, .ref a0), (1, .int i1), (2, .int i2), (3, .int i3), (4, .int i4)]) (st1 := []) rfl rfl rfl (fun h40 => ?_) (fun h40 => ?_)
    · exact jt_170_64  a0 i1 i2 i3 i4 w
    · refine sm_seg 1 29 [(0, .ref a0), (1, .int i1), (2, .int i2), (3, .int i3), (4, .int i4)] [.ref a0] rfl ?_
      refine sm_gR rfl h22 rfl rfl fun r41 h42 => ?_
      show sm _ _ _ _ 32 [(0, .ref a0), (1, .int i1), (2, .int i2), (3, .int i3), (4, .int i4)] [.ref r41] _ _
      refine sm_gd fun h43 => ?_
      refine sm_gR rfl h43 rfl rfl fun r44 h45 => ?_
      show sm _ _ _ _ 35 [(0, .ref a0), (1, .int i1), (2, .int i2), (3, .int i3), (4, .int i4)] [.ref r44] _ _
      refine sm_seg 1 36 [(0, .ref a0), (1, .int i1), (2, .int i2), (3, .int i3), (4, .int i4)] [.int i3, .ref r44] rfl ?_
      refine sm_gd fun h46 => ?_
      refine sm_cV (as := [.int i3]) (rest := []) rfl rfl rfl rfl h46 (Nat.le_of_ble_eq_true rfl) (ca_7 w r44 i3) fun v47 h48 => ?_
      show sm _ _ _ _ 39 [(0, .ref a0), (1, .int i1), (2, .int i2), (3, .int i3), (4, .int i4)] [.int (cm_b v47)] _ _
      refine sm_if (pc1 := 64) (lv1 := [(0, .ref a0), (1, .int i1), (2, .int i2), (3, .int i3), (4, .int i4)]) (pc2 := 42) (lv2 := [(0, .ref a0), (1, .int i1), (2, .int i2), (3, .int i3), (4, .int i4)]) (st1 := []) rfl rfl rfl (fun h49 => ?_) (fun h49 => ?_)
      · exact jt_170_64  a0 i1 i2 i3 i4 w
      · refine sm_seg 2 44 [(0, .ref a0), (1, .int i1), (2, .int i2), (3, .int i3), (4, .int i4)] [.int i3, .int i2] rfl ?_
        refine sm_if (pc1 := 64) (lv1 := [(0, .ref a0), (1, .int i1), (2, .int i2), (3, .int i3), (4, .int i4)]) (pc2 := 47) (lv2 := [(0, .ref a0), (1, .int i1), (2, .int i2), (3, .int i3), (4, .int i4)]) (st1 := []) rfl rfl rfl (fun h50 => ?_) (fun h50 => ?_)
        · exact jt_170_64  a0 i1 i2 i3 i4 w
        · refine sm_seg 1 49 [(0, .ref a0), (1, .int i1), (2, .int i2), (3, .int i3), (4, .int i4)] [.int i4] rfl ?_
          refine sm_if (pc1 := 64) (lv1 := [(0, .ref a0), (1, .int i1), (2, .int i2), (3, .int i3), (4, .int i4)]) (pc2 := 52) (lv2 := [(0, .ref a0), (1, .int i1), (2, .int i2), (3, .int i3), (4, .int i4)]) (st1 := []) rfl rfl rfl (fun h51 => ?_) (fun h51 => ?_)
          · exact jt_170_64  a0 i1 i2 i3 i4 w
          · refine sm_seg 2 57 [(0, .ref a0), (1, .int i1), (2, .int i2), (3, .int i3), (4, .int i4)] [.int (9999 : Int32), .int i4] rfl ?_
            refine sm_if (pc1 := 64) (lv1 := [(0, .ref a0), (1, .int i1), (2, .int i2), (3, .int i3), (4, .int i4)]) (pc2 := 60) (lv2 := [(0, .ref a0), (1, .int i1), (2, .int i2), (3, .int i3), (4, .int i4)]) (st1 := []) rfl rfl rfl (fun h52 => ?_) (fun h52 => ?_)
            · exact jt_170_64  a0 i1 i2 i3 i4 w
            · refine sm_seg 4 69 [(5, .int (1 : Int32)), (0, .ref a0), (1, .int i1), (2, .int i2), (3, .int i3), (4, .int i4)] [.int (1 : Int32)] rfl ?_
              refine sm_ift (c := ¬ (1 : Int32) = 0) (pc1 := 78) (pc2 := 72) (lv1 := [(0, .ref a0), (1, .int i1), (2, .int i2), (3, .int i3), (4, .int i4)]) (st1 := []) rfl (by decide) rfl ?_
              exact jt_170_78  a0 i1 i2 i3 i4 w
theorem ca_170 (a0 : Nat) (i1 : Int32) (i2 : Int32) (i3 : Int32) (i4 : Int32) (w : cm_W) : cm_ca cm_g 170 [.ref a0, .int i1, .int i2, .int i3, .int i4] w ((fn_170 a0 i1 i2 i3 i4 w).map cm_gI) := cm_ca_of (cm_me_of rfl rfl) rfl (jt_170_0 a0 i1 i2 i3 i4 w)
-- NailedBoxes.wrong(I)I
def fn_171_29 (a0 : Nat) (i1 : Int32) (w : cm_W) : Option (Int32 × cm_W) := (if ¬ i1 = (1 : Int32) then some ((-1 : Int32), w) else (if cm_sh w a0 = some (.inl 10) then (cm_R w a0 11).bind fun r3 => (if cm_sh w r3 = some (.inl 0) then some ((cm_I w r3 3), w) else none) else none))
theorem jt_171_29 (a0 : Nat) (i1 : Int32) (w : cm_W) : sm cm_g 171 ck_171 kq_171 29 [(0, .ref a0), (1, .int i1)] [] w ((fn_171_29 a0 i1 w).map cm_gI) := by
  unfold fn_171_29
  refine sm_seg 2 31 [(0, .ref a0), (1, .int i1)] [.int (1 : Int32), .int i1] rfl ?_
  refine sm_if (pc1 := 44) (lv1 := []) (pc2 := 34) (lv2 := [(0, .ref a0), (1, .int i1)]) (st1 := []) rfl rfl rfl (fun h1 => ?_) (fun h1 => ?_)
  · refine sm_seg 1 45 [] [.int (-1 : Int32)] rfl ?_
    exact sm_rIW rfl rfl
  · refine sm_seg 1 35 [(0, .ref a0), (1, .int i1)] [.ref a0] rfl ?_
    refine sm_gd fun h2 => ?_
    refine sm_gR rfl h2 rfl rfl fun r3 h4 => ?_
    show sm _ _ _ _ 38 [(0, .ref a0), (1, .int i1)] [.ref r3] _ _
    refine sm_gd fun h5 => ?_
    refine sm_gI rfl h5 rfl ?_
    show sm _ _ _ _ 41 [(0, .ref a0), (1, .int i1)] [.int (cm_I w r3 3)] _ _
    refine sm_seg 1 45 [] [.int (cm_I w r3 3)] rfl ?_
    exact sm_rIW rfl rfl
def fn_171 (a0 : Nat) (i1 : Int32) (w : cm_W) : Option (Int32 × cm_W) := (if cm_sh w a0 = some (.inl 10) then (cm_R w a0 11).bind fun r7 => (cm_R w a0 3).bind fun r9 => (cm_R w a0 5).bind fun r11 => (if cm_sh w r7 = some (.inl 0) then (fn_4 r7 r9 r11 w).bind fun w14 => (if ¬ i1 = 0 then fn_171_29  a0 i1 w14 else (if cm_sh w14 a0 = some (.inl 10) then (cm_R w14 a0 11).bind fun r18 => (if cm_sh w14 r18 = some (.inl 0) then some ((cm_I w14 r18 2), w14) else none) else none)) else none) else none)
theorem jt_171_0 (a0 : Nat) (i1 : Int32) (w : cm_W) : sm cm_g 171 ck_171 kq_171 0 [(0, .ref a0), (1, .int i1)] [] w ((fn_171 a0 i1 w).map cm_gI) := by
  unfold fn_171
  refine sm_seg 1 1 [(0, .ref a0), (1, .int i1)] [.ref a0] rfl ?_
  refine sm_gd fun h6 => ?_
  refine sm_gR rfl h6 rfl rfl fun r7 h8 => ?_
  show sm _ _ _ _ 4 [(0, .ref a0), (1, .int i1)] [.ref r7] _ _
  refine sm_seg 1 5 [(0, .ref a0), (1, .int i1)] [.ref a0, .ref r7] rfl ?_
  refine sm_gR rfl h6 rfl rfl fun r9 h10 => ?_
  show sm _ _ _ _ 8 [(0, .ref a0), (1, .int i1)] [.ref r9, .ref r7] _ _
  refine sm_seg 1 9 [(0, .ref a0), (1, .int i1)] [.ref a0, .ref r9, .ref r7] rfl ?_
  refine sm_gR rfl h6 rfl rfl fun r11 h12 => ?_
  show sm _ _ _ _ 12 [(0, .ref a0), (1, .int i1)] [.ref r11, .ref r9, .ref r7] _ _
  refine sm_gd fun h13 => ?_
  refine sm_cV (as := [.ref r9, .ref r11]) (rest := []) rfl rfl rfl rfl h13 (Nat.le_of_ble_eq_true rfl) (ca_4  r7 r9 r11 w) fun w14 h15 => ?_
  show sm _ _ _ _ 15 [(0, .ref a0), (1, .int i1)] [] _ _
  refine sm_seg 1 16 [(0, .ref a0), (1, .int i1)] [.int i1] rfl ?_
  refine sm_if (pc1 := 29) (lv1 := [(0, .ref a0), (1, .int i1)]) (pc2 := 19) (lv2 := [(0, .ref a0), (1, .int i1)]) (st1 := []) rfl rfl rfl (fun h16 => ?_) (fun h16 => ?_)
  · exact jt_171_29  a0 i1 w14
  · refine sm_seg 1 20 [(0, .ref a0), (1, .int i1)] [.ref a0] rfl ?_
    refine sm_gd fun h17 => ?_
    refine sm_gR rfl h17 rfl rfl fun r18 h19 => ?_
    show sm _ _ _ _ 23 [(0, .ref a0), (1, .int i1)] [.ref r18] _ _
    refine sm_gd fun h20 => ?_
    refine sm_gI rfl h20 rfl ?_
    show sm _ _ _ _ 26 [(0, .ref a0), (1, .int i1)] [.int (cm_I w14 r18 2)] _ _
    refine sm_seg 1 45 [] [.int (cm_I w14 r18 2)] rfl ?_
    exact sm_rIW rfl rfl
theorem ca_171 (a0 : Nat) (i1 : Int32) (w : cm_W) : cm_ca cm_g 171 [.ref a0, .int i1] w ((fn_171 a0 i1 w).map cm_gI) := cm_ca_of (cm_me_of rfl rfl) rfl (jt_171_0 a0 i1 w)
-- NailedBoxes.isLaw(I)Z
def fn_172 (w : cm_W) (i0 : Int32) : Option Bool := (if i0 < 0 then some false else (if (4 : Int32) ≤ i0 then some false else some true))
theorem jt_172_0 (w : cm_W) (i0 : Int32) : sm cm_g 172 ck_172 kq_172 0 [(0, .int i0)] [] w ((fn_172 w i0).map (cm_fB w)) := by
  unfold fn_172
  refine sm_seg 1 1 [(0, .int i0)] [.int i0] rfl ?_
  refine sm_if (pc1 := 13) (lv1 := []) (pc2 := 4) (lv2 := [(0, .int i0)]) (st1 := []) rfl rfl rfl (fun h1 => ?_) (fun h1 => ?_)
  · refine sm_seg 1 14 [] [.int (0 : Int32)] rfl ?_
    exact sm_rB (b := false) rfl rfl
  · refine sm_seg 2 6 [(0, .int i0)] [.int (4 : Int32), .int i0] rfl ?_
    refine sm_if (pc1 := 13) (lv1 := []) (pc2 := 9) (lv2 := [(0, .int i0)]) (st1 := []) rfl rfl rfl (fun h2 => ?_) (fun h2 => ?_)
    · refine sm_seg 1 14 [] [.int (0 : Int32)] rfl ?_
      exact sm_rB (b := false) rfl rfl
    · refine sm_seg 2 14 [] [.int (1 : Int32)] rfl ?_
      exact sm_rB (b := true) rfl rfl
theorem ca_172 (w : cm_W) (i0 : Int32) : cm_ca cm_g 172 [.int i0] w ((fn_172 w i0).map (cm_fB w)) := cm_ca_of (cm_me_of rfl rfl) rfl (jt_172_0 w i0)
-- NailedBoxes.rest(IIIII)I
def fn_173_83 (a0 : Nat) (i5 : Int32) (i6 : Int32) (w : cm_W) : Option (Int32 × cm_W) := (if ¬ i5 = (1 : Int32) then some ((-1 : Int32), w) else (if cm_sh w a0 = some (.inl 10) then (cm_R w a0 12).bind fun r3 => (if cm_sh w r3 = some (.inl 3) then (fn_41 w r3 i6).bind fun v6 => some (v6, w) else none) else none))
theorem jt_173_83 (a0 : Nat) (i5 : Int32) (i6 : Int32) (w : cm_W) : sm cm_g 173 ck_173 kq_173 83 [(0, .ref a0), (5, .int i5), (6, .int i6)] [] w ((fn_173_83 a0 i5 i6 w).map cm_gI) := by
  unfold fn_173_83
  refine sm_seg 2 86 [(0, .ref a0), (5, .int i5), (6, .int i6)] [.int (1 : Int32), .int i5] rfl ?_
  refine sm_if (pc1 := 101) (lv1 := []) (pc2 := 89) (lv2 := [(0, .ref a0), (5, .int i5), (6, .int i6)]) (st1 := []) rfl rfl rfl (fun h1 => ?_) (fun h1 => ?_)
  · refine sm_seg 1 102 [] [.int (-1 : Int32)] rfl ?_
    exact sm_rIW rfl rfl
  · refine sm_seg 1 90 [(0, .ref a0), (5, .int i5), (6, .int i6)] [.ref a0] rfl ?_
    refine sm_gd fun h2 => ?_
    refine sm_gR rfl h2 rfl rfl fun r3 h4 => ?_
    show sm _ _ _ _ 93 [(0, .ref a0), (5, .int i5), (6, .int i6)] [.ref r3] _ _
    refine sm_seg 1 95 [(0, .ref a0), (5, .int i5), (6, .int i6)] [.int i6, .ref r3] rfl ?_
    refine sm_gd fun h5 => ?_
    refine sm_cV (as := [.int i6]) (rest := []) rfl rfl rfl rfl h5 (Nat.le_of_ble_eq_true rfl) (ca_41 w r3 i6) fun v6 h7 => ?_
    show sm _ _ _ _ 98 [(0, .ref a0), (5, .int i5), (6, .int i6)] [.int v6] _ _
    refine sm_seg 1 102 [] [.int v6] rfl ?_
    exact sm_rIW rfl rfl
def fn_173_73 (a0 : Nat) (i5 : Int32) (i6 : Int32) (w : cm_W) : Option (Int32 × cm_W) := (if ¬ i5 = 0 then fn_173_83  a0 i5 i6 w else some (i6, w))
theorem jt_173_73 (a0 : Nat) (i5 : Int32) (i6 : Int32) (w : cm_W) : sm cm_g 173 ck_173 kq_173 73 [(0, .ref a0), (5, .int i5), (6, .int i6)] [] w ((fn_173_73 a0 i5 i6 w).map cm_gI) := by
  unfold fn_173_73
  refine sm_seg 1 75 [(0, .ref a0), (5, .int i5), (6, .int i6)] [.int i5] rfl ?_
  refine sm_if (pc1 := 83) (lv1 := [(0, .ref a0), (5, .int i5), (6, .int i6)]) (pc2 := 78) (lv2 := [(0, .ref a0), (5, .int i5), (6, .int i6)]) (st1 := []) rfl rfl rfl (fun h8 => ?_) (fun h8 => ?_)
  · exact jt_173_83  a0 i5 i6 w
  · refine sm_seg 2 102 [] [.int i6] rfl ?_
    exact sm_rIW rfl rfl
def fn_173_29 (a0 : Nat) (i1 : Int32) (i2 : Int32) (i3 : Int32) (i4 : Int32) (i5 : Int32) (w : cm_W) : Option (Int32 × cm_W) := (if cm_sh w a0 = some (.inl 10) then (cm_R w a0 12).bind fun r10 => (cm_R w a0 3).bind fun r12 => (if cm_sh w r10 = some (.inl 3) then (fn_32 r10 r12 i4 w).bind fun w15 => (if cm_sh w15 a0 = some (.inl 10) then (cm_R w15 a0 12).bind fun r18 => (cm_R w15 a0 3).bind fun r20 => (if cm_sh w15 r18 = some (.inl 3) then (fn_36 r18 r20 i1 i2 i3 w15).bind fun w23 => (if cm_sh w23 a0 = some (.inl 10) then (cm_R w23 a0 12).bind fun r26 => (if cm_sh w23 r26 = some (.inl 3) then (fn_40 w23 r26).bind fun v29 => (if ¬ v29 = (-1 : Int32) then fn_173_73  a0 i5 v29 w23 else some ((-1 : Int32), w23)) else none) else none) else none) else none) else none) else none)
theorem jt_173_29 (a0 : Nat) (i1 : Int32) (i2 : Int32) (i3 : Int32) (i4 : Int32) (i5 : Int32) (w : cm_W) : sm cm_g 173 ck_173 kq_173 29 [(0, .ref a0), (1, .int i1), (2, .int i2), (3, .int i3), (4, .int i4), (5, .int i5)] [] w ((fn_173_29 a0 i1 i2 i3 i4 i5 w).map cm_gI) := by
  unfold fn_173_29
  refine sm_seg 1 30 [(0, .ref a0), (1, .int i1), (2, .int i2), (3, .int i3), (4, .int i4), (5, .int i5)] [.ref a0] rfl ?_
  refine sm_gd fun h9 => ?_
  refine sm_gR rfl h9 rfl rfl fun r10 h11 => ?_
  show sm _ _ _ _ 33 [(0, .ref a0), (1, .int i1), (2, .int i2), (3, .int i3), (4, .int i4), (5, .int i5)] [.ref r10] _ _
  refine sm_seg 1 34 [(0, .ref a0), (1, .int i1), (2, .int i2), (3, .int i3), (4, .int i4), (5, .int i5)] [.ref a0, .ref r10] rfl ?_
  refine sm_gR rfl h9 rfl rfl fun r12 h13 => ?_
  show sm _ _ _ _ 37 [(0, .ref a0), (1, .int i1), (2, .int i2), (3, .int i3), (4, .int i4), (5, .int i5)] [.ref r12, .ref r10] _ _
  refine sm_seg 1 39 [(0, .ref a0), (1, .int i1), (2, .int i2), (3, .int i3), (4, .int i4), (5, .int i5)] [.int i4, .ref r12, .ref r10] rfl ?_
  refine sm_gd fun h14 => ?_
  refine sm_cV (as := [.ref r12, .int i4]) (rest := []) rfl rfl rfl rfl h14 (Nat.le_of_ble_eq_true rfl) (ca_32  r10 r12 i4 w) fun w15 h16 => ?_
  show sm _ _ _ _ 42 [(0, .ref a0), (1, .int i1), (2, .int i2), (3, .int i3), (4, .int i4), (5, .int i5)] [] _ _
  refine sm_seg 1 43 [(0, .ref a0), (1, .int i1), (2, .int i2), (3, .int i3), (4, .int i4), (5, .int i5)] [.ref a0] rfl ?_
  refine sm_gd fun h17 => ?_
  refine sm_gR rfl h17 rfl rfl fun r18 h19 => ?_
  show sm _ _ _ _ 46 [(0, .ref a0), (1, .int i1), (2, .int i2), (3, .int i3), (4, .int i4), (5, .int i5)] [.ref r18] _ _
  refine sm_seg 1 47 [(0, .ref a0), (1, .int i1), (2, .int i2), (3, .int i3), (4, .int i4), (5, .int i5)] [.ref a0, .ref r18] rfl ?_
  refine sm_gR rfl h17 rfl rfl fun r20 h21 => ?_
  show sm _ _ _ _ 50 [(0, .ref a0), (1, .int i1), (2, .int i2), (3, .int i3), (4, .int i4), (5, .int i5)] [.ref r20, .ref r18] _ _
  refine sm_seg 3 53 [(0, .ref a0), (1, .int i1), (2, .int i2), (3, .int i3), (4, .int i4), (5, .int i5)] [.int i3, .int i2, .int i1, .ref r20, .ref r18] rfl ?_
  refine sm_gd fun h22 => ?_
  refine sm_cV (as := [.ref r20, .int i1, .int i2, .int i3]) (rest := []) rfl rfl rfl rfl h22 (Nat.le_of_ble_eq_true rfl) (ca_36  r18 r20 i1 i2 i3 w15) fun w23 h24 => ?_
  show sm _ _ _ _ 56 [(0, .ref a0), (1, .int i1), (2, .int i2), (3, .int i3), (4, .int i4), (5, .int i5)] [] _ _
  refine sm_seg 1 57 [(0, .ref a0), (1, .int i1), (2, .int i2), (3, .int i3), (4, .int i4), (5, .int i5)] [.ref a0] rfl ?_
  refine sm_gd fun h25 => ?_
  refine sm_gR rfl h25 rfl rfl fun r26 h27 => ?_
  show sm _ _ _ _ 60 [(0, .ref a0), (1, .int i1), (2, .int i2), (3, .int i3), (4, .int i4), (5, .int i5)] [.ref r26] _ _
  refine sm_gd fun h28 => ?_
  refine sm_cV (as := []) (rest := []) rfl rfl rfl rfl h28 (Nat.le_of_ble_eq_true rfl) (ca_40 w23 r26) fun v29 h30 => ?_
  show sm _ _ _ _ 63 [(0, .ref a0), (1, .int i1), (2, .int i2), (3, .int i3), (4, .int i4), (5, .int i5)] [.int v29] _ _
  refine sm_seg 3 68 [(6, .int v29), (0, .ref a0), (1, .int i1), (2, .int i2), (3, .int i3), (4, .int i4), (5, .int i5)] [.int (-1 : Int32), .int v29] rfl ?_
  refine sm_if (pc1 := 73) (lv1 := [(0, .ref a0), (5, .int i5), (6, .int v29)]) (pc2 := 71) (lv2 := [(6, .int v29), (0, .ref a0), (1, .int i1), (2, .int i2), (3, .int i3), (4, .int i4), (5, .int i5)]) (st1 := []) rfl rfl rfl (fun h31 => ?_) (fun h31 => ?_)
  · exact jt_173_73  a0 i5 v29 w23
  · refine sm_seg 1 72 [(6, .int v29), (0, .ref a0), (1, .int i1), (2, .int i2), (3, .int i3), (4, .int i4), (5, .int i5)] [.int (-1 : Int32)] rfl ?_
    exact sm_rIW rfl rfl
def fn_173 (a0 : Nat) (i1 : Int32) (i2 : Int32) (i3 : Int32) (i4 : Int32) (i5 : Int32) (w : cm_W) : Option (Int32 × cm_W) := (fn_172 w i1).bind fun v32 => (if (cm_b v32) = 0 then some ((-1 : Int32), w) else (fn_143 w i4).bind fun v35 => (if (cm_b v35) = 0 then some ((-1 : Int32), w) else (if cm_sh w a0 = some (.inl 10) then (cm_R w a0 3).bind fun r39 => (if cm_sh w r39 = some (.inl 9) then (fn_8 w r39 i2 i3).bind fun v42 => (if ¬ v42 = 0 then fn_173_29  a0 i1 i2 i3 i4 i5 w else some ((-1 : Int32), w)) else none) else none)))
theorem jt_173_0 (a0 : Nat) (i1 : Int32) (i2 : Int32) (i3 : Int32) (i4 : Int32) (i5 : Int32) (w : cm_W) : sm cm_g 173 ck_173 kq_173 0 [(0, .ref a0), (1, .int i1), (2, .int i2), (3, .int i3), (4, .int i4), (5, .int i5)] [] w ((fn_173 a0 i1 i2 i3 i4 i5 w).map cm_gI) := by
  unfold fn_173
  refine sm_seg 1 1 [(0, .ref a0), (1, .int i1), (2, .int i2), (3, .int i3), (4, .int i4), (5, .int i5)] [.int i1] rfl ?_
  refine sm_cS (av := [.int i1]) (rest := []) rfl rfl rfl rfl (Nat.le_of_ble_eq_true rfl) (ca_172 w i1) fun v32 h33 => ?_
  show sm _ _ _ _ 4 [(0, .ref a0), (1, .int i1), (2, .int i2), (3, .int i3), (4, .int i4), (5, .int i5)] [.int (cm_b v32)] _ _
  refine sm_if (pc1 := 27) (lv1 := []) (pc2 := 7) (lv2 := [(0, .ref a0), (1, .int i1), (2, .int i2), (3, .int i3), (4, .int i4), (5, .int i5)]) (st1 := []) rfl rfl rfl (fun h34 => ?_) (fun h34 => ?_)
  · refine sm_seg 1 28 [] [.int (-1 : Int32)] rfl ?_
    exact sm_rIW rfl rfl
  · refine sm_seg 1 9 [(0, .ref a0), (1, .int i1), (2, .int i2), (3, .int i3), (4, .int i4), (5, .int i5)] [.int i4] rfl ?_
    refine sm_cS (av := [.int i4]) (rest := []) rfl rfl rfl rfl (Nat.le_of_ble_eq_true rfl) (ca_143 w i4) fun v35 h36 => ?_
    show sm _ _ _ _ 12 [(0, .ref a0), (1, .int i1), (2, .int i2), (3, .int i3), (4, .int i4), (5, .int i5)] [.int (cm_b v35)] _ _
    refine sm_if (pc1 := 27) (lv1 := []) (pc2 := 15) (lv2 := [(0, .ref a0), (1, .int i1), (2, .int i2), (3, .int i3), (4, .int i4), (5, .int i5)]) (st1 := []) rfl rfl rfl (fun h37 => ?_) (fun h37 => ?_)
    · refine sm_seg 1 28 [] [.int (-1 : Int32)] rfl ?_
      exact sm_rIW rfl rfl
    · refine sm_seg 1 16 [(0, .ref a0), (1, .int i1), (2, .int i2), (3, .int i3), (4, .int i4), (5, .int i5)] [.ref a0] rfl ?_
      refine sm_gd fun h38 => ?_
      refine sm_gR rfl h38 rfl rfl fun r39 h40 => ?_
      show sm _ _ _ _ 19 [(0, .ref a0), (1, .int i1), (2, .int i2), (3, .int i3), (4, .int i4), (5, .int i5)] [.ref r39] _ _
      refine sm_seg 2 21 [(0, .ref a0), (1, .int i1), (2, .int i2), (3, .int i3), (4, .int i4), (5, .int i5)] [.int i3, .int i2, .ref r39] rfl ?_
      refine sm_gd fun h41 => ?_
      refine sm_cV (as := [.int i2, .int i3]) (rest := []) rfl rfl rfl rfl h41 (Nat.le_of_ble_eq_true rfl) (ca_8 w r39 i2 i3) fun v42 h43 => ?_
      show sm _ _ _ _ 24 [(0, .ref a0), (1, .int i1), (2, .int i2), (3, .int i3), (4, .int i4), (5, .int i5)] [.int v42] _ _
      refine sm_if (pc1 := 29) (lv1 := [(0, .ref a0), (1, .int i1), (2, .int i2), (3, .int i3), (4, .int i4), (5, .int i5)]) (pc2 := 27) (lv2 := []) (st1 := []) rfl rfl rfl (fun h44 => ?_) (fun h44 => ?_)
      · exact jt_173_29  a0 i1 i2 i3 i4 i5 w
      · refine sm_seg 1 28 [] [.int (-1 : Int32)] rfl ?_
        exact sm_rIW rfl rfl
theorem ca_173 (a0 : Nat) (i1 : Int32) (i2 : Int32) (i3 : Int32) (i4 : Int32) (i5 : Int32) (w : cm_W) : cm_ca cm_g 173 [.ref a0, .int i1, .int i2, .int i3, .int i4, .int i5] w ((fn_173 a0 i1 i2 i3 i4 i5 w).map cm_gI) := cm_ca_of (cm_me_of rfl rfl) rfl (jt_173_0 a0 i1 i2 i3 i4 i5 w)
-- NailedBoxes.lost(II)I
def fn_174 (a0 : Nat) (i1 : Int32) (i2 : Int32) (w : cm_W) : Option (Int32 × cm_W) := (fn_172 w i1).bind fun v1 => (if (cm_b v1) = 0 then some ((-1 : Int32), w) else (fn_143 w i2).bind fun v4 => (if (cm_b v4) = 0 then some ((-1 : Int32), w) else (if cm_sh w a0 = some (.inl 10) then (cm_R w a0 12).bind fun r8 => (cm_R w a0 3).bind fun r10 => (if cm_sh w r8 = some (.inl 3) then (fn_47 r8 r10 i1 i2 w).bind fun v13 => some (v13.1, v13.2) else none) else none)))
theorem jt_174_0 (a0 : Nat) (i1 : Int32) (i2 : Int32) (w : cm_W) : sm cm_g 174 ck_174 kq_174 0 [(0, .ref a0), (1, .int i1), (2, .int i2)] [] w ((fn_174 a0 i1 i2 w).map cm_gI) := by
  unfold fn_174
  refine sm_seg 1 1 [(0, .ref a0), (1, .int i1), (2, .int i2)] [.int i1] rfl ?_
  refine sm_cS (av := [.int i1]) (rest := []) rfl rfl rfl rfl (Nat.le_of_ble_eq_true rfl) (ca_172 w i1) fun v1 h2 => ?_
  show sm _ _ _ _ 4 [(0, .ref a0), (1, .int i1), (2, .int i2)] [.int (cm_b v1)] _ _
  refine sm_if (pc1 := 30) (lv1 := []) (pc2 := 7) (lv2 := [(0, .ref a0), (1, .int i1), (2, .int i2)]) (st1 := []) rfl rfl rfl (fun h3 => ?_) (fun h3 => ?_)
  · refine sm_seg 1 31 [] [.int (-1 : Int32)] rfl ?_
    exact sm_rIW rfl rfl
  · refine sm_seg 1 8 [(0, .ref a0), (1, .int i1), (2, .int i2)] [.int i2] rfl ?_
    refine sm_cS (av := [.int i2]) (rest := []) rfl rfl rfl rfl (Nat.le_of_ble_eq_true rfl) (ca_143 w i2) fun v4 h5 => ?_
    show sm _ _ _ _ 11 [(0, .ref a0), (1, .int i1), (2, .int i2)] [.int (cm_b v4)] _ _
    refine sm_if (pc1 := 30) (lv1 := []) (pc2 := 14) (lv2 := [(0, .ref a0), (1, .int i1), (2, .int i2)]) (st1 := []) rfl rfl rfl (fun h6 => ?_) (fun h6 => ?_)
    · refine sm_seg 1 31 [] [.int (-1 : Int32)] rfl ?_
      exact sm_rIW rfl rfl
    · refine sm_seg 1 15 [(0, .ref a0), (1, .int i1), (2, .int i2)] [.ref a0] rfl ?_
      refine sm_gd fun h7 => ?_
      refine sm_gR rfl h7 rfl rfl fun r8 h9 => ?_
      show sm _ _ _ _ 18 [(0, .ref a0), (1, .int i1), (2, .int i2)] [.ref r8] _ _
      refine sm_seg 1 19 [(0, .ref a0), (1, .int i1), (2, .int i2)] [.ref a0, .ref r8] rfl ?_
      refine sm_gR rfl h7 rfl rfl fun r10 h11 => ?_
      show sm _ _ _ _ 22 [(0, .ref a0), (1, .int i1), (2, .int i2)] [.ref r10, .ref r8] _ _
      refine sm_seg 2 24 [(0, .ref a0), (1, .int i1), (2, .int i2)] [.int i2, .int i1, .ref r10, .ref r8] rfl ?_
      refine sm_gd fun h12 => ?_
      refine sm_cV (as := [.ref r10, .int i1, .int i2]) (rest := []) rfl rfl rfl rfl h12 (Nat.le_of_ble_eq_true rfl) (ca_47  r8 r10 i1 i2 w) fun v13 h14 => ?_
      show sm _ _ _ _ 27 [(0, .ref a0), (1, .int i1), (2, .int i2)] [.int v13.1] _ _
      refine sm_seg 1 31 [] [.int v13.1] rfl ?_
      exact sm_rIW rfl rfl
theorem ca_174 (a0 : Nat) (i1 : Int32) (i2 : Int32) (w : cm_W) : cm_ca cm_g 174 [.ref a0, .int i1, .int i2] w ((fn_174 a0 i1 i2 w).map cm_gI) := cm_ca_of (cm_me_of rfl rfl) rfl (jt_174_0 a0 i1 i2 w)
-- NailedBoxes.law(I)I
def fn_175_59 (k_7 : Nat → Int32 → Int32 → Int32 → Int32 → cm_W → Option (Int32 × cm_W)) (a0 : Nat) (i1 : Int32) (i2 : Int32) (i3 : Int32) (i4 : Int32) (w : cm_W) : Option (Int32 × cm_W) := k_7 a0 i1 i2 i3 (i4 + (1 : Int32)) w
theorem jt_175_59 (k_7 : Nat → Int32 → Int32 → Int32 → Int32 → cm_W → Option (Int32 × cm_W)) (hk_7 : ∀ (a0 : Nat) (i1 : Int32) (i2 : Int32) (i3 : Int32) (i4 : Int32) (w : cm_W), sm cm_g 175 ck_175 kq_175 7 [(0, .ref a0), (1, .int i1), (2, .int i2), (3, .int i3), (4, .int i4)] [] w ((k_7 a0 i1 i2 i3 i4 w).map cm_gI)) (a0 : Nat) (i1 : Int32) (i2 : Int32) (i3 : Int32) (i4 : Int32) (w : cm_W) : sm cm_g 175 ck_175 kq_175 59 [(0, .ref a0), (1, .int i1), (2, .int i2), (3, .int i3), (4, .int i4)] [] w ((fn_175_59 k_7 a0 i1 i2 i3 i4 w).map cm_gI) := by
  unfold fn_175_59
  refine sm_seg 2 7 [(0, .ref a0), (1, .int i1), (2, .int i2), (3, .int i3), (4, .int (i4 + (1 : Int32)))] [] rfl ?_
  exact hk_7 a0 i1 i2 i3 (i4 + (1 : Int32)) w
def fn_175_53 (k_7 : Nat → Int32 → Int32 → Int32 → Int32 → cm_W → Option (Int32 × cm_W)) (a0 : Nat) (i1 : Int32) (i4 : Int32) (i5 : Int32) (w : cm_W) : Option (Int32 × cm_W) := fn_175_59  k_7 a0 i1 i4 i5 i4 w
theorem jt_175_53 (k_7 : Nat → Int32 → Int32 → Int32 → Int32 → cm_W → Option (Int32 × cm_W)) (hk_7 : ∀ (a0 : Nat) (i1 : Int32) (i2 : Int32) (i3 : Int32) (i4 : Int32) (w : cm_W), sm cm_g 175 ck_175 kq_175 7 [(0, .ref a0), (1, .int i1), (2, .int i2), (3, .int i3), (4, .int i4)] [] w ((k_7 a0 i1 i2 i3 i4 w).map cm_gI)) (a0 : Nat) (i1 : Int32) (i4 : Int32) (i5 : Int32) (w : cm_W) : sm cm_g 175 ck_175 kq_175 53 [(0, .ref a0), (1, .int i1), (4, .int i4), (5, .int i5)] [] w ((fn_175_53 k_7 a0 i1 i4 i5 w).map cm_gI) := by
  unfold fn_175_53
  refine sm_seg 4 59 [(0, .ref a0), (1, .int i1), (2, .int i4), (3, .int i5), (4, .int i4)] [] rfl ?_
  exact jt_175_59  k_7 hk_7 a0 i1 i4 i5 i4 w
def fn_175_7 : Nat → Nat → Int32 → Int32 → Int32 → Int32 → cm_W → Option (Int32 × cm_W)
  | 0, _, _, _, _, _, _ => none
  | n + 1, a0, i1, i2, i3, i4, w => (if (4 : Int32) ≤ i4 then some (i2, w) else (fn_143 w i1).bind fun v2 => (if (cm_b v2) = 0 then some (i2, w) else (if cm_sh w a0 = some (.inl 10) then (cm_R w a0 12).bind fun r6 => (cm_R w a0 3).bind fun r8 => (if cm_sh w r6 = some (.inl 3) then (fn_47 r6 r8 i4 i1 w).bind fun v11 => (if v11.1 = (-1 : Int32) then fn_175_59  (fn_175_7 n) a0 i1 i2 i3 i4 v11.2 else (if i2 = (-1 : Int32) then fn_175_53  (fn_175_7 n) a0 i1 i4 v11.1 v11.2 else (if i3 ≤ v11.1 then fn_175_59  (fn_175_7 n) a0 i1 i2 i3 i4 v11.2 else fn_175_53  (fn_175_7 n) a0 i1 i4 v11.1 v11.2))) else none) else none)))
theorem jt_175_7 : ∀ (n : Nat) (a0 : Nat) (i1 : Int32) (i2 : Int32) (i3 : Int32) (i4 : Int32) (w : cm_W), sm cm_g 175 ck_175 kq_175 7 [(0, .ref a0), (1, .int i1), (2, .int i2), (3, .int i3), (4, .int i4)] [] w ((fn_175_7 n a0 i1 i2 i3 i4 w).map cm_gI) := by
  intro n
  induction n with
  | zero => intro a0 i1 i2 i3 i4 w; exact sm_no
  | succ n ih =>
    intro a0 i1 i2 i3 i4 w
    rw [fn_175_7]
    refine sm_seg 2 10 [(0, .ref a0), (1, .int i1), (2, .int i2), (3, .int i3), (4, .int i4)] [.int (4 : Int32), .int i4] rfl ?_
    refine sm_if (pc1 := 65) (lv1 := [(2, .int i2)]) (pc2 := 13) (lv2 := [(0, .ref a0), (1, .int i1), (2, .int i2), (3, .int i3), (4, .int i4)]) (st1 := []) rfl rfl rfl (fun h1 => ?_) (fun h1 => ?_)
    · refine sm_seg 1 66 [(2, .int i2)] [.int i2] rfl ?_
      exact sm_rIW rfl rfl
    · refine sm_seg 1 14 [(0, .ref a0), (1, .int i1), (2, .int i2), (3, .int i3), (4, .int i4)] [.int i1] rfl ?_
      refine sm_cS (av := [.int i1]) (rest := []) rfl rfl rfl rfl (Nat.le_of_ble_eq_true rfl) (ca_143 w i1) fun v2 h3 => ?_
      show sm _ _ _ _ 17 [(0, .ref a0), (1, .int i1), (2, .int i2), (3, .int i3), (4, .int i4)] [.int (cm_b v2)] _ _
      refine sm_if (pc1 := 65) (lv1 := [(2, .int i2)]) (pc2 := 20) (lv2 := [(0, .ref a0), (1, .int i1), (2, .int i2), (3, .int i3), (4, .int i4)]) (st1 := []) rfl rfl rfl (fun h4 => ?_) (fun h4 => ?_)
      · refine sm_seg 1 66 [(2, .int i2)] [.int i2] rfl ?_
        exact sm_rIW rfl rfl
      · refine sm_seg 1 21 [(0, .ref a0), (1, .int i1), (2, .int i2), (3, .int i3), (4, .int i4)] [.ref a0] rfl ?_
        refine sm_gd fun h5 => ?_
        refine sm_gR rfl h5 rfl rfl fun r6 h7 => ?_
        show sm _ _ _ _ 24 [(0, .ref a0), (1, .int i1), (2, .int i2), (3, .int i3), (4, .int i4)] [.ref r6] _ _
        refine sm_seg 1 25 [(0, .ref a0), (1, .int i1), (2, .int i2), (3, .int i3), (4, .int i4)] [.ref a0, .ref r6] rfl ?_
        refine sm_gR rfl h5 rfl rfl fun r8 h9 => ?_
        show sm _ _ _ _ 28 [(0, .ref a0), (1, .int i1), (2, .int i2), (3, .int i3), (4, .int i4)] [.ref r8, .ref r6] _ _
        refine sm_seg 2 31 [(0, .ref a0), (1, .int i1), (2, .int i2), (3, .int i3), (4, .int i4)] [.int i1, .int i4, .ref r8, .ref r6] rfl ?_
        refine sm_gd fun h10 => ?_
        refine sm_cV (as := [.ref r8, .int i4, .int i1]) (rest := []) rfl rfl rfl rfl h10 (Nat.le_of_ble_eq_true rfl) (ca_47  r6 r8 i4 i1 w) fun v11 h12 => ?_
        show sm _ _ _ _ 34 [(0, .ref a0), (1, .int i1), (2, .int i2), (3, .int i3), (4, .int i4)] [.int v11.1] _ _
        refine sm_seg 3 39 [(5, .int v11.1), (0, .ref a0), (1, .int i1), (2, .int i2), (3, .int i3), (4, .int i4)] [.int (-1 : Int32), .int v11.1] rfl ?_
        refine sm_if (pc1 := 59) (lv1 := [(0, .ref a0), (1, .int i1), (2, .int i2), (3, .int i3), (4, .int i4)]) (pc2 := 42) (lv2 := [(5, .int v11.1), (0, .ref a0), (1, .int i1), (2, .int i2), (3, .int i3), (4, .int i4)]) (st1 := []) rfl rfl rfl (fun h13 => ?_) (fun h13 => ?_)
        · exact jt_175_59  (fn_175_7 n) ih a0 i1 i2 i3 i4 v11.2
        · refine sm_seg 2 44 [(5, .int v11.1), (0, .ref a0), (1, .int i1), (2, .int i2), (3, .int i3), (4, .int i4)] [.int (-1 : Int32), .int i2] rfl ?_
          refine sm_if (pc1 := 53) (lv1 := [(0, .ref a0), (1, .int i1), (4, .int i4), (5, .int v11.1)]) (pc2 := 47) (lv2 := [(5, .int v11.1), (0, .ref a0), (1, .int i1), (2, .int i2), (3, .int i3), (4, .int i4)]) (st1 := []) rfl rfl rfl (fun h14 => ?_) (fun h14 => ?_)
          · exact jt_175_53  (fn_175_7 n) ih a0 i1 i4 v11.1 v11.2
          · refine sm_seg 2 50 [(5, .int v11.1), (0, .ref a0), (1, .int i1), (2, .int i2), (3, .int i3), (4, .int i4)] [.int i3, .int v11.1] rfl ?_
            refine sm_if (pc1 := 59) (lv1 := [(0, .ref a0), (1, .int i1), (2, .int i2), (3, .int i3), (4, .int i4)]) (pc2 := 53) (lv2 := [(0, .ref a0), (1, .int i1), (4, .int i4), (5, .int v11.1)]) (st1 := []) rfl rfl rfl (fun h15 => ?_) (fun h15 => ?_)
            · exact jt_175_59  (fn_175_7 n) ih a0 i1 i2 i3 i4 v11.2
            · exact jt_175_53  (fn_175_7 n) ih a0 i1 i4 v11.1 v11.2
def fn_175 (a0 : Nat) (i1 : Int32) (w : cm_W) : Option (Int32 × cm_W) := fn_175_7  cm_N a0 i1 (-1 : Int32) (0 : Int32) (0 : Int32) w
theorem jt_175_0 (a0 : Nat) (i1 : Int32) (w : cm_W) : sm cm_g 175 ck_175 kq_175 0 [(0, .ref a0), (1, .int i1)] [] w ((fn_175 a0 i1 w).map cm_gI) := by
  unfold fn_175
  refine sm_seg 6 7 [(0, .ref a0), (1, .int i1), (2, .int (-1 : Int32)), (3, .int (0 : Int32)), (4, .int (0 : Int32))] [] rfl ?_
  exact jt_175_7  cm_N a0 i1 (-1 : Int32) (0 : Int32) (0 : Int32) w
theorem ca_175 (a0 : Nat) (i1 : Int32) (w : cm_W) : cm_ca cm_g 175 [.ref a0, .int i1] w ((fn_175 a0 i1 w).map cm_gI) := cm_ca_of (cm_me_of rfl rfl) rfl (jt_175_0 a0 i1 w)
-- NailedBoxes.best(II)I
def fn_176_44 (k_8 : Nat → Int32 → Int32 → Int32 → Int32 → Int32 → cm_W → Option (Int32 × cm_W)) (a0 : Nat) (i1 : Int32) (i2 : Int32) (i3 : Int32) (i4 : Int32) (i5 : Int32) (w : cm_W) : Option (Int32 × cm_W) := k_8 a0 i1 i2 i3 i4 (i5 + (1 : Int32)) w
theorem jt_176_44 (k_8 : Nat → Int32 → Int32 → Int32 → Int32 → Int32 → cm_W → Option (Int32 × cm_W)) (hk_8 : ∀ (a0 : Nat) (i1 : Int32) (i2 : Int32) (i3 : Int32) (i4 : Int32) (i5 : Int32) (w : cm_W), sm cm_g 176 ck_176 kq_176 8 [(0, .ref a0), (1, .int i1), (2, .int i2), (3, .int i3), (4, .int i4), (5, .int i5)] [] w ((k_8 a0 i1 i2 i3 i4 i5 w).map cm_gI)) (a0 : Nat) (i1 : Int32) (i2 : Int32) (i3 : Int32) (i4 : Int32) (i5 : Int32) (w : cm_W) : sm cm_g 176 ck_176 kq_176 44 [(0, .ref a0), (1, .int i1), (2, .int i2), (3, .int i3), (4, .int i4), (5, .int i5)] [] w ((fn_176_44 k_8 a0 i1 i2 i3 i4 i5 w).map cm_gI) := by
  unfold fn_176_44
  refine sm_seg 2 8 [(0, .ref a0), (1, .int i1), (2, .int i2), (3, .int i3), (4, .int i4), (5, .int (i5 + (1 : Int32)))] [] rfl ?_
  exact hk_8 a0 i1 i2 i3 i4 (i5 + (1 : Int32)) w
def fn_176_58 (i2 : Int32) (i4 : Int32) (w : cm_W) : Option (Int32 × cm_W) := (if ¬ i2 = (1 : Int32) then some ((-1 : Int32), w) else some (i4, w))
theorem jt_176_58 (i2 : Int32) (i4 : Int32) (w : cm_W) : sm cm_g 176 ck_176 kq_176 58 [(2, .int i2), (4, .int i4)] [] w ((fn_176_58 i2 i4 w).map cm_gI) := by
  unfold fn_176_58
  refine sm_seg 2 60 [(2, .int i2), (4, .int i4)] [.int (1 : Int32), .int i2] rfl ?_
  refine sm_if (pc1 := 68) (lv1 := []) (pc2 := 63) (lv2 := [(2, .int i2), (4, .int i4)]) (st1 := []) rfl rfl rfl (fun h1 => ?_) (fun h1 => ?_)
  · refine sm_seg 1 69 [] [.int (-1 : Int32)] rfl ?_
    exact sm_rIW rfl rfl
  · refine sm_seg 2 69 [] [.int i4] rfl ?_
    exact sm_rIW rfl rfl
def fn_176_50 (i2 : Int32) (i3 : Int32) (i4 : Int32) (w : cm_W) : Option (Int32 × cm_W) := (if ¬ i2 = 0 then fn_176_58  i2 i4 w else some (i3, w))
theorem jt_176_50 (i2 : Int32) (i3 : Int32) (i4 : Int32) (w : cm_W) : sm cm_g 176 ck_176 kq_176 50 [(2, .int i2), (3, .int i3), (4, .int i4)] [] w ((fn_176_50 i2 i3 i4 w).map cm_gI) := by
  unfold fn_176_50
  refine sm_seg 1 51 [(2, .int i2), (3, .int i3), (4, .int i4)] [.int i2] rfl ?_
  refine sm_if (pc1 := 58) (lv1 := [(2, .int i2), (4, .int i4)]) (pc2 := 54) (lv2 := [(2, .int i2), (3, .int i3), (4, .int i4)]) (st1 := []) rfl rfl rfl (fun h2 => ?_) (fun h2 => ?_)
  · exact jt_176_58  i2 i4 w
  · refine sm_seg 2 69 [] [.int i3] rfl ?_
    exact sm_rIW rfl rfl
def fn_176_8 : Nat → Nat → Int32 → Int32 → Int32 → Int32 → Int32 → cm_W → Option (Int32 × cm_W)
  | 0, _, _, _, _, _, _, _ => none
  | n + 1, a0, i1, i2, i3, i4, i5, w => (if (5 : Int32) ≤ i5 then fn_176_50  i2 i3 i4 w else (if cm_sh w a0 = some (.inl 10) then (cm_R w a0 12).bind fun r5 => (cm_R w a0 3).bind fun r7 => (if cm_sh w r5 = some (.inl 3) then (fn_42 r5 r7 i1 i5 w).bind fun v10 => (if v10.1 ≤ i4 then fn_176_44  (fn_176_8 n) a0 i1 i2 i3 i4 i5 v10.2 else fn_176_44  (fn_176_8 n) a0 i1 i2 i5 v10.1 i5 v10.2) else none) else none))
theorem jt_176_8 : ∀ (n : Nat) (a0 : Nat) (i1 : Int32) (i2 : Int32) (i3 : Int32) (i4 : Int32) (i5 : Int32) (w : cm_W), sm cm_g 176 ck_176 kq_176 8 [(0, .ref a0), (1, .int i1), (2, .int i2), (3, .int i3), (4, .int i4), (5, .int i5)] [] w ((fn_176_8 n a0 i1 i2 i3 i4 i5 w).map cm_gI) := by
  intro n
  induction n with
  | zero => intro a0 i1 i2 i3 i4 i5 w; exact sm_no
  | succ n ih =>
    intro a0 i1 i2 i3 i4 i5 w
    rw [fn_176_8]
    refine sm_seg 2 11 [(0, .ref a0), (1, .int i1), (2, .int i2), (3, .int i3), (4, .int i4), (5, .int i5)] [.int (5 : Int32), .int i5] rfl ?_
    refine sm_if (pc1 := 50) (lv1 := [(2, .int i2), (3, .int i3), (4, .int i4)]) (pc2 := 14) (lv2 := [(0, .ref a0), (1, .int i1), (2, .int i2), (3, .int i3), (4, .int i4), (5, .int i5)]) (st1 := []) rfl rfl rfl (fun h3 => ?_) (fun h3 => ?_)
    · exact jt_176_50  i2 i3 i4 w
    · refine sm_seg 1 15 [(0, .ref a0), (1, .int i1), (2, .int i2), (3, .int i3), (4, .int i4), (5, .int i5)] [.ref a0] rfl ?_
      refine sm_gd fun h4 => ?_
      refine sm_gR rfl h4 rfl rfl fun r5 h6 => ?_
      show sm _ _ _ _ 18 [(0, .ref a0), (1, .int i1), (2, .int i2), (3, .int i3), (4, .int i4), (5, .int i5)] [.ref r5] _ _
      refine sm_seg 1 19 [(0, .ref a0), (1, .int i1), (2, .int i2), (3, .int i3), (4, .int i4), (5, .int i5)] [.ref a0, .ref r5] rfl ?_
      refine sm_gR rfl h4 rfl rfl fun r7 h8 => ?_
      show sm _ _ _ _ 22 [(0, .ref a0), (1, .int i1), (2, .int i2), (3, .int i3), (4, .int i4), (5, .int i5)] [.ref r7, .ref r5] _ _
      refine sm_seg 2 25 [(0, .ref a0), (1, .int i1), (2, .int i2), (3, .int i3), (4, .int i4), (5, .int i5)] [.int i5, .int i1, .ref r7, .ref r5] rfl ?_
      refine sm_gd fun h9 => ?_
      refine sm_cV (as := [.ref r7, .int i1, .int i5]) (rest := []) rfl rfl rfl rfl h9 (Nat.le_of_ble_eq_true rfl) (ca_42  r5 r7 i1 i5 w) fun v10 h11 => ?_
      show sm _ _ _ _ 28 [(0, .ref a0), (1, .int i1), (2, .int i2), (3, .int i3), (4, .int i4), (5, .int i5)] [.int v10.1] _ _
      refine sm_seg 3 34 [(6, .int v10.1), (0, .ref a0), (1, .int i1), (2, .int i2), (3, .int i3), (4, .int i4), (5, .int i5)] [.int i4, .int v10.1] rfl ?_
      refine sm_if (pc1 := 44) (lv1 := [(0, .ref a0), (1, .int i1), (2, .int i2), (3, .int i3), (4, .int i4), (5, .int i5)]) (pc2 := 37) (lv2 := [(6, .int v10.1), (0, .ref a0), (1, .int i1), (2, .int i2), (3, .int i3), (4, .int i4), (5, .int i5)]) (st1 := []) rfl rfl rfl (fun h12 => ?_) (fun h12 => ?_)
      · exact jt_176_44  (fn_176_8 n) ih a0 i1 i2 i3 i4 i5 v10.2
      · refine sm_seg 4 44 [(0, .ref a0), (1, .int i1), (2, .int i2), (3, .int i5), (4, .int v10.1), (5, .int i5)] [] rfl ?_
        exact jt_176_44  (fn_176_8 n) ih a0 i1 i2 i5 v10.1 i5 v10.2
def fn_176 (a0 : Nat) (i1 : Int32) (i2 : Int32) (w : cm_W) : Option (Int32 × cm_W) := fn_176_8  cm_N a0 i1 i2 (-1 : Int32) (-1 : Int32) (0 : Int32) w
theorem jt_176_0 (a0 : Nat) (i1 : Int32) (i2 : Int32) (w : cm_W) : sm cm_g 176 ck_176 kq_176 0 [(0, .ref a0), (1, .int i1), (2, .int i2)] [] w ((fn_176 a0 i1 i2 w).map cm_gI) := by
  unfold fn_176
  refine sm_seg 6 8 [(0, .ref a0), (1, .int i1), (2, .int i2), (3, .int (-1 : Int32)), (4, .int (-1 : Int32)), (5, .int (0 : Int32))] [] rfl ?_
  exact jt_176_8  cm_N a0 i1 i2 (-1 : Int32) (-1 : Int32) (0 : Int32) w
theorem ca_176 (a0 : Nat) (i1 : Int32) (i2 : Int32) (w : cm_W) : cm_ca cm_g 176 [.ref a0, .int i1, .int i2] w ((fn_176 a0 i1 i2 w).map cm_gI) := cm_ca_of (cm_me_of rfl rfl) rfl (jt_176_0 a0 i1 i2 w)
-- NailedBoxes.fills(I)Z
def fn_177 (w : cm_W) (a0 : Nat) (i1 : Int32) : Option Bool := (if cm_sh w a0 = some (.inl 10) then (cm_R w a0 3).bind fun r2 => (if cm_sh w r2 = some (.inl 9) then (fn_10 w r2 i1).bind fun v5 => (if v5 ≤ 0 then some false else some true) else none) else none)
theorem jt_177_0 (w : cm_W) (a0 : Nat) (i1 : Int32) : sm cm_g 177 ck_177 kq_177 0 [(0, .ref a0), (1, .int i1)] [] w ((fn_177 w a0 i1).map (cm_fB w)) := by
  unfold fn_177
  refine sm_seg 1 1 [(0, .ref a0), (1, .int i1)] [.ref a0] rfl ?_
  refine sm_gd fun h1 => ?_
  refine sm_gR rfl h1 rfl rfl fun r2 h3 => ?_
  show sm _ _ _ _ 4 [(0, .ref a0), (1, .int i1)] [.ref r2] _ _
  refine sm_seg 1 5 [(0, .ref a0), (1, .int i1)] [.int i1, .ref r2] rfl ?_
  refine sm_gd fun h4 => ?_
  refine sm_cV (as := [.int i1]) (rest := []) rfl rfl rfl rfl h4 (Nat.le_of_ble_eq_true rfl) (ca_10 w r2 i1) fun v5 h6 => ?_
  show sm _ _ _ _ 8 [(0, .ref a0), (1, .int i1)] [.int v5] _ _
  refine sm_if (pc1 := 15) (lv1 := []) (pc2 := 11) (lv2 := [(0, .ref a0), (1, .int i1)]) (st1 := []) rfl rfl rfl (fun h7 => ?_) (fun h7 => ?_)
  · refine sm_seg 1 16 [] [.int (0 : Int32)] rfl ?_
    exact sm_rB (b := false) rfl rfl
  · refine sm_seg 2 16 [] [.int (1 : Int32)] rfl ?_
    exact sm_rB (b := true) rfl rfl
theorem ca_177 (w : cm_W) (a0 : Nat) (i1 : Int32) : cm_ca cm_g 177 [.ref a0, .int i1] w ((fn_177 w a0 i1).map (cm_fB w)) := cm_ca_of (cm_me_of rfl rfl) rfl (jt_177_0 w a0 i1)
-- NailedBoxes.isPrice(I)Z
def fn_178 (w : cm_W) (i0 : Int32) : Option Bool := (if i0 < 0 then some false else (if (999 : Int32) < i0 then some false else some true))
theorem jt_178_0 (w : cm_W) (i0 : Int32) : sm cm_g 178 ck_178 kq_178 0 [(0, .int i0)] [] w ((fn_178 w i0).map (cm_fB w)) := by
  unfold fn_178
  refine sm_seg 1 1 [(0, .int i0)] [.int i0] rfl ?_
  refine sm_if (pc1 := 15) (lv1 := []) (pc2 := 4) (lv2 := [(0, .int i0)]) (st1 := []) rfl rfl rfl (fun h1 => ?_) (fun h1 => ?_)
  · refine sm_seg 1 16 [] [.int (0 : Int32)] rfl ?_
    exact sm_rB (b := false) rfl rfl
  · refine sm_seg 2 8 [(0, .int i0)] [.int (999 : Int32), .int i0] rfl ?_
    refine sm_if (pc1 := 15) (lv1 := []) (pc2 := 11) (lv2 := [(0, .int i0)]) (st1 := []) rfl rfl rfl (fun h2 => ?_) (fun h2 => ?_)
    · refine sm_seg 1 16 [] [.int (0 : Int32)] rfl ?_
      exact sm_rB (b := false) rfl rfl
    · refine sm_seg 2 16 [] [.int (1 : Int32)] rfl ?_
      exact sm_rB (b := true) rfl rfl
theorem ca_178 (w : cm_W) (i0 : Int32) : cm_ca cm_g 178 [.int i0] w ((fn_178 w i0).map (cm_fB w)) := cm_ca_of (cm_me_of rfl rfl) rfl (jt_178_0 w i0)
-- NailedBoxes.little(III)I
def fn_179_24 (a0 : Nat) (i1 : Int32) (i2 : Int32) (i3 : Int32) (w : cm_W) : Option (Int32 × cm_W) := (if cm_sh w a0 = some (.inl 10) then (cm_R w a0 12).bind fun r2 => (cm_R w a0 3).bind fun r4 => (if cm_sh w r2 = some (.inl 3) then (fn_32 r2 r4 i2 w).bind fun w7 => (if cm_sh w7 a0 = some (.inl 10) then (cm_R w7 a0 12).bind fun r10 => (cm_R w7 a0 3).bind fun r12 => (if cm_sh w7 r10 = some (.inl 3) then (fn_37 r10 r12 i1 w7).bind fun w15 => (if cm_sh w15 a0 = some (.inl 10) then (cm_R w15 a0 12).bind fun r18 => (if cm_sh w15 r18 = some (.inl 3) then (fn_48 w15 r18 i3).bind fun v21 => (cm_R w15 a0 12).bind fun r23 => (if cm_sh w15 r23 = some (.inl 3) then (fn_48 w15 r23 (0 : Int32)).bind fun v26 => some ((v21 - (if (0 : Int32) < (v26 - ((100 : Int32) * i3)) then (v26 - ((100 : Int32) * i3)) else (0 : Int32))), w15) else none) else none) else none) else none) else none) else none) else none)
theorem jt_179_24 (a0 : Nat) (i1 : Int32) (i2 : Int32) (i3 : Int32) (w : cm_W) : sm cm_g 179 ck_179 kq_179 24 [(0, .ref a0), (1, .int i1), (2, .int i2), (3, .int i3)] [] w ((fn_179_24 a0 i1 i2 i3 w).map cm_gI) := by
  unfold fn_179_24
  refine sm_seg 1 25 [(0, .ref a0), (1, .int i1), (2, .int i2), (3, .int i3)] [.ref a0] rfl ?_
  refine sm_gd fun h1 => ?_
  refine sm_gR rfl h1 rfl rfl fun r2 h3 => ?_
  show sm _ _ _ _ 28 [(0, .ref a0), (1, .int i1), (2, .int i2), (3, .int i3)] [.ref r2] _ _
  refine sm_seg 1 29 [(0, .ref a0), (1, .int i1), (2, .int i2), (3, .int i3)] [.ref a0, .ref r2] rfl ?_
  refine sm_gR rfl h1 rfl rfl fun r4 h5 => ?_
  show sm _ _ _ _ 32 [(0, .ref a0), (1, .int i1), (2, .int i2), (3, .int i3)] [.ref r4, .ref r2] _ _
  refine sm_seg 1 33 [(0, .ref a0), (1, .int i1), (2, .int i2), (3, .int i3)] [.int i2, .ref r4, .ref r2] rfl ?_
  refine sm_gd fun h6 => ?_
  refine sm_cV (as := [.ref r4, .int i2]) (rest := []) rfl rfl rfl rfl h6 (Nat.le_of_ble_eq_true rfl) (ca_32  r2 r4 i2 w) fun w7 h8 => ?_
  show sm _ _ _ _ 36 [(0, .ref a0), (1, .int i1), (2, .int i2), (3, .int i3)] [] _ _
  refine sm_seg 1 37 [(0, .ref a0), (1, .int i1), (2, .int i2), (3, .int i3)] [.ref a0] rfl ?_
  refine sm_gd fun h9 => ?_
  refine sm_gR rfl h9 rfl rfl fun r10 h11 => ?_
  show sm _ _ _ _ 40 [(0, .ref a0), (1, .int i1), (2, .int i2), (3, .int i3)] [.ref r10] _ _
  refine sm_seg 1 41 [(0, .ref a0), (1, .int i1), (2, .int i2), (3, .int i3)] [.ref a0, .ref r10] rfl ?_
  refine sm_gR rfl h9 rfl rfl fun r12 h13 => ?_
  show sm _ _ _ _ 44 [(0, .ref a0), (1, .int i1), (2, .int i2), (3, .int i3)] [.ref r12, .ref r10] _ _
  refine sm_seg 1 45 [(0, .ref a0), (1, .int i1), (2, .int i2), (3, .int i3)] [.int i1, .ref r12, .ref r10] rfl ?_
  refine sm_gd fun h14 => ?_
  refine sm_cV (as := [.ref r12, .int i1]) (rest := []) rfl rfl rfl rfl h14 (Nat.le_of_ble_eq_true rfl) (ca_37  r10 r12 i1 w7) fun w15 h16 => ?_
  show sm _ _ _ _ 48 [(0, .ref a0), (1, .int i1), (2, .int i2), (3, .int i3)] [] _ _
  refine sm_seg 1 49 [(0, .ref a0), (1, .int i1), (2, .int i2), (3, .int i3)] [.ref a0] rfl ?_
  refine sm_gd fun h17 => ?_
  refine sm_gR rfl h17 rfl rfl fun r18 h19 => ?_
  show sm _ _ _ _ 52 [(0, .ref a0), (1, .int i1), (2, .int i2), (3, .int i3)] [.ref r18] _ _
  refine sm_seg 1 53 [(0, .ref a0), (1, .int i1), (2, .int i2), (3, .int i3)] [.int i3, .ref r18] rfl ?_
  refine sm_gd fun h20 => ?_
  refine sm_cV (as := [.int i3]) (rest := []) rfl rfl rfl rfl h20 (Nat.le_of_ble_eq_true rfl) (ca_48 w15 r18 i3) fun v21 h22 => ?_
  show sm _ _ _ _ 56 [(0, .ref a0), (1, .int i1), (2, .int i2), (3, .int i3)] [.int v21] _ _
  refine sm_seg 2 58 [(0, .ref a0), (1, .int i1), (2, .int i2), (3, .int i3)] [.ref a0, .int (0 : Int32), .int v21] rfl ?_
  refine sm_gR rfl h17 rfl rfl fun r23 h24 => ?_
  show sm _ _ _ _ 61 [(0, .ref a0), (1, .int i1), (2, .int i2), (3, .int i3)] [.ref r23, .int (0 : Int32), .int v21] _ _
  refine sm_seg 1 62 [(0, .ref a0), (1, .int i1), (2, .int i2), (3, .int i3)] [.int (0 : Int32), .ref r23, .int (0 : Int32), .int v21] rfl ?_
  refine sm_gd fun h25 => ?_
  refine sm_cV (as := [.int (0 : Int32)]) (rest := [.int (0 : Int32), .int v21]) rfl rfl rfl rfl h25 (Nat.le_of_ble_eq_true rfl) (ca_48 w15 r23 (0 : Int32)) fun v26 h27 => ?_
  show sm _ _ _ _ 65 [(0, .ref a0), (1, .int i1), (2, .int i2), (3, .int i3)] [.int v26, .int (0 : Int32), .int v21] _ _
  refine sm_seg 4 70 [(0, .ref a0), (1, .int i1), (2, .int i2), (3, .int i3)] [.int (v26 - ((100 : Int32) * i3)), .int (0 : Int32), .int v21] rfl ?_
  refine sm_at rfl rfl rfl ?_
  show sm _ _ _ _ 73 [(0, .ref a0), (1, .int i1), (2, .int i2), (3, .int i3)] [.int (if (0 : Int32) < (v26 - ((100 : Int32) * i3)) then (v26 - ((100 : Int32) * i3)) else (0 : Int32)), .int v21] _ _
  refine sm_seg 1 74 [(0, .ref a0), (1, .int i1), (2, .int i2), (3, .int i3)] [.int (v21 - (if (0 : Int32) < (v26 - ((100 : Int32) * i3)) then (v26 - ((100 : Int32) * i3)) else (0 : Int32)))] rfl ?_
  exact sm_rIW rfl rfl
def fn_179 (a0 : Nat) (i1 : Int32) (i2 : Int32) (i3 : Int32) (w : cm_W) : Option (Int32 × cm_W) := (if cm_sh w a0 = some (.inl 10) then (fn_177 w a0 i1).bind fun v29 => (if (cm_b v29) = 0 then some ((-1 : Int32), w) else (fn_143 w i2).bind fun v32 => (if (cm_b v32) = 0 then some ((-1 : Int32), w) else (fn_178 w i3).bind fun v35 => (if ¬ (cm_b v35) = 0 then fn_179_24  a0 i1 i2 i3 w else some ((-1 : Int32), w)))) else none)
theorem jt_179_0 (a0 : Nat) (i1 : Int32) (i2 : Int32) (i3 : Int32) (w : cm_W) : sm cm_g 179 ck_179 kq_179 0 [(0, .ref a0), (1, .int i1), (2, .int i2), (3, .int i3)] [] w ((fn_179 a0 i1 i2 i3 w).map cm_gI) := by
  unfold fn_179
  refine sm_seg 2 2 [(0, .ref a0), (1, .int i1), (2, .int i2), (3, .int i3)] [.int i1, .ref a0] rfl ?_
  refine sm_gd fun h28 => ?_
  refine sm_cV (as := [.int i1]) (rest := []) rfl rfl rfl rfl h28 (Nat.le_of_ble_eq_true rfl) (ca_177 w a0 i1) fun v29 h30 => ?_
  show sm _ _ _ _ 5 [(0, .ref a0), (1, .int i1), (2, .int i2), (3, .int i3)] [.int (cm_b v29)] _ _
  refine sm_if (pc1 := 22) (lv1 := []) (pc2 := 8) (lv2 := [(0, .ref a0), (1, .int i1), (2, .int i2), (3, .int i3)]) (st1 := []) rfl rfl rfl (fun h31 => ?_) (fun h31 => ?_)
  · refine sm_seg 1 23 [] [.int (-1 : Int32)] rfl ?_
    exact sm_rIW rfl rfl
  · refine sm_seg 1 9 [(0, .ref a0), (1, .int i1), (2, .int i2), (3, .int i3)] [.int i2] rfl ?_
    refine sm_cS (av := [.int i2]) (rest := []) rfl rfl rfl rfl (Nat.le_of_ble_eq_true rfl) (ca_143 w i2) fun v32 h33 => ?_
    show sm _ _ _ _ 12 [(0, .ref a0), (1, .int i1), (2, .int i2), (3, .int i3)] [.int (cm_b v32)] _ _
    refine sm_if (pc1 := 22) (lv1 := []) (pc2 := 15) (lv2 := [(0, .ref a0), (1, .int i1), (2, .int i2), (3, .int i3)]) (st1 := []) rfl rfl rfl (fun h34 => ?_) (fun h34 => ?_)
    · refine sm_seg 1 23 [] [.int (-1 : Int32)] rfl ?_
      exact sm_rIW rfl rfl
    · refine sm_seg 1 16 [(0, .ref a0), (1, .int i1), (2, .int i2), (3, .int i3)] [.int i3] rfl ?_
      refine sm_cS (av := [.int i3]) (rest := []) rfl rfl rfl rfl (Nat.le_of_ble_eq_true rfl) (ca_178 w i3) fun v35 h36 => ?_
      show sm _ _ _ _ 19 [(0, .ref a0), (1, .int i1), (2, .int i2), (3, .int i3)] [.int (cm_b v35)] _ _
      refine sm_if (pc1 := 24) (lv1 := [(0, .ref a0), (1, .int i1), (2, .int i2), (3, .int i3)]) (pc2 := 22) (lv2 := []) (st1 := []) rfl rfl rfl (fun h37 => ?_) (fun h37 => ?_)
      · exact jt_179_24  a0 i1 i2 i3 w
      · refine sm_seg 1 23 [] [.int (-1 : Int32)] rfl ?_
        exact sm_rIW rfl rfl
theorem ca_179 (a0 : Nat) (i1 : Int32) (i2 : Int32) (i3 : Int32) (w : cm_W) : cm_ca cm_g 179 [.ref a0, .int i1, .int i2, .int i3] w ((fn_179 a0 i1 i2 i3 w).map cm_gI) := cm_ca_of (cm_me_of rfl rfl) rfl (jt_179_0 a0 i1 i2 i3 w)
-- NailedBoxes.weight(II)I
def fn_180_17 (a0 : Nat) (i1 : Int32) (i2 : Int32) (w : cm_W) : Option (Int32 × cm_W) := (if cm_sh w a0 = some (.inl 10) then (cm_R w a0 12).bind fun r2 => (cm_R w a0 3).bind fun r4 => (if cm_sh w r2 = some (.inl 3) then (fn_32 r2 r4 i2 w).bind fun w7 => (if cm_sh w7 a0 = some (.inl 10) then (cm_R w7 a0 12).bind fun r10 => (cm_R w7 a0 3).bind fun r12 => (if cm_sh w7 r10 = some (.inl 3) then (fn_37 r10 r12 i1 w7).bind fun w15 => (if cm_sh w15 a0 = some (.inl 10) then (cm_R w15 a0 12).bind fun r18 => (cm_R w15 a0 3).bind fun r20 => (if cm_sh w15 r18 = some (.inl 3) then (fn_50 w15 r18 r20).bind fun v23 => some (v23, w15) else none) else none) else none) else none) else none) else none)
theorem jt_180_17 (a0 : Nat) (i1 : Int32) (i2 : Int32) (w : cm_W) : sm cm_g 180 ck_180 kq_180 17 [(0, .ref a0), (1, .int i1), (2, .int i2)] [] w ((fn_180_17 a0 i1 i2 w).map cm_gI) := by
  unfold fn_180_17
  refine sm_seg 1 18 [(0, .ref a0), (1, .int i1), (2, .int i2)] [.ref a0] rfl ?_
  refine sm_gd fun h1 => ?_
  refine sm_gR rfl h1 rfl rfl fun r2 h3 => ?_
  show sm _ _ _ _ 21 [(0, .ref a0), (1, .int i1), (2, .int i2)] [.ref r2] _ _
  refine sm_seg 1 22 [(0, .ref a0), (1, .int i1), (2, .int i2)] [.ref a0, .ref r2] rfl ?_
  refine sm_gR rfl h1 rfl rfl fun r4 h5 => ?_
  show sm _ _ _ _ 25 [(0, .ref a0), (1, .int i1), (2, .int i2)] [.ref r4, .ref r2] _ _
  refine sm_seg 1 26 [(0, .ref a0), (1, .int i1), (2, .int i2)] [.int i2, .ref r4, .ref r2] rfl ?_
  refine sm_gd fun h6 => ?_
  refine sm_cV (as := [.ref r4, .int i2]) (rest := []) rfl rfl rfl rfl h6 (Nat.le_of_ble_eq_true rfl) (ca_32  r2 r4 i2 w) fun w7 h8 => ?_
  show sm _ _ _ _ 29 [(0, .ref a0), (1, .int i1), (2, .int i2)] [] _ _
  refine sm_seg 1 30 [(0, .ref a0), (1, .int i1), (2, .int i2)] [.ref a0] rfl ?_
  refine sm_gd fun h9 => ?_
  refine sm_gR rfl h9 rfl rfl fun r10 h11 => ?_
  show sm _ _ _ _ 33 [(0, .ref a0), (1, .int i1), (2, .int i2)] [.ref r10] _ _
  refine sm_seg 1 34 [(0, .ref a0), (1, .int i1), (2, .int i2)] [.ref a0, .ref r10] rfl ?_
  refine sm_gR rfl h9 rfl rfl fun r12 h13 => ?_
  show sm _ _ _ _ 37 [(0, .ref a0), (1, .int i1), (2, .int i2)] [.ref r12, .ref r10] _ _
  refine sm_seg 1 38 [(0, .ref a0), (1, .int i1), (2, .int i2)] [.int i1, .ref r12, .ref r10] rfl ?_
  refine sm_gd fun h14 => ?_
  refine sm_cV (as := [.ref r12, .int i1]) (rest := []) rfl rfl rfl rfl h14 (Nat.le_of_ble_eq_true rfl) (ca_37  r10 r12 i1 w7) fun w15 h16 => ?_
  show sm _ _ _ _ 41 [(0, .ref a0), (1, .int i1), (2, .int i2)] [] _ _
  refine sm_seg 1 42 [(0, .ref a0), (1, .int i1), (2, .int i2)] [.ref a0] rfl ?_
  refine sm_gd fun h17 => ?_
  refine sm_gR rfl h17 rfl rfl fun r18 h19 => ?_
  show sm _ _ _ _ 45 [(0, .ref a0), (1, .int i1), (2, .int i2)] [.ref r18] _ _
  refine sm_seg 1 46 [(0, .ref a0), (1, .int i1), (2, .int i2)] [.ref a0, .ref r18] rfl ?_
  refine sm_gR rfl h17 rfl rfl fun r20 h21 => ?_
  show sm _ _ _ _ 49 [(0, .ref a0), (1, .int i1), (2, .int i2)] [.ref r20, .ref r18] _ _
  refine sm_gd fun h22 => ?_
  refine sm_cV (as := [.ref r20]) (rest := []) rfl rfl rfl rfl h22 (Nat.le_of_ble_eq_true rfl) (ca_50 w15 r18 r20) fun v23 h24 => ?_
  show sm _ _ _ _ 52 [(0, .ref a0), (1, .int i1), (2, .int i2)] [.int v23] _ _
  exact sm_rIW rfl rfl
def fn_180 (a0 : Nat) (i1 : Int32) (i2 : Int32) (w : cm_W) : Option (Int32 × cm_W) := (if cm_sh w a0 = some (.inl 10) then (fn_177 w a0 i1).bind fun v26 => (if (cm_b v26) = 0 then some ((-1 : Int32), w) else (fn_143 w i2).bind fun v29 => (if ¬ (cm_b v29) = 0 then fn_180_17  a0 i1 i2 w else some ((-1 : Int32), w))) else none)
theorem jt_180_0 (a0 : Nat) (i1 : Int32) (i2 : Int32) (w : cm_W) : sm cm_g 180 ck_180 kq_180 0 [(0, .ref a0), (1, .int i1), (2, .int i2)] [] w ((fn_180 a0 i1 i2 w).map cm_gI) := by
  unfold fn_180
  refine sm_seg 2 2 [(0, .ref a0), (1, .int i1), (2, .int i2)] [.int i1, .ref a0] rfl ?_
  refine sm_gd fun h25 => ?_
  refine sm_cV (as := [.int i1]) (rest := []) rfl rfl rfl rfl h25 (Nat.le_of_ble_eq_true rfl) (ca_177 w a0 i1) fun v26 h27 => ?_
  show sm _ _ _ _ 5 [(0, .ref a0), (1, .int i1), (2, .int i2)] [.int (cm_b v26)] _ _
  refine sm_if (pc1 := 15) (lv1 := []) (pc2 := 8) (lv2 := [(0, .ref a0), (1, .int i1), (2, .int i2)]) (st1 := []) rfl rfl rfl (fun h28 => ?_) (fun h28 => ?_)
  · refine sm_seg 1 16 [] [.int (-1 : Int32)] rfl ?_
    exact sm_rIW rfl rfl
  · refine sm_seg 1 9 [(0, .ref a0), (1, .int i1), (2, .int i2)] [.int i2] rfl ?_
    refine sm_cS (av := [.int i2]) (rest := []) rfl rfl rfl rfl (Nat.le_of_ble_eq_true rfl) (ca_143 w i2) fun v29 h30 => ?_
    show sm _ _ _ _ 12 [(0, .ref a0), (1, .int i1), (2, .int i2)] [.int (cm_b v29)] _ _
    refine sm_if (pc1 := 17) (lv1 := [(0, .ref a0), (1, .int i1), (2, .int i2)]) (pc2 := 15) (lv2 := []) (st1 := []) rfl rfl rfl (fun h31 => ?_) (fun h31 => ?_)
    · exact jt_180_17  a0 i1 i2 w
    · refine sm_seg 1 16 [] [.int (-1 : Int32)] rfl ?_
      exact sm_rIW rfl rfl
theorem ca_180 (a0 : Nat) (i1 : Int32) (i2 : Int32) (w : cm_W) : cm_ca cm_g 180 [.ref a0, .int i1, .int i2] w ((fn_180 a0 i1 i2 w).map cm_gI) := cm_ca_of (cm_me_of rfl rfl) rfl (jt_180_0 a0 i1 i2 w)
-- NailedBoxes.hours(IIII)I
def fn_181_36 (a0 : Nat) (i1 : Int32) (i2 : Int32) (i3 : Int32) (i4 : Int32) (w : cm_W) : Option (Int32 × cm_W) := (if cm_sh w a0 = some (.inl 10) then (cm_R w a0 12).bind fun r2 => (cm_R w a0 3).bind fun r4 => (if cm_sh w r2 = some (.inl 3) then (fn_52 r2 r4 i1 i2 i3 i4 w).bind fun v7 => some (v7.1, v7.2) else none) else none)
theorem jt_181_36 (a0 : Nat) (i1 : Int32) (i2 : Int32) (i3 : Int32) (i4 : Int32) (w : cm_W) : sm cm_g 181 ck_181 kq_181 36 [(0, .ref a0), (1, .int i1), (2, .int i2), (3, .int i3), (4, .int i4)] [] w ((fn_181_36 a0 i1 i2 i3 i4 w).map cm_gI) := by
  unfold fn_181_36
  refine sm_seg 4 45 [(5, .int (1 : Int32)), (0, .ref a0), (1, .int i1), (2, .int i2), (3, .int i3), (4, .int i4)] [.int (1 : Int32)] rfl ?_
  refine sm_iff (c := (1 : Int32) = 0) (pc1 := 67) (pc2 := 48) (lv1 := [(5, .int (1 : Int32)), (0, .ref a0), (1, .int i1), (2, .int i2), (3, .int i3), (4, .int i4)]) (st1 := []) rfl (by decide) rfl ?_
  refine sm_seg 1 49 [(5, .int (1 : Int32)), (0, .ref a0), (1, .int i1), (2, .int i2), (3, .int i3), (4, .int i4)] [.ref a0] rfl ?_
  refine sm_gd fun h1 => ?_
  refine sm_gR rfl h1 rfl rfl fun r2 h3 => ?_
  show sm _ _ _ _ 52 [(5, .int (1 : Int32)), (0, .ref a0), (1, .int i1), (2, .int i2), (3, .int i3), (4, .int i4)] [.ref r2] _ _
  refine sm_seg 1 53 [(5, .int (1 : Int32)), (0, .ref a0), (1, .int i1), (2, .int i2), (3, .int i3), (4, .int i4)] [.ref a0, .ref r2] rfl ?_
  refine sm_gR rfl h1 rfl rfl fun r4 h5 => ?_
  show sm _ _ _ _ 56 [(5, .int (1 : Int32)), (0, .ref a0), (1, .int i1), (2, .int i2), (3, .int i3), (4, .int i4)] [.ref r4, .ref r2] _ _
  refine sm_seg 4 61 [(5, .int (1 : Int32)), (0, .ref a0), (1, .int i1), (2, .int i2), (3, .int i3), (4, .int i4)] [.int i4, .int i3, .int i2, .int i1, .ref r4, .ref r2] rfl ?_
  refine sm_gd fun h6 => ?_
  refine sm_cV (as := [.ref r4, .int i1, .int i2, .int i3, .int i4]) (rest := []) rfl rfl rfl rfl h6 (Nat.le_of_ble_eq_true rfl) (ca_52  r2 r4 i1 i2 i3 i4 w) fun v7 h8 => ?_
  show sm _ _ _ _ 64 [(5, .int (1 : Int32)), (0, .ref a0), (1, .int i1), (2, .int i2), (3, .int i3), (4, .int i4)] [.int v7.1] _ _
  refine sm_seg 1 68 [] [.int v7.1] rfl ?_
  exact sm_rIW rfl rfl
def fn_181_40 (a0 : Nat) (i1 : Int32) (i2 : Int32) (i3 : Int32) (i4 : Int32) (w : cm_W) : Option (Int32 × cm_W) := some ((-1 : Int32), w)
theorem jt_181_40 (a0 : Nat) (i1 : Int32) (i2 : Int32) (i3 : Int32) (i4 : Int32) (w : cm_W) : sm cm_g 181 ck_181 kq_181 40 [(0, .ref a0), (1, .int i1), (2, .int i2), (3, .int i3), (4, .int i4)] [] w ((fn_181_40 a0 i1 i2 i3 i4 w).map cm_gI) := by
  unfold fn_181_40
  refine sm_seg 3 45 [(5, .int (0 : Int32)), (0, .ref a0), (1, .int i1), (2, .int i2), (3, .int i3), (4, .int i4)] [.int (0 : Int32)] rfl ?_
  refine sm_ift (c := (0 : Int32) = 0) (pc1 := 67) (pc2 := 48) (lv1 := []) (st1 := []) rfl (by decide) rfl ?_
  refine sm_seg 1 68 [] [.int (-1 : Int32)] rfl ?_
  exact sm_rIW rfl rfl
def fn_181 (a0 : Nat) (i1 : Int32) (i2 : Int32) (i3 : Int32) (i4 : Int32) (w : cm_W) : Option (Int32 × cm_W) := (if cm_sh w a0 = some (.inl 10) then (fn_177 w a0 i1).bind fun v10 => (if (cm_b v10) = 0 then fn_181_40  a0 i1 i2 i3 i4 w else (fn_143 w i2).bind fun v13 => (if (cm_b v13) = 0 then fn_181_40  a0 i1 i2 i3 i4 w else (if i3 < (-1 : Int32) then fn_181_40  a0 i1 i2 i3 i4 w else (if i4 = 0 then fn_181_36  a0 i1 i2 i3 i4 w else (if ¬ i4 = (1 : Int32) then fn_181_40  a0 i1 i2 i3 i4 w else (if i3 = (-1 : Int32) then fn_181_40  a0 i1 i2 i3 i4 w else fn_181_36  a0 i1 i2 i3 i4 w)))))) else none)
theorem jt_181_0 (a0 : Nat) (i1 : Int32) (i2 : Int32) (i3 : Int32) (i4 : Int32) (w : cm_W) : sm cm_g 181 ck_181 kq_181 0 [(0, .ref a0), (1, .int i1), (2, .int i2), (3, .int i3), (4, .int i4)] [] w ((fn_181 a0 i1 i2 i3 i4 w).map cm_gI) := by
  unfold fn_181
  refine sm_seg 2 2 [(0, .ref a0), (1, .int i1), (2, .int i2), (3, .int i3), (4, .int i4)] [.int i1, .ref a0] rfl ?_
  refine sm_gd fun h9 => ?_
  refine sm_cV (as := [.int i1]) (rest := []) rfl rfl rfl rfl h9 (Nat.le_of_ble_eq_true rfl) (ca_177 w a0 i1) fun v10 h11 => ?_
  show sm _ _ _ _ 5 [(0, .ref a0), (1, .int i1), (2, .int i2), (3, .int i3), (4, .int i4)] [.int (cm_b v10)] _ _
  refine sm_if (pc1 := 40) (lv1 := [(0, .ref a0), (1, .int i1), (2, .int i2), (3, .int i3), (4, .int i4)]) (pc2 := 8) (lv2 := [(0, .ref a0), (1, .int i1), (2, .int i2), (3, .int i3), (4, .int i4)]) (st1 := []) rfl rfl rfl (fun h12 => ?_) (fun h12 => ?_)
  · exact jt_181_40  a0 i1 i2 i3 i4 w
  · refine sm_seg 1 9 [(0, .ref a0), (1, .int i1), (2, .int i2), (3, .int i3), (4, .int i4)] [.int i2] rfl ?_
    refine sm_cS (av := [.int i2]) (rest := []) rfl rfl rfl rfl (Nat.le_of_ble_eq_true rfl) (ca_143 w i2) fun v13 h14 => ?_
    show sm _ _ _ _ 12 [(0, .ref a0), (1, .int i1), (2, .int i2), (3, .int i3), (4, .int i4)] [.int (cm_b v13)] _ _
    refine sm_if (pc1 := 40) (lv1 := [(0, .ref a0), (1, .int i1), (2, .int i2), (3, .int i3), (4, .int i4)]) (pc2 := 15) (lv2 := [(0, .ref a0), (1, .int i1), (2, .int i2), (3, .int i3), (4, .int i4)]) (st1 := []) rfl rfl rfl (fun h15 => ?_) (fun h15 => ?_)
    · exact jt_181_40  a0 i1 i2 i3 i4 w
    · refine sm_seg 2 17 [(0, .ref a0), (1, .int i1), (2, .int i2), (3, .int i3), (4, .int i4)] [.int (-1 : Int32), .int i3] rfl ?_
      refine sm_if (pc1 := 40) (lv1 := [(0, .ref a0), (1, .int i1), (2, .int i2), (3, .int i3), (4, .int i4)]) (pc2 := 20) (lv2 := [(0, .ref a0), (1, .int i1), (2, .int i2), (3, .int i3), (4, .int i4)]) (st1 := []) rfl rfl rfl (fun h16 => ?_) (fun h16 => ?_)
      · exact jt_181_40  a0 i1 i2 i3 i4 w
      · refine sm_seg 1 22 [(0, .ref a0), (1, .int i1), (2, .int i2), (3, .int i3), (4, .int i4)] [.int i4] rfl ?_
        refine sm_if (pc1 := 36) (lv1 := [(0, .ref a0), (1, .int i1), (2, .int i2), (3, .int i3), (4, .int i4)]) (pc2 := 25) (lv2 := [(0, .ref a0), (1, .int i1), (2, .int i2), (3, .int i3), (4, .int i4)]) (st1 := []) rfl rfl rfl (fun h17 => ?_) (fun h17 => ?_)
        · exact jt_181_36  a0 i1 i2 i3 i4 w
        · refine sm_seg 2 28 [(0, .ref a0), (1, .int i1), (2, .int i2), (3, .int i3), (4, .int i4)] [.int (1 : Int32), .int i4] rfl ?_
          refine sm_if (pc1 := 40) (lv1 := [(0, .ref a0), (1, .int i1), (2, .int i2), (3, .int i3), (4, .int i4)]) (pc2 := 31) (lv2 := [(0, .ref a0), (1, .int i1), (2, .int i2), (3, .int i3), (4, .int i4)]) (st1 := []) rfl rfl rfl (fun h18 => ?_) (fun h18 => ?_)
          · exact jt_181_40  a0 i1 i2 i3 i4 w
          · refine sm_seg 2 33 [(0, .ref a0), (1, .int i1), (2, .int i2), (3, .int i3), (4, .int i4)] [.int (-1 : Int32), .int i3] rfl ?_
            refine sm_if (pc1 := 40) (lv1 := [(0, .ref a0), (1, .int i1), (2, .int i2), (3, .int i3), (4, .int i4)]) (pc2 := 36) (lv2 := [(0, .ref a0), (1, .int i1), (2, .int i2), (3, .int i3), (4, .int i4)]) (st1 := []) rfl rfl rfl (fun h19 => ?_) (fun h19 => ?_)
            · exact jt_181_40  a0 i1 i2 i3 i4 w
            · exact jt_181_36  a0 i1 i2 i3 i4 w
theorem ca_181 (a0 : Nat) (i1 : Int32) (i2 : Int32) (i3 : Int32) (i4 : Int32) (w : cm_W) : cm_ca cm_g 181 [.ref a0, .int i1, .int i2, .int i3, .int i4] w ((fn_181 a0 i1 i2 i3 i4 w).map cm_gI) := cm_ca_of (cm_me_of rfl rfl) rfl (jt_181_0 a0 i1 i2 i3 i4 w)
-- NailedBoxes.lasts(IIIII)I
def fn_182_51 (a0 : Nat) (i1 : Int32) (i2 : Int32) (i3 : Int32) (i4 : Int32) (i5 : Int32) (w : cm_W) : Option (Int32 × cm_W) := some ((-1 : Int32), w)
theorem jt_182_51 (a0 : Nat) (i1 : Int32) (i2 : Int32) (i3 : Int32) (i4 : Int32) (i5 : Int32) (w : cm_W) : sm cm_g 182 ck_182 kq_182 51 [(0, .ref a0), (1, .int i1), (2, .int i2), (3, .int i3), (4, .int i4), (5, .int i5)] [] w ((fn_182_51 a0 i1 i2 i3 i4 i5 w).map cm_gI) := by
  unfold fn_182_51
  refine sm_seg 3 56 [(6, .int (0 : Int32)), (0, .ref a0), (1, .int i1), (2, .int i2), (3, .int i3), (4, .int i4), (5, .int i5)] [.int (0 : Int32)] rfl ?_
  refine sm_ift (c := (0 : Int32) = 0) (pc1 := 80) (pc2 := 59) (lv1 := []) (st1 := []) rfl (by decide) rfl ?_
  refine sm_seg 1 81 [] [.int (-1 : Int32)] rfl ?_
  exact sm_rIW rfl rfl
def fn_182 (a0 : Nat) (i1 : Int32) (i2 : Int32) (i3 : Int32) (i4 : Int32) (i5 : Int32) (w : cm_W) : Option (Int32 × cm_W) := (if cm_sh w a0 = some (.inl 10) then (fn_177 w a0 i1).bind fun v2 => (if (cm_b v2) = 0 then fn_182_51  a0 i1 i2 i3 i4 i5 w else (fn_143 w i2).bind fun v5 => (if (cm_b v5) = 0 then fn_182_51  a0 i1 i2 i3 i4 i5 w else (fn_178 w i4).bind fun v8 => (if (cm_b v8) = 0 then fn_182_51  a0 i1 i2 i3 i4 i5 w else (if i3 < 0 then fn_182_51  a0 i1 i2 i3 i4 i5 w else (if (999 : Int32) < i3 then fn_182_51  a0 i1 i2 i3 i4 i5 w else (if i5 < (1 : Int32) then fn_182_51  a0 i1 i2 i3 i4 i5 w else (if (20 : Int32) < i5 then fn_182_51  a0 i1 i2 i3 i4 i5 w else (cm_R w a0 14).bind fun r15 => (cm_R w a0 3).bind fun r17 => (if cm_sh w r15 = some (.inl 1) then (fn_13 r15 r17 i1 i2 i3 i4 i5 w).bind fun v20 => some (v20.1, v20.2) else none)))))))) else none)
theorem jt_182_0 (a0 : Nat) (i1 : Int32) (i2 : Int32) (i3 : Int32) (i4 : Int32) (i5 : Int32) (w : cm_W) : sm cm_g 182 ck_182 kq_182 0 [(0, .ref a0), (1, .int i1), (2, .int i2), (3, .int i3), (4, .int i4), (5, .int i5)] [] w ((fn_182 a0 i1 i2 i3 i4 i5 w).map cm_gI) := by
  unfold fn_182
  refine sm_seg 2 2 [(0, .ref a0), (1, .int i1), (2, .int i2), (3, .int i3), (4, .int i4), (5, .int i5)] [.int i1, .ref a0] rfl ?_
  refine sm_gd fun h1 => ?_
  refine sm_cV (as := [.int i1]) (rest := []) rfl rfl rfl rfl h1 (Nat.le_of_ble_eq_true rfl) (ca_177 w a0 i1) fun v2 h3 => ?_
  show sm _ _ _ _ 5 [(0, .ref a0), (1, .int i1), (2, .int i2), (3, .int i3), (4, .int i4), (5, .int i5)] [.int (cm_b v2)] _ _
  refine sm_if (pc1 := 51) (lv1 := [(0, .ref a0), (1, .int i1), (2, .int i2), (3, .int i3), (4, .int i4), (5, .int i5)]) (pc2 := 8) (lv2 := [(0, .ref a0), (1, .int i1), (2, .int i2), (3, .int i3), (4, .int i4), (5, .int i5)]) (st1 := []) rfl rfl rfl (fun h4 => ?_) (fun h4 => ?_)
  · exact jt_182_51  a0 i1 i2 i3 i4 i5 w
  · refine sm_seg 1 9 [(0, .ref a0), (1, .int i1), (2, .int i2), (3, .int i3), (4, .int i4), (5, .int i5)] [.int i2] rfl ?_
    refine sm_cS (av := [.int i2]) (rest := []) rfl rfl rfl rfl (Nat.le_of_ble_eq_true rfl) (ca_143 w i2) fun v5 h6 => ?_
    show sm _ _ _ _ 12 [(0, .ref a0), (1, .int i1), (2, .int i2), (3, .int i3), (4, .int i4), (5, .int i5)] [.int (cm_b v5)] _ _
    refine sm_if (pc1 := 51) (lv1 := [(0, .ref a0), (1, .int i1), (2, .int i2), (3, .int i3), (4, .int i4), (5, .int i5)]) (pc2 := 15) (lv2 := [(0, .ref a0), (1, .int i1), (2, .int i2), (3, .int i3), (4, .int i4), (5, .int i5)]) (st1 := []) rfl rfl rfl (fun h7 => ?_) (fun h7 => ?_)
    · exact jt_182_51  a0 i1 i2 i3 i4 i5 w
    · refine sm_seg 1 17 [(0, .ref a0), (1, .int i1), (2, .int i2), (3, .int i3), (4, .int i4), (5, .int i5)] [.int i4] rfl ?_
      refine sm_cS (av := [.int i4]) (rest := []) rfl rfl rfl rfl (Nat.le_of_ble_eq_true rfl) (ca_178 w i4) fun v8 h9 => ?_
      show sm _ _ _ _ 20 [(0, .ref a0), (1, .int i1), (2, .int i2), (3, .int i3), (4, .int i4), (5, .int i5)] [.int (cm_b v8)] _ _
      refine sm_if (pc1 := 51) (lv1 := [(0, .ref a0), (1, .int i1), (2, .int i2), (3, .int i3), (4, .int i4), (5, .int i5)]) (pc2 := 23) (lv2 := [(0, .ref a0), (1, .int i1), (2, .int i2), (3, .int i3), (4, .int i4), (5, .int i5)]) (st1 := []) rfl rfl rfl (fun h10 => ?_) (fun h10 => ?_)
      · exact jt_182_51  a0 i1 i2 i3 i4 i5 w
      · refine sm_seg 1 24 [(0, .ref a0), (1, .int i1), (2, .int i2), (3, .int i3), (4, .int i4), (5, .int i5)] [.int i3] rfl ?_
        refine sm_if (pc1 := 51) (lv1 := [(0, .ref a0), (1, .int i1), (2, .int i2), (3, .int i3), (4, .int i4), (5, .int i5)]) (pc2 := 27) (lv2 := [(0, .ref a0), (1, .int i1), (2, .int i2), (3, .int i3), (4, .int i4), (5, .int i5)]) (st1 := []) rfl rfl rfl (fun h11 => ?_) (fun h11 => ?_)
        · exact jt_182_51  a0 i1 i2 i3 i4 i5 w
        · refine sm_seg 2 31 [(0, .ref a0), (1, .int i1), (2, .int i2), (3, .int i3), (4, .int i4), (5, .int i5)] [.int (999 : Int32), .int i3] rfl ?_
          refine sm_if (pc1 := 51) (lv1 := [(0, .ref a0), (1, .int i1), (2, .int i2), (3, .int i3), (4, .int i4), (5, .int i5)]) (pc2 := 34) (lv2 := [(0, .ref a0), (1, .int i1), (2, .int i2), (3, .int i3), (4, .int i4), (5, .int i5)]) (st1 := []) rfl rfl rfl (fun h12 => ?_) (fun h12 => ?_)
          · exact jt_182_51  a0 i1 i2 i3 i4 i5 w
          · refine sm_seg 2 37 [(0, .ref a0), (1, .int i1), (2, .int i2), (3, .int i3), (4, .int i4), (5, .int i5)] [.int (1 : Int32), .int i5] rfl ?_
            refine sm_if (pc1 := 51) (lv1 := [(0, .ref a0), (1, .int i1), (2, .int i2), (3, .int i3), (4, .int i4), (5, .int i5)]) (pc2 := 40) (lv2 := [(0, .ref a0), (1, .int i1), (2, .int i2), (3, .int i3), (4, .int i4), (5, .int i5)]) (st1 := []) rfl rfl rfl (fun h13 => ?_) (fun h13 => ?_)
            · exact jt_182_51  a0 i1 i2 i3 i4 i5 w
            · refine sm_seg 2 44 [(0, .ref a0), (1, .int i1), (2, .int i2), (3, .int i3), (4, .int i4), (5, .int i5)] [.int (20 : Int32), .int i5] rfl ?_
              refine sm_if (pc1 := 51) (lv1 := [(0, .ref a0), (1, .int i1), (2, .int i2), (3, .int i3), (4, .int i4), (5, .int i5)]) (pc2 := 47) (lv2 := [(0, .ref a0), (1, .int i1), (2, .int i2), (3, .int i3), (4, .int i4), (5, .int i5)]) (st1 := []) rfl rfl rfl (fun h14 => ?_) (fun h14 => ?_)
              · exact jt_182_51  a0 i1 i2 i3 i4 i5 w
              · refine sm_seg 4 56 [(6, .int (1 : Int32)), (0, .ref a0), (1, .int i1), (2, .int i2), (3, .int i3), (4, .int i4), (5, .int i5)] [.int (1 : Int32)] rfl ?_
                refine sm_iff (c := (1 : Int32) = 0) (pc1 := 80) (pc2 := 59) (lv1 := [(6, .int (1 : Int32)), (0, .ref a0), (1, .int i1), (2, .int i2), (3, .int i3), (4, .int i4), (5, .int i5)]) (st1 := []) rfl (by decide) rfl ?_
                refine sm_seg 1 60 [(6, .int (1 : Int32)), (0, .ref a0), (1, .int i1), (2, .int i2), (3, .int i3), (4, .int i4), (5, .int i5)] [.ref a0] rfl ?_
                refine sm_gR rfl h1 rfl rfl fun r15 h16 => ?_
                show sm _ _ _ _ 63 [(6, .int (1 : Int32)), (0, .ref a0), (1, .int i1), (2, .int i2), (3, .int i3), (4, .int i4), (5, .int i5)] [.ref r15] _ _
                refine sm_seg 1 64 [(6, .int (1 : Int32)), (0, .ref a0), (1, .int i1), (2, .int i2), (3, .int i3), (4, .int i4), (5, .int i5)] [.ref a0, .ref r15] rfl ?_
                refine sm_gR rfl h1 rfl rfl fun r17 h18 => ?_
                show sm _ _ _ _ 67 [(6, .int (1 : Int32)), (0, .ref a0), (1, .int i1), (2, .int i2), (3, .int i3), (4, .int i4), (5, .int i5)] [.ref r17, .ref r15] _ _
                refine sm_seg 5 74 [(6, .int (1 : Int32)), (0, .ref a0), (1, .int i1), (2, .int i2), (3, .int i3), (4, .int i4), (5, .int i5)] [.int i5, .int i4, .int i3, .int i2, .int i1, .ref r17, .ref r15] rfl ?_
                refine sm_gd fun h19 => ?_
                refine sm_cV (as := [.ref r17, .int i1, .int i2, .int i3, .int i4, .int i5]) (rest := []) rfl rfl rfl rfl h19 (Nat.le_of_ble_eq_true rfl) (ca_13  r15 r17 i1 i2 i3 i4 i5 w) fun v20 h21 => ?_
                show sm _ _ _ _ 77 [(6, .int (1 : Int32)), (0, .ref a0), (1, .int i1), (2, .int i2), (3, .int i3), (4, .int i4), (5, .int i5)] [.int v20.1] _ _
                refine sm_seg 1 81 [] [.int v20.1] rfl ?_
                exact sm_rIW rfl rfl
theorem ca_182 (a0 : Nat) (i1 : Int32) (i2 : Int32) (i3 : Int32) (i4 : Int32) (i5 : Int32) (w : cm_W) : cm_ca cm_g 182 [.ref a0, .int i1, .int i2, .int i3, .int i4, .int i5] w ((fn_182 a0 i1 i2 i3 i4 i5 w).map cm_gI) := cm_ca_of (cm_me_of rfl rfl) rfl (jt_182_0 a0 i1 i2 i3 i4 i5 w)
-- NailedBoxes.liars(III)I
def fn_183_24 (a0 : Nat) (i1 : Int32) (i2 : Int32) (i3 : Int32) (w : cm_W) : Option (Int32 × cm_W) := (if cm_sh w a0 = some (.inl 10) then (cm_R w a0 13).bind fun r2 => (cm_R w a0 3).bind fun r4 => (if cm_sh w r2 = some (.inl 5) then (fn_88 r2 r4 i1 i2 w).bind fun w7 => (if cm_sh w7 a0 = some (.inl 10) then (cm_R w7 a0 13).bind fun r10 => (if cm_sh w7 r10 = some (.inl 5) then (fn_93 w7 r10 i3).bind fun v13 => some (v13, w7) else none) else none) else none) else none)
theorem jt_183_24 (a0 : Nat) (i1 : Int32) (i2 : Int32) (i3 : Int32) (w : cm_W) : sm cm_g 183 ck_183 kq_183 24 [(0, .ref a0), (1, .int i1), (2, .int i2), (3, .int i3)] [] w ((fn_183_24 a0 i1 i2 i3 w).map cm_gI) := by
  unfold fn_183_24
  refine sm_seg 1 25 [(0, .ref a0), (1, .int i1), (2, .int i2), (3, .int i3)] [.ref a0] rfl ?_
  refine sm_gd fun h1 => ?_
  refine sm_gR rfl h1 rfl rfl fun r2 h3 => ?_
  show sm _ _ _ _ 28 [(0, .ref a0), (1, .int i1), (2, .int i2), (3, .int i3)] [.ref r2] _ _
  refine sm_seg 1 29 [(0, .ref a0), (1, .int i1), (2, .int i2), (3, .int i3)] [.ref a0, .ref r2] rfl ?_
  refine sm_gR rfl h1 rfl rfl fun r4 h5 => ?_
  show sm _ _ _ _ 32 [(0, .ref a0), (1, .int i1), (2, .int i2), (3, .int i3)] [.ref r4, .ref r2] _ _
  refine sm_seg 2 34 [(0, .ref a0), (1, .int i1), (2, .int i2), (3, .int i3)] [.int i2, .int i1, .ref r4, .ref r2] rfl ?_
  refine sm_gd fun h6 => ?_
  refine sm_cV (as := [.ref r4, .int i1, .int i2]) (rest := []) rfl rfl rfl rfl h6 (Nat.le_of_ble_eq_true rfl) (ca_88  r2 r4 i1 i2 w) fun w7 h8 => ?_
  show sm _ _ _ _ 37 [(0, .ref a0), (1, .int i1), (2, .int i2), (3, .int i3)] [] _ _
  refine sm_seg 1 38 [(0, .ref a0), (1, .int i1), (2, .int i2), (3, .int i3)] [.ref a0] rfl ?_
  refine sm_gd fun h9 => ?_
  refine sm_gR rfl h9 rfl rfl fun r10 h11 => ?_
  show sm _ _ _ _ 41 [(0, .ref a0), (1, .int i1), (2, .int i2), (3, .int i3)] [.ref r10] _ _
  refine sm_seg 1 42 [(0, .ref a0), (1, .int i1), (2, .int i2), (3, .int i3)] [.int i3, .ref r10] rfl ?_
  refine sm_gd fun h12 => ?_
  refine sm_cV (as := [.int i3]) (rest := []) rfl rfl rfl rfl h12 (Nat.le_of_ble_eq_true rfl) (ca_93 w7 r10 i3) fun v13 h14 => ?_
  show sm _ _ _ _ 45 [(0, .ref a0), (1, .int i1), (2, .int i2), (3, .int i3)] [.int v13] _ _
  exact sm_rIW rfl rfl
def fn_183 (a0 : Nat) (i1 : Int32) (i2 : Int32) (i3 : Int32) (w : cm_W) : Option (Int32 × cm_W) := (if cm_sh w a0 = some (.inl 10) then (fn_177 w a0 i1).bind fun v16 => (if (cm_b v16) = 0 then some ((-1 : Int32), w) else (fn_143 w i2).bind fun v19 => (if (cm_b v19) = 0 then some ((-1 : Int32), w) else (fn_178 w i3).bind fun v22 => (if ¬ (cm_b v22) = 0 then fn_183_24  a0 i1 i2 i3 w else some ((-1 : Int32), w)))) else none)
theorem jt_183_0 (a0 : Nat) (i1 : Int32) (i2 : Int32) (i3 : Int32) (w : cm_W) : sm cm_g 183 ck_183 kq_183 0 [(0, .ref a0), (1, .int i1), (2, .int i2), (3, .int i3)] [] w ((fn_183 a0 i1 i2 i3 w).map cm_gI) := by
  unfold fn_183
  refine sm_seg 2 2 [(0, .ref a0), (1, .int i1), (2, .int i2), (3, .int i3)] [.int i1, .ref a0] rfl ?_
  refine sm_gd fun h15 => ?_
  refine sm_cV (as := [.int i1]) (rest := []) rfl rfl rfl rfl h15 (Nat.le_of_ble_eq_true rfl) (ca_177 w a0 i1) fun v16 h17 => ?_
  show sm _ _ _ _ 5 [(0, .ref a0), (1, .int i1), (2, .int i2), (3, .int i3)] [.int (cm_b v16)] _ _
  refine sm_if (pc1 := 22) (lv1 := []) (pc2 := 8) (lv2 := [(0, .ref a0), (1, .int i1), (2, .int i2), (3, .int i3)]) (st1 := []) rfl rfl rfl (fun h18 => ?_) (fun h18 => ?_)
  · refine sm_seg 1 23 [] [.int (-1 : Int32)] rfl ?_
    exact sm_rIW rfl rfl
  · refine sm_seg 1 9 [(0, .ref a0), (1, .int i1), (2, .int i2), (3, .int i3)] [.int i2] rfl ?_
    refine sm_cS (av := [.int i2]) (rest := []) rfl rfl rfl rfl (Nat.le_of_ble_eq_true rfl) (ca_143 w i2) fun v19 h20 => ?_
    show sm _ _ _ _ 12 [(0, .ref a0), (1, .int i1), (2, .int i2), (3, .int i3)] [.int (cm_b v19)] _ _
    refine sm_if (pc1 := 22) (lv1 := []) (pc2 := 15) (lv2 := [(0, .ref a0), (1, .int i1), (2, .int i2), (3, .int i3)]) (st1 := []) rfl rfl rfl (fun h21 => ?_) (fun h21 => ?_)
    · refine sm_seg 1 23 [] [.int (-1 : Int32)] rfl ?_
      exact sm_rIW rfl rfl
    · refine sm_seg 1 16 [(0, .ref a0), (1, .int i1), (2, .int i2), (3, .int i3)] [.int i3] rfl ?_
      refine sm_cS (av := [.int i3]) (rest := []) rfl rfl rfl rfl (Nat.le_of_ble_eq_true rfl) (ca_178 w i3) fun v22 h23 => ?_
      show sm _ _ _ _ 19 [(0, .ref a0), (1, .int i1), (2, .int i2), (3, .int i3)] [.int (cm_b v22)] _ _
      refine sm_if (pc1 := 24) (lv1 := [(0, .ref a0), (1, .int i1), (2, .int i2), (3, .int i3)]) (pc2 := 22) (lv2 := []) (st1 := []) rfl rfl rfl (fun h24 => ?_) (fun h24 => ?_)
      · exact jt_183_24  a0 i1 i2 i3 w
      · refine sm_seg 1 23 [] [.int (-1 : Int32)] rfl ?_
        exact sm_rIW rfl rfl
theorem ca_183 (a0 : Nat) (i1 : Int32) (i2 : Int32) (i3 : Int32) (w : cm_W) : cm_ca cm_g 183 [.ref a0, .int i1, .int i2, .int i3] w ((fn_183 a0 i1 i2 i3 w).map cm_gI) := cm_ca_of (cm_me_of rfl rfl) rfl (jt_183_0 a0 i1 i2 i3 w)
-- NailedBoxes.honest(III)I
def fn_184_44 (a0 : Nat) (i3 : Int32) (w : cm_W) : Option (Int32 × cm_W) := (if ¬ i3 = (1 : Int32) then some ((-1 : Int32), w) else (if cm_sh w a0 = some (.inl 10) then (cm_R w a0 13).bind fun r3 => (if cm_sh w r3 = some (.inl 5) then some ((cm_I w r3 2), w) else none) else none))
theorem jt_184_44 (a0 : Nat) (i3 : Int32) (w : cm_W) : sm cm_g 184 ck_184 kq_184 44 [(0, .ref a0), (3, .int i3)] [] w ((fn_184_44 a0 i3 w).map cm_gI) := by
  unfold fn_184_44
  refine sm_seg 2 46 [(0, .ref a0), (3, .int i3)] [.int (1 : Int32), .int i3] rfl ?_
  refine sm_if (pc1 := 59) (lv1 := []) (pc2 := 49) (lv2 := [(0, .ref a0), (3, .int i3)]) (st1 := []) rfl rfl rfl (fun h1 => ?_) (fun h1 => ?_)
  · refine sm_seg 1 60 [] [.int (-1 : Int32)] rfl ?_
    exact sm_rIW rfl rfl
  · refine sm_seg 1 50 [(0, .ref a0), (3, .int i3)] [.ref a0] rfl ?_
    refine sm_gd fun h2 => ?_
    refine sm_gR rfl h2 rfl rfl fun r3 h4 => ?_
    show sm _ _ _ _ 53 [(0, .ref a0), (3, .int i3)] [.ref r3] _ _
    refine sm_gd fun h5 => ?_
    refine sm_gI rfl h5 rfl ?_
    show sm _ _ _ _ 56 [(0, .ref a0), (3, .int i3)] [.int (cm_I w r3 2)] _ _
    refine sm_seg 1 60 [] [.int (cm_I w r3 2)] rfl ?_
    exact sm_rIW rfl rfl
def fn_184_17 (a0 : Nat) (i1 : Int32) (i2 : Int32) (i3 : Int32) (w : cm_W) : Option (Int32 × cm_W) := (if cm_sh w a0 = some (.inl 10) then (cm_R w a0 13).bind fun r7 => (cm_R w a0 3).bind fun r9 => (if cm_sh w r7 = some (.inl 5) then (fn_88 r7 r9 i1 i2 w).bind fun w12 => (if ¬ i3 = 0 then fn_184_44  a0 i3 w12 else (if cm_sh w12 a0 = some (.inl 10) then (cm_R w12 a0 13).bind fun r16 => (if cm_sh w12 r16 = some (.inl 5) then (fn_90 w12 r16).bind fun v19 => some (v19, w12) else none) else none)) else none) else none)
theorem jt_184_17 (a0 : Nat) (i1 : Int32) (i2 : Int32) (i3 : Int32) (w : cm_W) : sm cm_g 184 ck_184 kq_184 17 [(0, .ref a0), (1, .int i1), (2, .int i2), (3, .int i3)] [] w ((fn_184_17 a0 i1 i2 i3 w).map cm_gI) := by
  unfold fn_184_17
  refine sm_seg 1 18 [(0, .ref a0), (1, .int i1), (2, .int i2), (3, .int i3)] [.ref a0] rfl ?_
  refine sm_gd fun h6 => ?_
  refine sm_gR rfl h6 rfl rfl fun r7 h8 => ?_
  show sm _ _ _ _ 21 [(0, .ref a0), (1, .int i1), (2, .int i2), (3, .int i3)] [.ref r7] _ _
  refine sm_seg 1 22 [(0, .ref a0), (1, .int i1), (2, .int i2), (3, .int i3)] [.ref a0, .ref r7] rfl ?_
  refine sm_gR rfl h6 rfl rfl fun r9 h10 => ?_
  show sm _ _ _ _ 25 [(0, .ref a0), (1, .int i1), (2, .int i2), (3, .int i3)] [.ref r9, .ref r7] _ _
  refine sm_seg 2 27 [(0, .ref a0), (1, .int i1), (2, .int i2), (3, .int i3)] [.int i2, .int i1, .ref r9, .ref r7] rfl ?_
  refine sm_gd fun h11 => ?_
  refine sm_cV (as := [.ref r9, .int i1, .int i2]) (rest := []) rfl rfl rfl rfl h11 (Nat.le_of_ble_eq_true rfl) (ca_88  r7 r9 i1 i2 w) fun w12 h13 => ?_
  show sm _ _ _ _ 30 [(0, .ref a0), (1, .int i1), (2, .int i2), (3, .int i3)] [] _ _
  refine sm_seg 1 31 [(0, .ref a0), (1, .int i1), (2, .int i2), (3, .int i3)] [.int i3] rfl ?_
  refine sm_if (pc1 := 44) (lv1 := [(0, .ref a0), (3, .int i3)]) (pc2 := 34) (lv2 := [(0, .ref a0), (1, .int i1), (2, .int i2), (3, .int i3)]) (st1 := []) rfl rfl rfl (fun h14 => ?_) (fun h14 => ?_)
  · exact jt_184_44  a0 i3 w12
  · refine sm_seg 1 35 [(0, .ref a0), (1, .int i1), (2, .int i2), (3, .int i3)] [.ref a0] rfl ?_
    refine sm_gd fun h15 => ?_
    refine sm_gR rfl h15 rfl rfl fun r16 h17 => ?_
    show sm _ _ _ _ 38 [(0, .ref a0), (1, .int i1), (2, .int i2), (3, .int i3)] [.ref r16] _ _
    refine sm_gd fun h18 => ?_
    refine sm_cV (as := []) (rest := []) rfl rfl rfl rfl h18 (Nat.le_of_ble_eq_true rfl) (ca_90 w12 r16) fun v19 h20 => ?_
    show sm _ _ _ _ 41 [(0, .ref a0), (1, .int i1), (2, .int i2), (3, .int i3)] [.int v19] _ _
    refine sm_seg 1 60 [] [.int v19] rfl ?_
    exact sm_rIW rfl rfl
def fn_184 (a0 : Nat) (i1 : Int32) (i2 : Int32) (i3 : Int32) (w : cm_W) : Option (Int32 × cm_W) := (if cm_sh w a0 = some (.inl 10) then (fn_177 w a0 i1).bind fun v22 => (if (cm_b v22) = 0 then some ((-1 : Int32), w) else (fn_143 w i2).bind fun v25 => (if ¬ (cm_b v25) = 0 then fn_184_17  a0 i1 i2 i3 w else some ((-1 : Int32), w))) else none)
theorem jt_184_0 (a0 : Nat) (i1 : Int32) (i2 : Int32) (i3 : Int32) (w : cm_W) : sm cm_g 184 ck_184 kq_184 0 [(0, .ref a0), (1, .int i1), (2, .int i2), (3, .int i3)] [] w ((fn_184 a0 i1 i2 i3 w).map cm_gI) := by
  unfold fn_184
  refine sm_seg 2 2 [(0, .ref a0), (1, .int i1), (2, .int i2), (3, .int i3)] [.int i1, .ref a0] rfl ?_
  refine sm_gd fun h21 => ?_
  refine sm_cV (as := [.int i1]) (rest := []) rfl rfl rfl rfl h21 (Nat.le_of_ble_eq_true rfl) (ca_177 w a0 i1) fun v22 h23 => ?_
  show sm _ _ _ _ 5 [(0, .ref a0), (1, .int i1), (2, .int i2), (3, .int i3)] [.int (cm_b v22)] _ _
  refine sm_if (pc1 := 15) (lv1 := []) (pc2 := 8) (lv2 := [(0, .ref a0), (1, .int i1), (2, .int i2), (3, .int i3)]) (st1 := []) rfl rfl rfl (fun h24 => ?_) (fun h24 => ?_)
  · refine sm_seg 1 16 [] [.int (-1 : Int32)] rfl ?_
    exact sm_rIW rfl rfl
  · refine sm_seg 1 9 [(0, .ref a0), (1, .int i1), (2, .int i2), (3, .int i3)] [.int i2] rfl ?_
    refine sm_cS (av := [.int i2]) (rest := []) rfl rfl rfl rfl (Nat.le_of_ble_eq_true rfl) (ca_143 w i2) fun v25 h26 => ?_
    show sm _ _ _ _ 12 [(0, .ref a0), (1, .int i1), (2, .int i2), (3, .int i3)] [.int (cm_b v25)] _ _
    refine sm_if (pc1 := 17) (lv1 := [(0, .ref a0), (1, .int i1), (2, .int i2), (3, .int i3)]) (pc2 := 15) (lv2 := []) (st1 := []) rfl rfl rfl (fun h27 => ?_) (fun h27 => ?_)
    · exact jt_184_17  a0 i1 i2 i3 w
    · refine sm_seg 1 16 [] [.int (-1 : Int32)] rfl ?_
      exact sm_rIW rfl rfl
theorem ca_184 (a0 : Nat) (i1 : Int32) (i2 : Int32) (i3 : Int32) (w : cm_W) : cm_ca cm_g 184 [.ref a0, .int i1, .int i2, .int i3] w ((fn_184 a0 i1 i2 i3 w).map cm_gI) := cm_ca_of (cm_me_of rfl rfl) rfl (jt_184_0 a0 i1 i2 i3 w)
-- NailedBoxes.commonDivisor(II)I
def fn_185_34 (w : cm_W) (i2 : Int32) : Option Int32 := some (if (1 : Int32) < i2 then i2 else (1 : Int32))
theorem jt_185_34 (w : cm_W) (i2 : Int32) : sm cm_g 185 ck_185 kq_185 34 [(2, .int i2)] [] w ((fn_185_34 w i2).map (cm_fI w)) := by
  unfold fn_185_34
  refine sm_seg 2 36 [(2, .int i2)] [.int i2, .int (1 : Int32)] rfl ?_
  refine sm_at rfl rfl rfl ?_
  show sm _ _ _ _ 39 [(2, .int i2)] [.int (if (1 : Int32) < i2 then i2 else (1 : Int32))] _ _
  exact sm_rI rfl rfl
def fn_185_7 (w : cm_W) : Nat → Int32 → Int32 → Int32 → Option Int32
  | 0, _, _, _ => none
  | n + 1, i2, i3, i4 => (if (100 : Int32) ≤ i4 then fn_185_34 w i2 else (if i3 = 0 then fn_185_34 w i2 else (if ¬ i3 = 0 then fn_185_7 w n i3 (i2 - i2 / i3 * i3) (i4 + (1 : Int32)) else none)))
theorem jt_185_7 (w : cm_W) : ∀ (n : Nat) (i2 : Int32) (i3 : Int32) (i4 : Int32), sm cm_g 185 ck_185 kq_185 7 [(2, .int i2), (3, .int i3), (4, .int i4)] [] w ((fn_185_7 w n i2 i3 i4).map (cm_fI w)) := by
  intro n
  induction n with
  | zero => intro i2 i3 i4; exact sm_no
  | succ n ih =>
    intro i2 i3 i4
    rw [fn_185_7]
    refine sm_seg 2 11 [(2, .int i2), (3, .int i3), (4, .int i4)] [.int (100 : Int32), .int i4] rfl ?_
    refine sm_if (pc1 := 34) (lv1 := [(2, .int i2)]) (pc2 := 14) (lv2 := [(2, .int i2), (3, .int i3), (4, .int i4)]) (st1 := []) rfl rfl rfl (fun h1 => ?_) (fun h1 => ?_)
    · exact jt_185_34 w i2
    · refine sm_seg 1 15 [(2, .int i2), (3, .int i3), (4, .int i4)] [.int i3] rfl ?_
      refine sm_if (pc1 := 34) (lv1 := [(2, .int i2)]) (pc2 := 18) (lv2 := [(2, .int i2), (3, .int i3), (4, .int i4)]) (st1 := []) rfl rfl rfl (fun h2 => ?_) (fun h2 => ?_)
      · exact jt_185_34 w i2
      · refine sm_seg 2 20 [(2, .int i2), (3, .int i3), (4, .int i4)] [.int i3, .int i2] rfl ?_
        refine sm_gd fun h3 => ?_
        refine sm_irem rfl h3 rfl ?_
        show sm _ _ _ _ 21 [(2, .int i2), (3, .int i3), (4, .int i4)] [.int (i2 - i2 / i3 * i3)] _ _
        refine sm_seg 7 7 [(2, .int i3), (3, .int (i2 - i2 / i3 * i3)), (4, .int (i4 + (1 : Int32)))] [] rfl ?_
        exact ih i3 (i2 - i2 / i3 * i3) (i4 + (1 : Int32))
def fn_185 (w : cm_W) (i0 : Int32) (i1 : Int32) : Option Int32 := fn_185_7 w cm_N i0 i1 (0 : Int32)
theorem jt_185_0 (w : cm_W) (i0 : Int32) (i1 : Int32) : sm cm_g 185 ck_185 kq_185 0 [(0, .int i0), (1, .int i1)] [] w ((fn_185 w i0 i1).map (cm_fI w)) := by
  unfold fn_185
  refine sm_seg 6 7 [(2, .int i0), (3, .int i1), (4, .int (0 : Int32))] [] rfl ?_
  exact jt_185_7 w cm_N i0 i1 (0 : Int32)
theorem ca_185 (w : cm_W) (i0 : Int32) (i1 : Int32) : cm_ca cm_g 185 [.int i0, .int i1] w ((fn_185 w i0 i1).map (cm_fI w)) := cm_ca_of (cm_me_of rfl rfl) rfl (jt_185_0 w i0 i1)
-- NailedBoxes.name(III)I
def fn_186_86 (i3 : Int32) (i6 : Int32) (i7 : Int32) (w : cm_W) : Option (Int32 × cm_W) := (if ¬ i3 = (1 : Int32) then some ((-1 : Int32), w) else (if ¬ i7 = 0 then some ((i6 / i7), w) else none))
theorem jt_186_86 (i3 : Int32) (i6 : Int32) (i7 : Int32) (w : cm_W) : sm cm_g 186 ck_186 kq_186 86 [(3, .int i3), (6, .int i6), (7, .int i7)] [] w ((fn_186_86 i3 i6 i7 w).map cm_gI) := by
  unfold fn_186_86
  refine sm_seg 2 88 [(3, .int i3), (6, .int i6), (7, .int i7)] [.int (1 : Int32), .int i3] rfl ?_
  refine sm_if (pc1 := 99) (lv1 := []) (pc2 := 91) (lv2 := [(3, .int i3), (6, .int i6), (7, .int i7)]) (st1 := []) rfl rfl rfl (fun h1 => ?_) (fun h1 => ?_)
  · refine sm_seg 1 100 [] [.int (-1 : Int32)] rfl ?_
    exact sm_rIW rfl rfl
  · refine sm_seg 2 95 [(3, .int i3), (6, .int i6), (7, .int i7)] [.int i7, .int i6] rfl ?_
    refine sm_gd fun h2 => ?_
    refine sm_idiv rfl h2 rfl ?_
    show sm _ _ _ _ 96 [(3, .int i3), (6, .int i6), (7, .int i7)] [.int (i6 / i7)] _ _
    refine sm_seg 1 100 [] [.int (i6 / i7)] rfl ?_
    exact sm_rIW rfl rfl
def fn_186_20 (a0 : Nat) (i1 : Int32) (i2 : Int32) (i3 : Int32) (w : cm_W) : Option (Int32 × cm_W) := (if cm_sh w a0 = some (.inl 10) then (cm_R w a0 12).bind fun r4 => (cm_R w a0 3).bind fun r6 => (if cm_sh w r4 = some (.inl 3) then (fn_42 r4 r6 i1 (0 : Int32) w).bind fun v9 => (if cm_sh v9.2 a0 = some (.inl 10) then (cm_R v9.2 a0 12).bind fun r12 => (cm_R v9.2 a0 3).bind fun r14 => (if cm_sh v9.2 r12 = some (.inl 3) then (fn_43 r12 r14 (0 : Int32) v9.2).bind fun v17 => (fn_185 v17.2 ((10 : Int32) * (if (0 : Int32) < (v9.1 - v17.1) then (v9.1 - v17.1) else (0 : Int32))) ((10 : Int32) - i2)).bind fun v19 => (if ¬ i3 = 0 then fn_186_86  i3 ((10 : Int32) - i2) v19 v17.2 else (if ¬ v19 = 0 then some ((((10 : Int32) * (if (0 : Int32) < (v9.1 - v17.1) then (v9.1 - v17.1) else (0 : Int32))) / v19), v17.2) else none)) else none) else none) else none) else none)
theorem jt_186_20 (a0 : Nat) (i1 : Int32) (i2 : Int32) (i3 : Int32) (w : cm_W) : sm cm_g 186 ck_186 kq_186 20 [(0, .ref a0), (1, .int i1), (2, .int i2), (3, .int i3)] [] w ((fn_186_20 a0 i1 i2 i3 w).map cm_gI) := by
  unfold fn_186_20
  refine sm_seg 2 22 [(0, .ref a0), (1, .int i1), (2, .int i2), (3, .int i3)] [.ref a0, .int (0 : Int32)] rfl ?_
  refine sm_gd fun h3 => ?_
  refine sm_gR rfl h3 rfl rfl fun r4 h5 => ?_
  show sm _ _ _ _ 25 [(0, .ref a0), (1, .int i1), (2, .int i2), (3, .int i3)] [.ref r4, .int (0 : Int32)] _ _
  refine sm_seg 1 26 [(0, .ref a0), (1, .int i1), (2, .int i2), (3, .int i3)] [.ref a0, .ref r4, .int (0 : Int32)] rfl ?_
  refine sm_gR rfl h3 rfl rfl fun r6 h7 => ?_
  show sm _ _ _ _ 29 [(0, .ref a0), (1, .int i1), (2, .int i2), (3, .int i3)] [.ref r6, .ref r4, .int (0 : Int32)] _ _
  refine sm_seg 2 31 [(0, .ref a0), (1, .int i1), (2, .int i2), (3, .int i3)] [.int (0 : Int32), .int i1, .ref r6, .ref r4, .int (0 : Int32)] rfl ?_
  refine sm_gd fun h8 => ?_
  refine sm_cV (as := [.ref r6, .int i1, .int (0 : Int32)]) (rest := [.int (0 : Int32)]) rfl rfl rfl rfl h8 (Nat.le_of_ble_eq_true rfl) (ca_42  r4 r6 i1 (0 : Int32) w) fun v9 h10 => ?_
  show sm _ _ _ _ 34 [(0, .ref a0), (1, .int i1), (2, .int i2), (3, .int i3)] [.int v9.1, .int (0 : Int32)] _ _
  refine sm_seg 1 35 [(0, .ref a0), (1, .int i1), (2, .int i2), (3, .int i3)] [.ref a0, .int v9.1, .int (0 : Int32)] rfl ?_
  refine sm_gd fun h11 => ?_
  refine sm_gR rfl h11 rfl rfl fun r12 h13 => ?_
  show sm _ _ _ _ 38 [(0, .ref a0), (1, .int i1), (2, .int i2), (3, .int i3)] [.ref r12, .int v9.1, .int (0 : Int32)] _ _
  refine sm_seg 1 39 [(0, .ref a0), (1, .int i1), (2, .int i2), (3, .int i3)] [.ref a0, .ref r12, .int v9.1, .int (0 : Int32)] rfl ?_
  refine sm_gR rfl h11 rfl rfl fun r14 h15 => ?_
  show sm _ _ _ _ 42 [(0, .ref a0), (1, .int i1), (2, .int i2), (3, .int i3)] [.ref r14, .ref r12, .int v9.1, .int (0 : Int32)] _ _
  refine sm_seg 1 43 [(0, .ref a0), (1, .int i1), (2, .int i2), (3, .int i3)] [.int (0 : Int32), .ref r14, .ref r12, .int v9.1, .int (0 : Int32)] rfl ?_
  refine sm_gd fun h16 => ?_
  refine sm_cV (as := [.ref r14, .int (0 : Int32)]) (rest := [.int v9.1, .int (0 : Int32)]) rfl rfl rfl rfl h16 (Nat.le_of_ble_eq_true rfl) (ca_43  r12 r14 (0 : Int32) v9.2) fun v17 h18 => ?_
  show sm _ _ _ _ 46 [(0, .ref a0), (1, .int i1), (2, .int i2), (3, .int i3)] [.int v17.1, .int v9.1, .int (0 : Int32)] _ _
  refine sm_seg 1 47 [(0, .ref a0), (1, .int i1), (2, .int i2), (3, .int i3)] [.int (v9.1 - v17.1), .int (0 : Int32)] rfl ?_
  refine sm_at rfl rfl rfl ?_
  show sm _ _ _ _ 50 [(0, .ref a0), (1, .int i1), (2, .int i2), (3, .int i3)] [.int (if (0 : Int32) < (v9.1 - v17.1) then (v9.1 - v17.1) else (0 : Int32))] _ _
  refine sm_seg 11 69 [(6, .int ((10 : Int32) - i2)), (5, .int ((10 : Int32) * (if (0 : Int32) < (v9.1 - v17.1) then (v9.1 - v17.1) else (0 : Int32)))), (4, .int (if (0 : Int32) < (v9.1 - v17.1) then (v9.1 - v17.1) else (0 : Int32))), (0, .ref a0), (1, .int i1), (2, .int i2), (3, .int i3)] [.int ((10 : Int32) - i2), .int ((10 : Int32) * (if (0 : Int32) < (v9.1 - v17.1) then (v9.1 - v17.1) else (0 : Int32)))] rfl ?_
  refine sm_cS (av := [.int ((10 : Int32) * (if (0 : Int32) < (v9.1 - v17.1) then (v9.1 - v17.1) else (0 : Int32))), .int ((10 : Int32) - i2)]) (rest := []) rfl rfl rfl rfl (Nat.le_of_ble_eq_true rfl) (ca_185 v17.2 ((10 : Int32) * (if (0 : Int32) < (v9.1 - v17.1) then (v9.1 - v17.1) else (0 : Int32))) ((10 : Int32) - i2)) fun v19 h20 => ?_
  show sm _ _ _ _ 72 [(6, .int ((10 : Int32) - i2)), (5, .int ((10 : Int32) * (if (0 : Int32) < (v9.1 - v17.1) then (v9.1 - v17.1) else (0 : Int32)))), (4, .int (if (0 : Int32) < (v9.1 - v17.1) then (v9.1 - v17.1) else (0 : Int32))), (0, .ref a0), (1, .int i1), (2, .int i2), (3, .int i3)] [.int v19] _ _
  refine sm_seg 2 75 [(7, .int v19), (6, .int ((10 : Int32) - i2)), (5, .int ((10 : Int32) * (if (0 : Int32) < (v9.1 - v17.1) then (v9.1 - v17.1) else (0 : Int32)))), (4, .int (if (0 : Int32) < (v9.1 - v17.1) then (v9.1 - v17.1) else (0 : Int32))), (0, .ref a0), (1, .int i1), (2, .int i2), (3, .int i3)] [.int i3] rfl ?_
  refine sm_if (pc1 := 86) (lv1 := [(3, .int i3), (6, .int ((10 : Int32) - i2)), (7, .int v19)]) (pc2 := 78) (lv2 := [(7, .int v19), (6, .int ((10 : Int32) - i2)), (5, .int ((10 : Int32) * (if (0 : Int32) < (v9.1 - v17.1) then (v9.1 - v17.1) else (0 : Int32)))), (4, .int (if (0 : Int32) < (v9.1 - v17.1) then (v9.1 - v17.1) else (0 : Int32))), (0, .ref a0), (1, .int i1), (2, .int i2), (3, .int i3)]) (st1 := []) rfl rfl rfl (fun h21 => ?_) (fun h21 => ?_)
  · exact jt_186_86  i3 ((10 : Int32) - i2) v19 v17.2
  · refine sm_seg 2 82 [(7, .int v19), (6, .int ((10 : Int32) - i2)), (5, .int ((10 : Int32) * (if (0 : Int32) < (v9.1 - v17.1) then (v9.1 - v17.1) else (0 : Int32)))), (4, .int (if (0 : Int32) < (v9.1 - v17.1) then (v9.1 - v17.1) else (0 : Int32))), (0, .ref a0), (1, .int i1), (2, .int i2), (3, .int i3)] [.int v19, .int ((10 : Int32) * (if (0 : Int32) < (v9.1 - v17.1) then (v9.1 - v17.1) else (0 : Int32)))] rfl ?_
    refine sm_gd fun h22 => ?_
    refine sm_idiv rfl h22 rfl ?_
    show sm _ _ _ _ 83 [(7, .int v19), (6, .int ((10 : Int32) - i2)), (5, .int ((10 : Int32) * (if (0 : Int32) < (v9.1 - v17.1) then (v9.1 - v17.1) else (0 : Int32)))), (4, .int (if (0 : Int32) < (v9.1 - v17.1) then (v9.1 - v17.1) else (0 : Int32))), (0, .ref a0), (1, .int i1), (2, .int i2), (3, .int i3)] [.int (((10 : Int32) * (if (0 : Int32) < (v9.1 - v17.1) then (v9.1 - v17.1) else (0 : Int32))) / v19)] _ _
    refine sm_seg 1 100 [] [.int (((10 : Int32) * (if (0 : Int32) < (v9.1 - v17.1) then (v9.1 - v17.1) else (0 : Int32))) / v19)] rfl ?_
    exact sm_rIW rfl rfl
def fn_186 (a0 : Nat) (i1 : Int32) (i2 : Int32) (i3 : Int32) (w : cm_W) : Option (Int32 × cm_W) := (if cm_sh w a0 = some (.inl 10) then (fn_177 w a0 i1).bind fun v24 => (if (cm_b v24) = 0 then some ((-1 : Int32), w) else (if i2 < 0 then some ((-1 : Int32), w) else (if i2 ≤ (9 : Int32) then fn_186_20  a0 i1 i2 i3 w else some ((-1 : Int32), w)))) else none)
theorem jt_186_0 (a0 : Nat) (i1 : Int32) (i2 : Int32) (i3 : Int32) (w : cm_W) : sm cm_g 186 ck_186 kq_186 0 [(0, .ref a0), (1, .int i1), (2, .int i2), (3, .int i3)] [] w ((fn_186 a0 i1 i2 i3 w).map cm_gI) := by
  unfold fn_186
  refine sm_seg 2 2 [(0, .ref a0), (1, .int i1), (2, .int i2), (3, .int i3)] [.int i1, .ref a0] rfl ?_
  refine sm_gd fun h23 => ?_
  refine sm_cV (as := [.int i1]) (rest := []) rfl rfl rfl rfl h23 (Nat.le_of_ble_eq_true rfl) (ca_177 w a0 i1) fun v24 h25 => ?_
  show sm _ _ _ _ 5 [(0, .ref a0), (1, .int i1), (2, .int i2), (3, .int i3)] [.int (cm_b v24)] _ _
  refine sm_if (pc1 := 18) (lv1 := []) (pc2 := 8) (lv2 := [(0, .ref a0), (1, .int i1), (2, .int i2), (3, .int i3)]) (st1 := []) rfl rfl rfl (fun h26 => ?_) (fun h26 => ?_)
  · refine sm_seg 1 19 [] [.int (-1 : Int32)] rfl ?_
    exact sm_rIW rfl rfl
  · refine sm_seg 1 9 [(0, .ref a0), (1, .int i1), (2, .int i2), (3, .int i3)] [.int i2] rfl ?_
    refine sm_if (pc1 := 18) (lv1 := []) (pc2 := 12) (lv2 := [(0, .ref a0), (1, .int i1), (2, .int i2), (3, .int i3)]) (st1 := []) rfl rfl rfl (fun h27 => ?_) (fun h27 => ?_)
    · refine sm_seg 1 19 [] [.int (-1 : Int32)] rfl ?_
      exact sm_rIW rfl rfl
    · refine sm_seg 2 15 [(0, .ref a0), (1, .int i1), (2, .int i2), (3, .int i3)] [.int (9 : Int32), .int i2] rfl ?_
      refine sm_if (pc1 := 20) (lv1 := [(0, .ref a0), (1, .int i1), (2, .int i2), (3, .int i3)]) (pc2 := 18) (lv2 := []) (st1 := []) rfl rfl rfl (fun h28 => ?_) (fun h28 => ?_)
      · exact jt_186_20  a0 i1 i2 i3 w
      · refine sm_seg 1 19 [] [.int (-1 : Int32)] rfl ?_
        exact sm_rIW rfl rfl
theorem ca_186 (a0 : Nat) (i1 : Int32) (i2 : Int32) (i3 : Int32) (w : cm_W) : cm_ca cm_g 186 [.ref a0, .int i1, .int i2, .int i3] w ((fn_186 a0 i1 i2 i3 w).map cm_gI) := cm_ca_of (cm_me_of rfl rfl) rfl (jt_186_0 a0 i1 i2 i3 w)
-- NailedBoxes.fill(IIII)I
def fn_187_90 (k_25 : Nat → Int32 → Int32 → Int32 → Int32 → Int32 → Int32 → Int32 → cm_W → Option (Int32 × cm_W)) (a0 : Nat) (i1 : Int32) (i2 : Int32) (i3 : Int32) (i4 : Int32) (i5 : Int32) (i6 : Int32) (i7 : Int32) (w : cm_W) : Option (Int32 × cm_W) := k_25 a0 i1 i2 i3 i4 i5 i6 (i7 + (1 : Int32)) w
theorem jt_187_90 (k_25 : Nat → Int32 → Int32 → Int32 → Int32 → Int32 → Int32 → Int32 → cm_W → Option (Int32 × cm_W)) (hk_25 : ∀ (a0 : Nat) (i1 : Int32) (i2 : Int32) (i3 : Int32) (i4 : Int32) (i5 : Int32) (i6 : Int32) (i7 : Int32) (w : cm_W), sm cm_g 187 ck_187 kq_187 25 [(0, .ref a0), (1, .int i1), (2, .int i2), (3, .int i3), (4, .int i4), (5, .int i5), (6, .int i6), (7, .int i7)] [] w ((k_25 a0 i1 i2 i3 i4 i5 i6 i7 w).map cm_gI)) (a0 : Nat) (i1 : Int32) (i2 : Int32) (i3 : Int32) (i4 : Int32) (i5 : Int32) (i6 : Int32) (i7 : Int32) (w : cm_W) : sm cm_g 187 ck_187 kq_187 90 [(0, .ref a0), (1, .int i1), (2, .int i2), (3, .int i3), (4, .int i4), (5, .int i5), (6, .int i6), (7, .int i7)] [] w ((fn_187_90 k_25 a0 i1 i2 i3 i4 i5 i6 i7 w).map cm_gI) := by
  unfold fn_187_90
  refine sm_seg 2 25 [(0, .ref a0), (1, .int i1), (2, .int i2), (3, .int i3), (4, .int i4), (5, .int i5), (6, .int i6), (7, .int (i7 + (1 : Int32)))] [] rfl ?_
  exact hk_25 a0 i1 i2 i3 i4 i5 i6 (i7 + (1 : Int32)) w
def fn_187_57 (k_25 : Nat → Int32 → Int32 → Int32 → Int32 → Int32 → Int32 → Int32 → cm_W → Option (Int32 × cm_W)) (a0 : Nat) (i1 : Int32) (i2 : Int32) (i3 : Int32) (i4 : Int32) (i5 : Int32) (i6 : Int32) (i7 : Int32) (w : cm_W) : Option (Int32 × cm_W) := (if cm_sh w a0 = some (.inl 10) then (cm_R w a0 12).bind fun r2 => (cm_R w a0 3).bind fun r4 => (if cm_sh w r2 = some (.inl 3) then (fn_53 r2 r4 i2 i1 i7 i3 w).bind fun v7 => (if v7.1 ≤ i6 then fn_187_90  k_25 a0 i1 i2 i3 i4 i5 i6 i7 v7.2 else fn_187_90  k_25 a0 i1 i2 i3 i4 i7 v7.1 i7 v7.2) else none) else none)
theorem jt_187_57 (k_25 : Nat → Int32 → Int32 → Int32 → Int32 → Int32 → Int32 → Int32 → cm_W → Option (Int32 × cm_W)) (hk_25 : ∀ (a0 : Nat) (i1 : Int32) (i2 : Int32) (i3 : Int32) (i4 : Int32) (i5 : Int32) (i6 : Int32) (i7 : Int32) (w : cm_W), sm cm_g 187 ck_187 kq_187 25 [(0, .ref a0), (1, .int i1), (2, .int i2), (3, .int i3), (4, .int i4), (5, .int i5), (6, .int i6), (7, .int i7)] [] w ((k_25 a0 i1 i2 i3 i4 i5 i6 i7 w).map cm_gI)) (a0 : Nat) (i1 : Int32) (i2 : Int32) (i3 : Int32) (i4 : Int32) (i5 : Int32) (i6 : Int32) (i7 : Int32) (w : cm_W) : sm cm_g 187 ck_187 kq_187 57 [(0, .ref a0), (1, .int i1), (2, .int i2), (3, .int i3), (4, .int i4), (5, .int i5), (6, .int i6), (7, .int i7)] [] w ((fn_187_57 k_25 a0 i1 i2 i3 i4 i5 i6 i7 w).map cm_gI) := by
  unfold fn_187_57
  refine sm_seg 1 58 [(0, .ref a0), (1, .int i1), (2, .int i2), (3, .int i3), (4, .int i4), (5, .int i5), (6, .int i6), (7, .int i7)] [.ref a0] rfl ?_
  refine sm_gd fun h1 => ?_
  refine sm_gR rfl h1 rfl rfl fun r2 h3 => ?_
  show sm _ _ _ _ 61 [(0, .ref a0), (1, .int i1), (2, .int i2), (3, .int i3), (4, .int i4), (5, .int i5), (6, .int i6), (7, .int i7)] [.ref r2] _ _
  refine sm_seg 1 62 [(0, .ref a0), (1, .int i1), (2, .int i2), (3, .int i3), (4, .int i4), (5, .int i5), (6, .int i6), (7, .int i7)] [.ref a0, .ref r2] rfl ?_
  refine sm_gR rfl h1 rfl rfl fun r4 h5 => ?_
  show sm _ _ _ _ 65 [(0, .ref a0), (1, .int i1), (2, .int i2), (3, .int i3), (4, .int i4), (5, .int i5), (6, .int i6), (7, .int i7)] [.ref r4, .ref r2] _ _
  refine sm_seg 4 70 [(0, .ref a0), (1, .int i1), (2, .int i2), (3, .int i3), (4, .int i4), (5, .int i5), (6, .int i6), (7, .int i7)] [.int i3, .int i7, .int i1, .int i2, .ref r4, .ref r2] rfl ?_
  refine sm_gd fun h6 => ?_
  refine sm_cV (as := [.ref r4, .int i2, .int i1, .int i7, .int i3]) (rest := []) rfl rfl rfl rfl h6 (Nat.le_of_ble_eq_true rfl) (ca_53  r2 r4 i2 i1 i7 i3 w) fun v7 h8 => ?_
  show sm _ _ _ _ 73 [(0, .ref a0), (1, .int i1), (2, .int i2), (3, .int i3), (4, .int i4), (5, .int i5), (6, .int i6), (7, .int i7)] [.int v7.1] _ _
  refine sm_seg 3 79 [(8, .int v7.1), (0, .ref a0), (1, .int i1), (2, .int i2), (3, .int i3), (4, .int i4), (5, .int i5), (6, .int i6), (7, .int i7)] [.int i6, .int v7.1] rfl ?_
  refine sm_if (pc1 := 90) (lv1 := [(0, .ref a0), (1, .int i1), (2, .int i2), (3, .int i3), (4, .int i4), (5, .int i5), (6, .int i6), (7, .int i7)]) (pc2 := 82) (lv2 := [(8, .int v7.1), (0, .ref a0), (1, .int i1), (2, .int i2), (3, .int i3), (4, .int i4), (5, .int i5), (6, .int i6), (7, .int i7)]) (st1 := []) rfl rfl rfl (fun h9 => ?_) (fun h9 => ?_)
  · exact jt_187_90  k_25 hk_25 a0 i1 i2 i3 i4 i5 i6 i7 v7.2
  · refine sm_seg 4 90 [(0, .ref a0), (1, .int i1), (2, .int i2), (3, .int i3), (4, .int i4), (5, .int i7), (6, .int v7.1), (7, .int i7)] [] rfl ?_
    exact jt_187_90  k_25 hk_25 a0 i1 i2 i3 i4 i7 v7.1 i7 v7.2
def fn_187_106 (i4 : Int32) (i6 : Int32) (w : cm_W) : Option (Int32 × cm_W) := (if ¬ i4 = (1 : Int32) then some ((-1 : Int32), w) else some (i6, w))
theorem jt_187_106 (i4 : Int32) (i6 : Int32) (w : cm_W) : sm cm_g 187 ck_187 kq_187 106 [(4, .int i4), (6, .int i6)] [] w ((fn_187_106 i4 i6 w).map cm_gI) := by
  unfold fn_187_106
  refine sm_seg 2 109 [(4, .int i4), (6, .int i6)] [.int (1 : Int32), .int i4] rfl ?_
  refine sm_if (pc1 := 117) (lv1 := []) (pc2 := 112) (lv2 := [(4, .int i4), (6, .int i6)]) (st1 := []) rfl rfl rfl (fun h10 => ?_) (fun h10 => ?_)
  · refine sm_seg 1 118 [] [.int (-1 : Int32)] rfl ?_
    exact sm_rIW rfl rfl
  · refine sm_seg 2 118 [] [.int i6] rfl ?_
    exact sm_rIW rfl rfl
def fn_187_96 (i4 : Int32) (i5 : Int32) (i6 : Int32) (w : cm_W) : Option (Int32 × cm_W) := (if ¬ i4 = 0 then fn_187_106  i4 i6 w else some (i5, w))
theorem jt_187_96 (i4 : Int32) (i5 : Int32) (i6 : Int32) (w : cm_W) : sm cm_g 187 ck_187 kq_187 96 [(4, .int i4), (5, .int i5), (6, .int i6)] [] w ((fn_187_96 i4 i5 i6 w).map cm_gI) := by
  unfold fn_187_96
  refine sm_seg 1 98 [(4, .int i4), (5, .int i5), (6, .int i6)] [.int i4] rfl ?_
  refine sm_if (pc1 := 106) (lv1 := [(4, .int i4), (6, .int i6)]) (pc2 := 101) (lv2 := [(4, .int i4), (5, .int i5), (6, .int i6)]) (st1 := []) rfl rfl rfl (fun h11 => ?_) (fun h11 => ?_)
  · exact jt_187_106  i4 i6 w
  · refine sm_seg 2 118 [] [.int i5] rfl ?_
    exact sm_rIW rfl rfl
def fn_187_25 : Nat → Nat → Int32 → Int32 → Int32 → Int32 → Int32 → Int32 → Int32 → cm_W → Option (Int32 × cm_W)
  | 0, _, _, _, _, _, _, _, _, _ => none
  | n + 1, a0, i1, i2, i3, i4, i5, i6, i7, w => (if cm_sh w a0 = some (.inl 10) then (cm_R w a0 3).bind fun r13 => (if cm_sh w r13 = some (.inl 9) then (cm_R w r13 1).bind fun r16 => (if cm_sh w r16 = some (.inl 7) then (if (cm_I w r16 2) ≤ i7 then fn_187_96  i4 i5 i6 w else (cm_R w a0 3).bind fun r20 => (if cm_sh w r20 = some (.inl 9) then (fn_8 w r20 i1 i7).bind fun v23 => (if ¬ v23 = 0 then fn_187_57  (fn_187_25 n) a0 i1 i2 i3 i4 i5 i6 i7 w else (if (-1 : Int32) ≤ i6 then fn_187_90  (fn_187_25 n) a0 i1 i2 i3 i4 i5 i6 i7 w else fn_187_90  (fn_187_25 n) a0 i1 i2 i3 i4 i7 (-1 : Int32) i7 w)) else none)) else none) else none) else none)
theorem jt_187_25 : ∀ (n : Nat) (a0 : Nat) (i1 : Int32) (i2 : Int32) (i3 : Int32) (i4 : Int32) (i5 : Int32) (i6 : Int32) (i7 : Int32) (w : cm_W), sm cm_g 187 ck_187 kq_187 25 [(0, .ref a0), (1, .int i1), (2, .int i2), (3, .int i3), (4, .int i4), (5, .int i5), (6, .int i6), (7, .int i7)] [] w ((fn_187_25 n a0 i1 i2 i3 i4 i5 i6 i7 w).map cm_gI) := by
  intro n
  induction n with
  | zero => intro a0 i1 i2 i3 i4 i5 i6 i7 w; exact sm_no
  | succ n ih =>
    intro a0 i1 i2 i3 i4 i5 i6 i7 w
    rw [fn_187_25]
    refine sm_seg 2 28 [(0, .ref a0), (1, .int i1), (2, .int i2), (3, .int i3), (4, .int i4), (5, .int i5), (6, .int i6), (7, .int i7)] [.ref a0, .int i7] rfl ?_
    refine sm_gd fun h12 => ?_
    refine sm_gR rfl h12 rfl rfl fun r13 h14 => ?_
    show sm _ _ _ _ 31 [(0, .ref a0), (1, .int i1), (2, .int i2), (3, .int i3), (4, .int i4), (5, .int i5), (6, .int i6), (7, .int i7)] [.ref r13, .int i7] _ _
    refine sm_gd fun h15 => ?_
    refine sm_gR rfl h15 rfl rfl fun r16 h17 => ?_
    show sm _ _ _ _ 34 [(0, .ref a0), (1, .int i1), (2, .int i2), (3, .int i3), (4, .int i4), (5, .int i5), (6, .int i6), (7, .int i7)] [.ref r16, .int i7] _ _
    refine sm_gd fun h18 => ?_
    refine sm_gI rfl h18 rfl ?_
    show sm _ _ _ _ 37 [(0, .ref a0), (1, .int i1), (2, .int i2), (3, .int i3), (4, .int i4), (5, .int i5), (6, .int i6), (7, .int i7)] [.int (cm_I w r16 2), .int i7] _ _
    refine sm_if (pc1 := 96) (lv1 := [(4, .int i4), (5, .int i5), (6, .int i6)]) (pc2 := 40) (lv2 := [(0, .ref a0), (1, .int i1), (2, .int i2), (3, .int i3), (4, .int i4), (5, .int i5), (6, .int i6), (7, .int i7)]) (st1 := []) rfl rfl rfl (fun h19 => ?_) (fun h19 => ?_)
    · exact jt_187_96  i4 i5 i6 w
    · refine sm_seg 1 41 [(0, .ref a0), (1, .int i1), (2, .int i2), (3, .int i3), (4, .int i4), (5, .int i5), (6, .int i6), (7, .int i7)] [.ref a0] rfl ?_
      refine sm_gR rfl h12 rfl rfl fun r20 h21 => ?_
      show sm _ _ _ _ 44 [(0, .ref a0), (1, .int i1), (2, .int i2), (3, .int i3), (4, .int i4), (5, .int i5), (6, .int i6), (7, .int i7)] [.ref r20] _ _
      refine sm_seg 2 47 [(0, .ref a0), (1, .int i1), (2, .int i2), (3, .int i3), (4, .int i4), (5, .int i5), (6, .int i6), (7, .int i7)] [.int i7, .int i1, .ref r20] rfl ?_
      refine sm_gd fun h22 => ?_
      refine sm_cV (as := [.int i1, .int i7]) (rest := []) rfl rfl rfl rfl h22 (Nat.le_of_ble_eq_true rfl) (ca_8 w r20 i1 i7) fun v23 h24 => ?_
      show sm _ _ _ _ 50 [(0, .ref a0), (1, .int i1), (2, .int i2), (3, .int i3), (4, .int i4), (5, .int i5), (6, .int i6), (7, .int i7)] [.int v23] _ _
      refine sm_if (pc1 := 57) (lv1 := [(0, .ref a0), (1, .int i1), (2, .int i2), (3, .int i3), (4, .int i4), (5, .int i5), (6, .int i6), (7, .int i7)]) (pc2 := 53) (lv2 := [(0, .ref a0), (1, .int i1), (2, .int i2), (3, .int i3), (4, .int i4), (5, .int i5), (6, .int i6), (7, .int i7)]) (st1 := []) rfl rfl rfl (fun h25 => ?_) (fun h25 => ?_)
      · exact jt_187_57  (fn_187_25 n) ih a0 i1 i2 i3 i4 i5 i6 i7 w
      · refine sm_seg 5 79 [(8, .int (-1 : Int32)), (0, .ref a0), (1, .int i1), (2, .int i2), (3, .int i3), (4, .int i4), (5, .int i5), (6, .int i6), (7, .int i7)] [.int i6, .int (-1 : Int32)] rfl ?_
        refine sm_if (pc1 := 90) (lv1 := [(0, .ref a0), (1, .int i1), (2, .int i2), (3, .int i3), (4, .int i4), (5, .int i5), (6, .int i6), (7, .int i7)]) (pc2 := 82) (lv2 := [(8, .int (-1 : Int32)), (0, .ref a0), (1, .int i1), (2, .int i2), (3, .int i3), (4, .int i4), (5, .int i5), (6, .int i6), (7, .int i7)]) (st1 := []) rfl rfl rfl (fun h26 => ?_) (fun h26 => ?_)
        · exact jt_187_90  (fn_187_25 n) ih a0 i1 i2 i3 i4 i5 i6 i7 w
        · refine sm_seg 4 90 [(0, .ref a0), (1, .int i1), (2, .int i2), (3, .int i3), (4, .int i4), (5, .int i7), (6, .int (-1 : Int32)), (7, .int i7)] [] rfl ?_
          exact jt_187_90  (fn_187_25 n) ih a0 i1 i2 i3 i4 i7 (-1 : Int32) i7 w
def fn_187_16 (a0 : Nat) (i1 : Int32) (i2 : Int32) (i3 : Int32) (i4 : Int32) (w : cm_W) : Option (Int32 × cm_W) := fn_187_25  cm_N a0 i1 i2 i3 i4 (-1 : Int32) (-1 : Int32) (0 : Int32) w
theorem jt_187_16 (a0 : Nat) (i1 : Int32) (i2 : Int32) (i3 : Int32) (i4 : Int32) (w : cm_W) : sm cm_g 187 ck_187 kq_187 16 [(0, .ref a0), (1, .int i1), (2, .int i2), (3, .int i3), (4, .int i4)] [] w ((fn_187_16 a0 i1 i2 i3 i4 w).map cm_gI) := by
  unfold fn_187_16
  refine sm_seg 6 25 [(0, .ref a0), (1, .int i1), (2, .int i2), (3, .int i3), (4, .int i4), (5, .int (-1 : Int32)), (6, .int (-1 : Int32)), (7, .int (0 : Int32))] [] rfl ?_
  exact jt_187_25  cm_N a0 i1 i2 i3 i4 (-1 : Int32) (-1 : Int32) (0 : Int32) w
def fn_187 (a0 : Nat) (i1 : Int32) (i2 : Int32) (i3 : Int32) (i4 : Int32) (w : cm_W) : Option (Int32 × cm_W) := (fn_172 w i2).bind fun v27 => (if (cm_b v27) = 0 then some ((-1 : Int32), w) else (fn_143 w i3).bind fun v30 => (if ¬ (cm_b v30) = 0 then fn_187_16  a0 i1 i2 i3 i4 w else some ((-1 : Int32), w)))
theorem jt_187_0 (a0 : Nat) (i1 : Int32) (i2 : Int32) (i3 : Int32) (i4 : Int32) (w : cm_W) : sm cm_g 187 ck_187 kq_187 0 [(0, .ref a0), (1, .int i1), (2, .int i2), (3, .int i3), (4, .int i4)] [] w ((fn_187 a0 i1 i2 i3 i4 w).map cm_gI) := by
  unfold fn_187
  refine sm_seg 1 1 [(0, .ref a0), (1, .int i1), (2, .int i2), (3, .int i3), (4, .int i4)] [.int i2] rfl ?_
  refine sm_cS (av := [.int i2]) (rest := []) rfl rfl rfl rfl (Nat.le_of_ble_eq_true rfl) (ca_172 w i2) fun v27 h28 => ?_
  show sm _ _ _ _ 4 [(0, .ref a0), (1, .int i1), (2, .int i2), (3, .int i3), (4, .int i4)] [.int (cm_b v27)] _ _
  refine sm_if (pc1 := 14) (lv1 := []) (pc2 := 7) (lv2 := [(0, .ref a0), (1, .int i1), (2, .int i2), (3, .int i3), (4, .int i4)]) (st1 := []) rfl rfl rfl (fun h29 => ?_) (fun h29 => ?_)
  · refine sm_seg 1 15 [] [.int (-1 : Int32)] rfl ?_
    exact sm_rIW rfl rfl
  · refine sm_seg 1 8 [(0, .ref a0), (1, .int i1), (2, .int i2), (3, .int i3), (4, .int i4)] [.int i3] rfl ?_
    refine sm_cS (av := [.int i3]) (rest := []) rfl rfl rfl rfl (Nat.le_of_ble_eq_true rfl) (ca_143 w i3) fun v30 h31 => ?_
    show sm _ _ _ _ 11 [(0, .ref a0), (1, .int i1), (2, .int i2), (3, .int i3), (4, .int i4)] [.int (cm_b v30)] _ _
    refine sm_if (pc1 := 16) (lv1 := [(0, .ref a0), (1, .int i1), (2, .int i2), (3, .int i3), (4, .int i4)]) (pc2 := 14) (lv2 := []) (st1 := []) rfl rfl rfl (fun h32 => ?_) (fun h32 => ?_)
    · exact jt_187_16  a0 i1 i2 i3 i4 w
    · refine sm_seg 1 15 [] [.int (-1 : Int32)] rfl ?_
      exact sm_rIW rfl rfl
theorem ca_187 (a0 : Nat) (i1 : Int32) (i2 : Int32) (i3 : Int32) (i4 : Int32) (w : cm_W) : cm_ca cm_g 187 [.ref a0, .int i1, .int i2, .int i3, .int i4] w ((fn_187 a0 i1 i2 i3 i4 w).map cm_gI) := cm_ca_of (cm_me_of rfl rfl) rfl (jt_187_0 a0 i1 i2 i3 i4 w)
