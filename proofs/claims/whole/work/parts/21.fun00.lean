-- NailedBoxes$Table.get(II)I
def fn_1_28 (w : cm_W) (a0 : Nat) (i1 : Int32) (i2 : Int32) : Option Int32 := some (-1 : Int32)
theorem jt_1_28 (w : cm_W) (a0 : Nat) (i1 : Int32) (i2 : Int32) : sm cm_g 1 ck_1 kq_1 28 [(0, .ref a0), (1, .int i1), (2, .int i2)] [] w ((fn_1_28 w a0 i1 i2).map (cm_fI w)) := by
  unfold fn_1_28
  refine sm_seg 3 31 [(3, .int (0 : Int32)), (0, .ref a0), (1, .int i1), (2, .int i2)] [.int (0 : Int32)] rfl ?_
  refine sm_ift (c := (0 : Int32) = 0) (pc1 := 50) (pc2 := 34) (lv1 := []) (st1 := []) rfl (by decide) rfl ?_
  refine sm_seg 1 51 [] [.int (-1 : Int32)] rfl ?_
  exact sm_rI rfl rfl
def fn_1 (w : cm_W) (a0 : Nat) (i1 : Int32) (i2 : Int32) : Option Int32 := (if i1 < 0 then fn_1_28 w a0 i1 i2 else (if cm_sh w a0 = some (.inl 7) then (if (cm_I w a0 2) ≤ i1 then fn_1_28 w a0 i1 i2 else (if i2 < 0 then fn_1_28 w a0 i1 i2 else (if (cm_I w a0 0) ≤ i2 then fn_1_28 w a0 i1 i2 else (cm_R w a0 1).bind fun r6 => (if cm_ga w .int r6 ((i1 * (cm_I w a0 0)) + i2) = true then some (cm_I w r6 ((i1 * (cm_I w a0 0)) + i2).toNatClampNeg) else none)))) else none))
theorem jt_1_0 (w : cm_W) (a0 : Nat) (i1 : Int32) (i2 : Int32) : sm cm_g 1 ck_1 kq_1 0 [(0, .ref a0), (1, .int i1), (2, .int i2)] [] w ((fn_1 w a0 i1 i2).map (cm_fI w)) := by
  unfold fn_1
  refine sm_seg 1 1 [(0, .ref a0), (1, .int i1), (2, .int i2)] [.int i1] rfl ?_
  refine sm_if (pc1 := 28) (lv1 := [(0, .ref a0), (1, .int i1), (2, .int i2)]) (pc2 := 4) (lv2 := [(0, .ref a0), (1, .int i1), (2, .int i2)]) (st1 := []) rfl rfl rfl (fun h1 => ?_) (fun h1 => ?_)
  · exact jt_1_28 w a0 i1 i2
  · refine sm_seg 2 6 [(0, .ref a0), (1, .int i1), (2, .int i2)] [.ref a0, .int i1] rfl ?_
    refine sm_gd fun h2 => ?_
    refine sm_gI rfl h2 rfl ?_
    show sm _ _ _ _ 9 [(0, .ref a0), (1, .int i1), (2, .int i2)] [.int (cm_I w a0 2), .int i1] _ _
    refine sm_if (pc1 := 28) (lv1 := [(0, .ref a0), (1, .int i1), (2, .int i2)]) (pc2 := 12) (lv2 := [(0, .ref a0), (1, .int i1), (2, .int i2)]) (st1 := []) rfl rfl rfl (fun h3 => ?_) (fun h3 => ?_)
    · exact jt_1_28 w a0 i1 i2
    · refine sm_seg 1 13 [(0, .ref a0), (1, .int i1), (2, .int i2)] [.int i2] rfl ?_
      refine sm_if (pc1 := 28) (lv1 := [(0, .ref a0), (1, .int i1), (2, .int i2)]) (pc2 := 16) (lv2 := [(0, .ref a0), (1, .int i1), (2, .int i2)]) (st1 := []) rfl rfl rfl (fun h4 => ?_) (fun h4 => ?_)
      · exact jt_1_28 w a0 i1 i2
      · refine sm_seg 2 18 [(0, .ref a0), (1, .int i1), (2, .int i2)] [.ref a0, .int i2] rfl ?_
        refine sm_gI rfl h2 rfl ?_
        show sm _ _ _ _ 21 [(0, .ref a0), (1, .int i1), (2, .int i2)] [.int (cm_I w a0 0), .int i2] _ _
        refine sm_if (pc1 := 28) (lv1 := [(0, .ref a0), (1, .int i1), (2, .int i2)]) (pc2 := 24) (lv2 := [(0, .ref a0), (1, .int i1), (2, .int i2)]) (st1 := []) rfl rfl rfl (fun h5 => ?_) (fun h5 => ?_)
        · exact jt_1_28 w a0 i1 i2
        · refine sm_seg 4 31 [(3, .int (1 : Int32)), (0, .ref a0), (1, .int i1), (2, .int i2)] [.int (1 : Int32)] rfl ?_
          refine sm_iff (c := (1 : Int32) = 0) (pc1 := 50) (pc2 := 34) (lv1 := [(3, .int (1 : Int32)), (0, .ref a0), (1, .int i1), (2, .int i2)]) (st1 := []) rfl (by decide) rfl ?_
          refine sm_seg 1 35 [(3, .int (1 : Int32)), (0, .ref a0), (1, .int i1), (2, .int i2)] [.ref a0] rfl ?_
          refine sm_gR rfl h2 rfl rfl fun r6 h7 => ?_
          show sm _ _ _ _ 38 [(3, .int (1 : Int32)), (0, .ref a0), (1, .int i1), (2, .int i2)] [.ref r6] _ _
          refine sm_seg 2 40 [(3, .int (1 : Int32)), (0, .ref a0), (1, .int i1), (2, .int i2)] [.ref a0, .int i1, .ref r6] rfl ?_
          refine sm_gI rfl h2 rfl ?_
          show sm _ _ _ _ 43 [(3, .int (1 : Int32)), (0, .ref a0), (1, .int i1), (2, .int i2)] [.int (cm_I w a0 0), .int i1, .ref r6] _ _
          refine sm_seg 3 46 [(3, .int (1 : Int32)), (0, .ref a0), (1, .int i1), (2, .int i2)] [.int ((i1 * (cm_I w a0 0)) + i2), .ref r6] rfl ?_
          refine sm_gd fun h8 => ?_
          refine sm_ai rfl h8 rfl ?_
          show sm _ _ _ _ 47 [(3, .int (1 : Int32)), (0, .ref a0), (1, .int i1), (2, .int i2)] [.int (cm_I w r6 ((i1 * (cm_I w a0 0)) + i2).toNatClampNeg)] _ _
          refine sm_seg 1 51 [] [.int (cm_I w r6 ((i1 * (cm_I w a0 0)) + i2).toNatClampNeg)] rfl ?_
          exact sm_rI rfl rfl
theorem ca_1 (w : cm_W) (a0 : Nat) (i1 : Int32) (i2 : Int32) : cm_ca cm_g 1 [.ref a0, .int i1, .int i2] w ((fn_1 w a0 i1 i2).map (cm_fI w)) := cm_ca_of (cm_me_of rfl rfl) rfl (jt_1_0 w a0 i1 i2)
-- NailedBoxes$Book.isThere(II)Z
def fn_2 (w : cm_W) (i0 : Int32) (i1 : Int32) : Option Bool := (if i0 < 0 then some false else (if i1 ≤ i0 then some false else some true))
theorem jt_2_0 (w : cm_W) (i0 : Int32) (i1 : Int32) : sm cm_g 2 ck_2 kq_2 0 [(0, .int i0), (1, .int i1)] [] w ((fn_2 w i0 i1).map (cm_fB w)) := by
  unfold fn_2
  refine sm_seg 1 1 [(0, .int i0), (1, .int i1)] [.int i0] rfl ?_
  refine sm_if (pc1 := 13) (lv1 := []) (pc2 := 4) (lv2 := [(0, .int i0), (1, .int i1)]) (st1 := []) rfl rfl rfl (fun h1 => ?_) (fun h1 => ?_)
  · refine sm_seg 1 14 [] [.int (0 : Int32)] rfl ?_
    exact sm_rB (b := false) rfl rfl
  · refine sm_seg 2 6 [(0, .int i0), (1, .int i1)] [.int i1, .int i0] rfl ?_
    refine sm_if (pc1 := 13) (lv1 := []) (pc2 := 9) (lv2 := [(0, .int i0), (1, .int i1)]) (st1 := []) rfl rfl rfl (fun h2 => ?_) (fun h2 => ?_)
    · refine sm_seg 1 14 [] [.int (0 : Int32)] rfl ?_
      exact sm_rB (b := false) rfl rfl
    · refine sm_seg 2 14 [] [.int (1 : Int32)] rfl ?_
      exact sm_rB (b := true) rfl rfl
theorem ca_2 (w : cm_W) (i0 : Int32) (i1 : Int32) : cm_ca cm_g 2 [.int i0, .int i1] w ((fn_2 w i0 i1).map (cm_fB w)) := cm_ca_of (cm_me_of rfl rfl) rfl (jt_2_0 w i0 i1)
-- NailedBoxes$Book.followRow(LNailedBoxes$Table;I)V
def fn_3_118 (a0 : Nat) (i3 : Int32) (i4 : Int32) (i5 : Int32) (i6 : Int32) (w : cm_W) : Option cm_W := (if cm_sh w a0 = some (.inl 0) then (cm_R w a0 1).bind fun r2 => (if cm_ga w .int r2 i5 = true then (if cm_w2 48 51 r2 = true then (cm_R (cm_sI w r2 i5.toNatClampNeg ((cm_I w r2 i5.toNatClampNeg) - i6)) a0 1).bind fun r6 => (if cm_ga w .int r6 i4 = true then (if cm_w2 48 51 r6 = true then (cm_R (cm_sI (cm_sI w r2 i5.toNatClampNeg ((cm_I w r2 i5.toNatClampNeg) - i6)) r6 i4.toNatClampNeg ((cm_I (cm_sI w r2 i5.toNatClampNeg ((cm_I w r2 i5.toNatClampNeg) - i6)) r6 i4.toNatClampNeg) + i6)) a0 0).bind fun r10 => (if cm_ga w .int r10 i3 = true then (if cm_w2 48 51 r10 = true then some (cm_sI (cm_sI (cm_sI w r2 i5.toNatClampNeg ((cm_I w r2 i5.toNatClampNeg) - i6)) r6 i4.toNatClampNeg ((cm_I (cm_sI w r2 i5.toNatClampNeg ((cm_I w r2 i5.toNatClampNeg) - i6)) r6 i4.toNatClampNeg) + i6)) r10 i3.toNatClampNeg i5) else none) else none) else none) else none) else none) else none) else none)
theorem jt_3_118 (a0 : Nat) (i3 : Int32) (i4 : Int32) (i5 : Int32) (i6 : Int32) (w : cm_W) : sm cm_g 3 ck_3 kq_3 118 [(0, .ref a0), (3, .int i3), (4, .int i4), (5, .int i5), (6, .int i6)] [] w ((fn_3_118 a0 i3 i4 i5 i6 w).map cm_gV) := by
  unfold fn_3_118
  refine sm_seg 1 119 [(0, .ref a0), (3, .int i3), (4, .int i4), (5, .int i5), (6, .int i6)] [.ref a0] rfl ?_
  refine sm_gd fun h1 => ?_
  refine sm_gR rfl h1 rfl rfl fun r2 h3 => ?_
  show sm _ _ _ _ 122 [(0, .ref a0), (3, .int i3), (4, .int i4), (5, .int i5), (6, .int i6)] [.ref r2] _ _
  refine sm_seg 2 125 [(0, .ref a0), (3, .int i3), (4, .int i4), (5, .int i5), (6, .int i6)] [.int i5, .ref r2, .int i5, .ref r2] rfl ?_
  refine sm_gd fun h4 => ?_
  refine sm_ai rfl h4 rfl ?_
  show sm _ _ _ _ 126 [(0, .ref a0), (3, .int i3), (4, .int i4), (5, .int i5), (6, .int i6)] [.int (cm_I w r2 i5.toNatClampNeg), .int i5, .ref r2] _ _
  refine sm_seg 2 129 [(0, .ref a0), (3, .int i3), (4, .int i4), (5, .int i5), (6, .int i6)] [.int ((cm_I w r2 i5.toNatClampNeg) - i6), .int i5, .ref r2] rfl ?_
  refine sm_gd fun h5 => ?_
  refine sm_si rfl h4 h5 rfl rfl ?_
  show sm _ _ _ _ 130 [(0, .ref a0), (3, .int i3), (4, .int i4), (5, .int i5), (6, .int i6)] [] _ _
  refine sm_seg 1 131 [(0, .ref a0), (3, .int i3), (4, .int i4), (5, .int i5), (6, .int i6)] [.ref a0] rfl ?_
  refine sm_gR rfl h1 rfl rfl fun r6 h7 => ?_
  show sm _ _ _ _ 134 [(0, .ref a0), (3, .int i3), (4, .int i4), (5, .int i5), (6, .int i6)] [.ref r6] _ _
  refine sm_seg 2 137 [(0, .ref a0), (3, .int i3), (4, .int i4), (5, .int i5), (6, .int i6)] [.int i4, .ref r6, .int i4, .ref r6] rfl ?_
  refine sm_gd fun h8 => ?_
  refine sm_ai rfl h8 rfl ?_
  show sm _ _ _ _ 138 [(0, .ref a0), (3, .int i3), (4, .int i4), (5, .int i5), (6, .int i6)] [.int (cm_I (cm_sI w r2 i5.toNatClampNeg ((cm_I w r2 i5.toNatClampNeg) - i6)) r6 i4.toNatClampNeg), .int i4, .ref r6] _ _
  refine sm_seg 2 141 [(0, .ref a0), (3, .int i3), (4, .int i4), (5, .int i5), (6, .int i6)] [.int ((cm_I (cm_sI w r2 i5.toNatClampNeg ((cm_I w r2 i5.toNatClampNeg) - i6)) r6 i4.toNatClampNeg) + i6), .int i4, .ref r6] rfl ?_
  refine sm_gd fun h9 => ?_
  refine sm_si rfl h8 h9 rfl rfl ?_
  show sm _ _ _ _ 142 [(0, .ref a0), (3, .int i3), (4, .int i4), (5, .int i5), (6, .int i6)] [] _ _
  refine sm_seg 1 143 [(0, .ref a0), (3, .int i3), (4, .int i4), (5, .int i5), (6, .int i6)] [.ref a0] rfl ?_
  refine sm_gR rfl h1 rfl rfl fun r10 h11 => ?_
  show sm _ _ _ _ 146 [(0, .ref a0), (3, .int i3), (4, .int i4), (5, .int i5), (6, .int i6)] [.ref r10] _ _
  refine sm_seg 2 149 [(0, .ref a0), (3, .int i3), (4, .int i4), (5, .int i5), (6, .int i6)] [.int i5, .int i3, .ref r10] rfl ?_
  refine sm_gd fun h12 => ?_
  refine sm_gd fun h13 => ?_
  refine sm_si rfl h12 h13 rfl rfl ?_
  show sm _ _ _ _ 150 [(0, .ref a0), (3, .int i3), (4, .int i4), (5, .int i5), (6, .int i6)] [] _ _
  exact sm_rV rfl rfl
def fn_3_93 (a0 : Nat) (i2 : Int32) (i3 : Int32) (i4 : Int32) (i5 : Int32) (i6 : Int32) (w : cm_W) : Option cm_W := (if cm_sh w a0 = some (.inl 0) then (cm_R w a0 1).bind fun r15 => (if cm_ga w .int r15 i5 = true then (if i6 ≤ (cm_I w r15 i5.toNatClampNeg) then fn_3_118  a0 i3 i4 i5 i6 w else (if ¬ (cm_I w a0 3) = (-1 : Int32) then fn_3_118  a0 i3 i4 i5 i6 w else (if cm_w2 48 51 a0 = true then fn_3_118  a0 i3 i4 i5 i6 (cm_sI w a0 3 i2) else none))) else none) else none)
theorem jt_3_93 (a0 : Nat) (i2 : Int32) (i3 : Int32) (i4 : Int32) (i5 : Int32) (i6 : Int32) (w : cm_W) : sm cm_g 3 ck_3 kq_3 93 [(0, .ref a0), (2, .int i2), (3, .int i3), (4, .int i4), (5, .int i5), (6, .int i6)] [] w ((fn_3_93 a0 i2 i3 i4 i5 i6 w).map cm_gV) := by
  unfold fn_3_93
  refine sm_seg 1 94 [(0, .ref a0), (2, .int i2), (3, .int i3), (4, .int i4), (5, .int i5), (6, .int i6)] [.ref a0] rfl ?_
  refine sm_gd fun h14 => ?_
  refine sm_gR rfl h14 rfl rfl fun r15 h16 => ?_
  show sm _ _ _ _ 97 [(0, .ref a0), (2, .int i2), (3, .int i3), (4, .int i4), (5, .int i5), (6, .int i6)] [.ref r15] _ _
  refine sm_seg 1 99 [(0, .ref a0), (2, .int i2), (3, .int i3), (4, .int i4), (5, .int i5), (6, .int i6)] [.int i5, .ref r15] rfl ?_
  refine sm_gd fun h17 => ?_
  refine sm_ai rfl h17 rfl ?_
  show sm _ _ _ _ 100 [(0, .ref a0), (2, .int i2), (3, .int i3), (4, .int i4), (5, .int i5), (6, .int i6)] [.int (cm_I w r15 i5.toNatClampNeg)] _ _
  refine sm_seg 1 102 [(0, .ref a0), (2, .int i2), (3, .int i3), (4, .int i4), (5, .int i5), (6, .int i6)] [.int i6, .int (cm_I w r15 i5.toNatClampNeg)] rfl ?_
  refine sm_if (pc1 := 118) (lv1 := [(0, .ref a0), (3, .int i3), (4, .int i4), (5, .int i5), (6, .int i6)]) (pc2 := 105) (lv2 := [(0, .ref a0), (2, .int i2), (3, .int i3), (4, .int i4), (5, .int i5), (6, .int i6)]) (st1 := []) rfl rfl rfl (fun h18 => ?_) (fun h18 => ?_)
  · exact jt_3_118  a0 i3 i4 i5 i6 w
  · refine sm_seg 1 106 [(0, .ref a0), (2, .int i2), (3, .int i3), (4, .int i4), (5, .int i5), (6, .int i6)] [.ref a0] rfl ?_
    refine sm_gI rfl h14 rfl ?_
    show sm _ _ _ _ 109 [(0, .ref a0), (2, .int i2), (3, .int i3), (4, .int i4), (5, .int i5), (6, .int i6)] [.int (cm_I w a0 3)] _ _
    refine sm_seg 1 110 [(0, .ref a0), (2, .int i2), (3, .int i3), (4, .int i4), (5, .int i5), (6, .int i6)] [.int (-1 : Int32), .int (cm_I w a0 3)] rfl ?_
    refine sm_if (pc1 := 118) (lv1 := [(0, .ref a0), (3, .int i3), (4, .int i4), (5, .int i5), (6, .int i6)]) (pc2 := 113) (lv2 := [(0, .ref a0), (2, .int i2), (3, .int i3), (4, .int i4), (5, .int i5), (6, .int i6)]) (st1 := []) rfl rfl rfl (fun h19 => ?_) (fun h19 => ?_)
    · exact jt_3_118  a0 i3 i4 i5 i6 w
    · refine sm_seg 2 115 [(0, .ref a0), (2, .int i2), (3, .int i3), (4, .int i4), (5, .int i5), (6, .int i6)] [.int i2, .ref a0] rfl ?_
      refine sm_gd fun h20 => ?_
      refine sm_pI rfl h14 rfl h20 rfl ?_
      show sm _ _ _ _ 118 [(0, .ref a0), (3, .int i3), (4, .int i4), (5, .int i5), (6, .int i6)] [] _ _
      exact jt_3_118  a0 i3 i4 i5 i6 (cm_sI w a0 3 i2)
def fn_3_61 (a0 : Nat) (i2 : Int32) (i3 : Int32) (i4 : Int32) (i5 : Int32) (i6 : Int32) (w : cm_W) : Option cm_W := (if cm_sh w a0 = some (.inl 0) then (cm_R w a0 0).bind fun r22 => (if cm_ga w .int r22 i3 = true then (if (cm_I w r22 i3.toNatClampNeg) = i4 then fn_3_93  a0 i2 i3 i4 i5 i6 w else (if ¬ (cm_I w a0 2) = (-1 : Int32) then (if cm_w2 48 51 a0 = true then some (cm_sI w a0 2 (cm_I w a0 2)) else none) else (if cm_w2 48 51 a0 = true then some (cm_sI w a0 2 i2) else none))) else none) else none)
theorem jt_3_61 (a0 : Nat) (i2 : Int32) (i3 : Int32) (i4 : Int32) (i5 : Int32) (i6 : Int32) (w : cm_W) : sm cm_g 3 ck_3 kq_3 61 [(0, .ref a0), (2, .int i2), (3, .int i3), (4, .int i4), (5, .int i5), (6, .int i6)] [] w ((fn_3_61 a0 i2 i3 i4 i5 i6 w).map cm_gV) := by
  unfold fn_3_61
  refine sm_seg 1 62 [(0, .ref a0), (2, .int i2), (3, .int i3), (4, .int i4), (5, .int i5), (6, .int i6)] [.ref a0] rfl ?_
  refine sm_gd fun h21 => ?_
  refine sm_gR rfl h21 rfl rfl fun r22 h23 => ?_
  show sm _ _ _ _ 65 [(0, .ref a0), (2, .int i2), (3, .int i3), (4, .int i4), (5, .int i5), (6, .int i6)] [.ref r22] _ _
  refine sm_seg 1 66 [(0, .ref a0), (2, .int i2), (3, .int i3), (4, .int i4), (5, .int i5), (6, .int i6)] [.int i3, .ref r22] rfl ?_
  refine sm_gd fun h24 => ?_
  refine sm_ai rfl h24 rfl ?_
  show sm _ _ _ _ 67 [(0, .ref a0), (2, .int i2), (3, .int i3), (4, .int i4), (5, .int i5), (6, .int i6)] [.int (cm_I w r22 i3.toNatClampNeg)] _ _
  refine sm_seg 1 69 [(0, .ref a0), (2, .int i2), (3, .int i3), (4, .int i4), (5, .int i5), (6, .int i6)] [.int i4, .int (cm_I w r22 i3.toNatClampNeg)] rfl ?_
  refine sm_if (pc1 := 93) (lv1 := [(0, .ref a0), (2, .int i2), (3, .int i3), (4, .int i4), (5, .int i5), (6, .int i6)]) (pc2 := 72) (lv2 := [(0, .ref a0), (2, .int i2), (3, .int i3), (4, .int i4), (5, .int i5), (6, .int i6)]) (st1 := []) rfl rfl rfl (fun h25 => ?_) (fun h25 => ?_)
  · exact jt_3_93  a0 i2 i3 i4 i5 i6 w
  · refine sm_seg 2 74 [(0, .ref a0), (2, .int i2), (3, .int i3), (4, .int i4), (5, .int i5), (6, .int i6)] [.ref a0, .ref a0] rfl ?_
    refine sm_gI rfl h21 rfl ?_
    show sm _ _ _ _ 77 [(0, .ref a0), (2, .int i2), (3, .int i3), (4, .int i4), (5, .int i5), (6, .int i6)] [.int (cm_I w a0 2), .ref a0] _ _
    refine sm_seg 1 78 [(0, .ref a0), (2, .int i2), (3, .int i3), (4, .int i4), (5, .int i5), (6, .int i6)] [.int (-1 : Int32), .int (cm_I w a0 2), .ref a0] rfl ?_
    refine sm_if (pc1 := 85) (lv1 := [(0, .ref a0)]) (pc2 := 81) (lv2 := [(0, .ref a0), (2, .int i2), (3, .int i3), (4, .int i4), (5, .int i5), (6, .int i6)]) (st1 := [.ref a0]) rfl rfl rfl (fun h26 => ?_) (fun h26 => ?_)
    · refine sm_seg 1 86 [(0, .ref a0)] [.ref a0, .ref a0] rfl ?_
      refine sm_gI rfl h21 rfl ?_
      show sm _ _ _ _ 89 [] [.int (cm_I w a0 2), .ref a0] _ _
      refine sm_gd fun h27 => ?_
      refine sm_pI rfl h21 rfl h27 rfl ?_
      show sm _ _ _ _ 92 [] [] _ _
      exact sm_rV rfl rfl
    · refine sm_seg 2 89 [] [.int i2, .ref a0] rfl ?_
      refine sm_gd fun h28 => ?_
      refine sm_pI rfl h21 rfl h28 rfl ?_
      show sm _ _ _ _ 92 [] [] _ _
      exact sm_rV rfl rfl
def fn_3 (a0 : Nat) (a1 : Nat) (i2 : Int32) (w : cm_W) : Option cm_W := (if cm_sh w a1 = some (.inl 7) then (fn_1 w a1 i2 (0 : Int32)).bind fun v30 => (fn_1 w a1 i2 (1 : Int32)).bind fun v32 => (fn_1 w a1 i2 (2 : Int32)).bind fun v34 => (fn_1 w a1 i2 (3 : Int32)).bind fun v36 => (fn_2 w v30 (40 : Int32)).bind fun v38 => (if (cm_b v38) = 0 then some w else (fn_2 w v32 (12 : Int32)).bind fun v41 => (if (cm_b v41) = 0 then some w else (fn_2 w v34 (12 : Int32)).bind fun v44 => (if ¬ (cm_b v44) = 0 then fn_3_61  a0 i2 v30 v32 v34 v36 w else some w))) else none)
theorem jt_3_0 (a0 : Nat) (a1 : Nat) (i2 : Int32) (w : cm_W) : sm cm_g 3 ck_3 kq_3 0 [(0, .ref a0), (1, .ref a1), (2, .int i2)] [] w ((fn_3 a0 a1 i2 w).map cm_gV) := by
  unfold fn_3
  refine sm_seg 3 3 [(0, .ref a0), (1, .ref a1), (2, .int i2)] [.int (0 : Int32), .int i2, .ref a1] rfl ?_
  refine sm_gd fun h29 => ?_
  refine sm_cV (as := [.int i2, .int (0 : Int32)]) (rest := []) rfl rfl rfl rfl h29 (Nat.le_of_ble_eq_true rfl) (ca_1 w a1 i2 (0 : Int32)) fun v30 h31 => ?_
  show sm _ _ _ _ 6 [(0, .ref a0), (1, .ref a1), (2, .int i2)] [.int v30] _ _
  refine sm_seg 4 10 [(3, .int v30), (0, .ref a0), (1, .ref a1), (2, .int i2)] [.int (1 : Int32), .int i2, .ref a1] rfl ?_
  refine sm_cV (as := [.int i2, .int (1 : Int32)]) (rest := []) rfl rfl rfl rfl h29 (Nat.le_of_ble_eq_true rfl) (ca_1 w a1 i2 (1 : Int32)) fun v32 h33 => ?_
  show sm _ _ _ _ 13 [(3, .int v30), (0, .ref a0), (1, .ref a1), (2, .int i2)] [.int v32] _ _
  refine sm_seg 4 18 [(4, .int v32), (3, .int v30), (0, .ref a0), (1, .ref a1), (2, .int i2)] [.int (2 : Int32), .int i2, .ref a1] rfl ?_
  refine sm_cV (as := [.int i2, .int (2 : Int32)]) (rest := []) rfl rfl rfl rfl h29 (Nat.le_of_ble_eq_true rfl) (ca_1 w a1 i2 (2 : Int32)) fun v34 h35 => ?_
  show sm _ _ _ _ 21 [(4, .int v32), (3, .int v30), (0, .ref a0), (1, .ref a1), (2, .int i2)] [.int v34] _ _
  refine sm_seg 4 26 [(5, .int v34), (4, .int v32), (3, .int v30), (0, .ref a0), (1, .ref a1), (2, .int i2)] [.int (3 : Int32), .int i2, .ref a1] rfl ?_
  refine sm_cV (as := [.int i2, .int (3 : Int32)]) (rest := []) rfl rfl rfl rfl h29 (Nat.le_of_ble_eq_true rfl) (ca_1 w a1 i2 (3 : Int32)) fun v36 h37 => ?_
  show sm _ _ _ _ 29 [(5, .int v34), (4, .int v32), (3, .int v30), (0, .ref a0), (1, .ref a1), (2, .int i2)] [.int v36] _ _
  refine sm_seg 3 34 [(6, .int v36), (5, .int v34), (4, .int v32), (3, .int v30), (0, .ref a0), (1, .ref a1), (2, .int i2)] [.int (40 : Int32), .int v30] rfl ?_
  refine sm_cS (av := [.int v30, .int (40 : Int32)]) (rest := []) rfl rfl rfl rfl (Nat.le_of_ble_eq_true rfl) (ca_2 w v30 (40 : Int32)) fun v38 h39 => ?_
  show sm _ _ _ _ 37 [(6, .int v36), (5, .int v34), (4, .int v32), (3, .int v30), (0, .ref a0), (1, .ref a1), (2, .int i2)] [.int (cm_b v38)] _ _
  refine sm_if (pc1 := 60) (lv1 := []) (pc2 := 40) (lv2 := [(6, .int v36), (5, .int v34), (4, .int v32), (3, .int v30), (0, .ref a0), (1, .ref a1), (2, .int i2)]) (st1 := []) rfl rfl rfl (fun h40 => ?_) (fun h40 => ?_)
  · exact sm_rV rfl rfl
  · refine sm_seg 2 44 [(6, .int v36), (5, .int v34), (4, .int v32), (3, .int v30), (0, .ref a0), (1, .ref a1), (2, .int i2)] [.int (12 : Int32), .int v32] rfl ?_
    refine sm_cS (av := [.int v32, .int (12 : Int32)]) (rest := []) rfl rfl rfl rfl (Nat.le_of_ble_eq_true rfl) (ca_2 w v32 (12 : Int32)) fun v41 h42 => ?_
    show sm _ _ _ _ 47 [(6, .int v36), (5, .int v34), (4, .int v32), (3, .int v30), (0, .ref a0), (1, .ref a1), (2, .int i2)] [.int (cm_b v41)] _ _
    refine sm_if (pc1 := 60) (lv1 := []) (pc2 := 50) (lv2 := [(6, .int v36), (5, .int v34), (4, .int v32), (3, .int v30), (0, .ref a0), (1, .ref a1), (2, .int i2)]) (st1 := []) rfl rfl rfl (fun h43 => ?_) (fun h43 => ?_)
    · exact sm_rV rfl rfl
    · refine sm_seg 2 54 [(6, .int v36), (5, .int v34), (4, .int v32), (3, .int v30), (0, .ref a0), (1, .ref a1), (2, .int i2)] [.int (12 : Int32), .int v34] rfl ?_
      refine sm_cS (av := [.int v34, .int (12 : Int32)]) (rest := []) rfl rfl rfl rfl (Nat.le_of_ble_eq_true rfl) (ca_2 w v34 (12 : Int32)) fun v44 h45 => ?_
      show sm _ _ _ _ 57 [(6, .int v36), (5, .int v34), (4, .int v32), (3, .int v30), (0, .ref a0), (1, .ref a1), (2, .int i2)] [.int (cm_b v44)] _ _
      refine sm_if (pc1 := 61) (lv1 := [(0, .ref a0), (2, .int i2), (3, .int v30), (4, .int v32), (5, .int v34), (6, .int v36)]) (pc2 := 60) (lv2 := []) (st1 := []) rfl rfl rfl (fun h46 => ?_) (fun h46 => ?_)
      · exact jt_3_61  a0 i2 v30 v32 v34 v36 w
      · exact sm_rV rfl rfl
theorem ca_3 (a0 : Nat) (a1 : Nat) (i2 : Int32) (w : cm_W) : cm_ca cm_g 3 [.ref a0, .ref a1, .int i2] w ((fn_3 a0 a1 i2 w).map cm_gV) := cm_ca_of (cm_me_of rfl rfl) rfl (jt_3_0 a0 a1 i2 w)
-- NailedBoxes$Book.follow(LNailedBoxes$Village;LNailedBoxes$State;)V
def fn_4_70 : Nat → Nat → Nat → Int32 → cm_W → Option cm_W
  | 0, _, _, _, _ => none
  | n + 1, a0, a2, i3, w => (if cm_sh w a2 = some (.inl 6) then (cm_R w a2 3).bind fun r2 => (if cm_sh w r2 = some (.inl 7) then (if (cm_I w r2 2) ≤ i3 then some w else (cm_R w a2 3).bind fun r6 => (if cm_sh w a0 = some (.inl 0) then (fn_3 a0 r6 i3 w).bind fun w9 => fn_4_70 n a0 a2 (i3 + (1 : Int32)) w9 else none)) else none) else none)
theorem jt_4_70 : ∀ (n : Nat) (a0 : Nat) (a2 : Nat) (i3 : Int32) (w : cm_W), sm cm_g 4 ck_4 kq_4 70 [(0, .ref a0), (2, .ref a2), (3, .int i3)] [] w ((fn_4_70 n a0 a2 i3 w).map cm_gV) := by
  intro n
  induction n with
  | zero => intro a0 a2 i3 w; exact sm_no
  | succ n ih =>
    intro a0 a2 i3 w
    rw [fn_4_70]
    refine sm_seg 2 72 [(0, .ref a0), (2, .ref a2), (3, .int i3)] [.ref a2, .int i3] rfl ?_
    refine sm_gd fun h1 => ?_
    refine sm_gR rfl h1 rfl rfl fun r2 h3 => ?_
    show sm _ _ _ _ 75 [(0, .ref a0), (2, .ref a2), (3, .int i3)] [.ref r2, .int i3] _ _
    refine sm_gd fun h4 => ?_
    refine sm_gI rfl h4 rfl ?_
    show sm _ _ _ _ 78 [(0, .ref a0), (2, .ref a2), (3, .int i3)] [.int (cm_I w r2 2), .int i3] _ _
    refine sm_if (pc1 := 96) (lv1 := []) (pc2 := 81) (lv2 := [(0, .ref a0), (2, .ref a2), (3, .int i3)]) (st1 := []) rfl rfl rfl (fun h5 => ?_) (fun h5 => ?_)
    · exact sm_rV rfl rfl
    · refine sm_seg 2 83 [(0, .ref a0), (2, .ref a2), (3, .int i3)] [.ref a2, .ref a0] rfl ?_
      refine sm_gR rfl h1 rfl rfl fun r6 h7 => ?_
      show sm _ _ _ _ 86 [(0, .ref a0), (2, .ref a2), (3, .int i3)] [.ref r6, .ref a0] _ _
      refine sm_seg 1 87 [(0, .ref a0), (2, .ref a2), (3, .int i3)] [.int i3, .ref r6, .ref a0] rfl ?_
      refine sm_gd fun h8 => ?_
      refine sm_cV (as := [.ref r6, .int i3]) (rest := []) rfl rfl rfl rfl h8 (Nat.le_of_ble_eq_true rfl) (ca_3  a0 r6 i3 w) fun w9 h10 => ?_
      show sm _ _ _ _ 90 [(0, .ref a0), (2, .ref a2), (3, .int i3)] [] _ _
      refine sm_seg 2 70 [(0, .ref a0), (2, .ref a2), (3, .int (i3 + (1 : Int32)))] [] rfl ?_
      exact ih a0 a2 (i3 + (1 : Int32)) w9
def fn_4_58 (a0 : Nat) (a2 : Nat) (w : cm_W) : Option cm_W := (if cm_sh w a0 = some (.inl 0) then (if cm_w2 48 51 a0 = true then fn_4_70  cm_N a0 a2 (0 : Int32) (cm_sI (cm_sI w a0 2 (-1 : Int32)) a0 3 (-1 : Int32)) else none) else none)
theorem jt_4_58 (a0 : Nat) (a2 : Nat) (w : cm_W) : sm cm_g 4 ck_4 kq_4 58 [(0, .ref a0), (2, .ref a2)] [] w ((fn_4_58 a0 a2 w).map cm_gV) := by
  unfold fn_4_58
  refine sm_seg 2 60 [(0, .ref a0), (2, .ref a2)] [.int (-1 : Int32), .ref a0] rfl ?_
  refine sm_gd fun h11 => ?_
  refine sm_gd fun h12 => ?_
  refine sm_pI rfl h11 rfl h12 rfl ?_
  show sm _ _ _ _ 63 [(0, .ref a0), (2, .ref a2)] [] _ _
  refine sm_seg 2 65 [(0, .ref a0), (2, .ref a2)] [.int (-1 : Int32), .ref a0] rfl ?_
  refine sm_pI rfl h11 rfl h12 rfl ?_
  show sm _ _ _ _ 68 [(0, .ref a0), (2, .ref a2)] [] _ _
  refine sm_seg 2 70 [(0, .ref a0), (2, .ref a2), (3, .int (0 : Int32))] [] rfl ?_
  exact jt_4_70  cm_N a0 a2 (0 : Int32) (cm_sI (cm_sI w a0 2 (-1 : Int32)) a0 3 (-1 : Int32))
def fn_4_31 : Nat → Nat → Nat → Nat → Int32 → cm_W → Option cm_W
  | 0, _, _, _, _, _ => none
  | n + 1, a0, a1, a2, i3, w => (if (12 : Int32) ≤ i3 then fn_4_58  a0 a2 w else (if cm_sh w a0 = some (.inl 0) then (cm_R w a0 1).bind fun r15 => (if cm_sh w a1 = some (.inl 9) then (cm_R w a1 3).bind fun r18 => (if cm_sh w r18 = some (.inl 7) then (fn_1 w r18 i3 (1 : Int32)).bind fun v21 => (if cm_ga w .int r15 i3 = true then (if cm_w2 48 51 r15 = true then fn_4_31 n a0 a1 a2 (i3 + (1 : Int32)) (cm_sI w r15 i3.toNatClampNeg v21) else none) else none) else none) else none) else none))
theorem jt_4_31 : ∀ (n : Nat) (a0 : Nat) (a1 : Nat) (a2 : Nat) (i3 : Int32) (w : cm_W), sm cm_g 4 ck_4 kq_4 31 [(0, .ref a0), (1, .ref a1), (2, .ref a2), (3, .int i3)] [] w ((fn_4_31 n a0 a1 a2 i3 w).map cm_gV) := by
  intro n
  induction n with
  | zero => intro a0 a1 a2 i3 w; exact sm_no
  | succ n ih =>
    intro a0 a1 a2 i3 w
    rw [fn_4_31]
    refine sm_seg 2 34 [(0, .ref a0), (1, .ref a1), (2, .ref a2), (3, .int i3)] [.int (12 : Int32), .int i3] rfl ?_
    refine sm_if (pc1 := 58) (lv1 := [(0, .ref a0), (2, .ref a2)]) (pc2 := 37) (lv2 := [(0, .ref a0), (1, .ref a1), (2, .ref a2), (3, .int i3)]) (st1 := []) rfl rfl rfl (fun h13 => ?_) (fun h13 => ?_)
    · exact jt_4_58  a0 a2 w
    · refine sm_seg 1 38 [(0, .ref a0), (1, .ref a1), (2, .ref a2), (3, .int i3)] [.ref a0] rfl ?_
      refine sm_gd fun h14 => ?_
      refine sm_gR rfl h14 rfl rfl fun r15 h16 => ?_
      show sm _ _ _ _ 41 [(0, .ref a0), (1, .ref a1), (2, .ref a2), (3, .int i3)] [.ref r15] _ _
      refine sm_seg 2 43 [(0, .ref a0), (1, .ref a1), (2, .ref a2), (3, .int i3)] [.ref a1, .int i3, .ref r15] rfl ?_
      refine sm_gd fun h17 => ?_
      refine sm_gR rfl h17 rfl rfl fun r18 h19 => ?_
      show sm _ _ _ _ 46 [(0, .ref a0), (1, .ref a1), (2, .ref a2), (3, .int i3)] [.ref r18, .int i3, .ref r15] _ _
      refine sm_seg 2 48 [(0, .ref a0), (1, .ref a1), (2, .ref a2), (3, .int i3)] [.int (1 : Int32), .int i3, .ref r18, .int i3, .ref r15] rfl ?_
      refine sm_gd fun h20 => ?_
      refine sm_cV (as := [.int i3, .int (1 : Int32)]) (rest := [.int i3, .ref r15]) rfl rfl rfl rfl h20 (Nat.le_of_ble_eq_true rfl) (ca_1 w r18 i3 (1 : Int32)) fun v21 h22 => ?_
      show sm _ _ _ _ 51 [(0, .ref a0), (1, .ref a1), (2, .ref a2), (3, .int i3)] [.int v21, .int i3, .ref r15] _ _
      refine sm_gd fun h23 => ?_
      refine sm_gd fun h24 => ?_
      refine sm_si rfl h23 h24 rfl rfl ?_
      show sm _ _ _ _ 52 [(0, .ref a0), (1, .ref a1), (2, .ref a2), (3, .int i3)] [] _ _
      refine sm_seg 2 31 [(0, .ref a0), (1, .ref a1), (2, .ref a2), (3, .int (i3 + (1 : Int32)))] [] rfl ?_
      exact ih a0 a1 a2 (i3 + (1 : Int32)) (cm_sI w r15 i3.toNatClampNeg v21)
def fn_4_29 (a0 : Nat) (a1 : Nat) (a2 : Nat) (w : cm_W) : Option cm_W := fn_4_31  cm_N a0 a1 a2 (0 : Int32) w
theorem jt_4_29 (a0 : Nat) (a1 : Nat) (a2 : Nat) (w : cm_W) : sm cm_g 4 ck_4 kq_4 29 [(0, .ref a0), (1, .ref a1), (2, .ref a2)] [] w ((fn_4_29 a0 a1 a2 w).map cm_gV) := by
  unfold fn_4_29
  refine sm_seg 2 31 [(0, .ref a0), (1, .ref a1), (2, .ref a2), (3, .int (0 : Int32))] [] rfl ?_
  exact jt_4_31  cm_N a0 a1 a2 (0 : Int32) w
def fn_4_2 : Nat → Nat → Nat → Nat → Int32 → cm_W → Option cm_W
  | 0, _, _, _, _, _ => none
  | n + 1, a0, a1, a2, i3, w => (if (40 : Int32) ≤ i3 then fn_4_29  a0 a1 a2 w else (if cm_sh w a0 = some (.inl 0) then (cm_R w a0 0).bind fun r27 => (if cm_sh w a2 = some (.inl 6) then (cm_R w a2 0).bind fun r30 => (if cm_sh w r30 = some (.inl 7) then (fn_1 w r30 i3 (0 : Int32)).bind fun v33 => (if cm_ga w .int r27 i3 = true then (if cm_w2 48 51 r27 = true then fn_4_2 n a0 a1 a2 (i3 + (1 : Int32)) (cm_sI w r27 i3.toNatClampNeg v33) else none) else none) else none) else none) else none))
theorem jt_4_2 : ∀ (n : Nat) (a0 : Nat) (a1 : Nat) (a2 : Nat) (i3 : Int32) (w : cm_W), sm cm_g 4 ck_4 kq_4 2 [(0, .ref a0), (1, .ref a1), (2, .ref a2), (3, .int i3)] [] w ((fn_4_2 n a0 a1 a2 i3 w).map cm_gV) := by
  intro n
  induction n with
  | zero => intro a0 a1 a2 i3 w; exact sm_no
  | succ n ih =>
    intro a0 a1 a2 i3 w
    rw [fn_4_2]
    refine sm_seg 2 5 [(0, .ref a0), (1, .ref a1), (2, .ref a2), (3, .int i3)] [.int (40 : Int32), .int i3] rfl ?_
    refine sm_if (pc1 := 29) (lv1 := [(0, .ref a0), (1, .ref a1), (2, .ref a2)]) (pc2 := 8) (lv2 := [(0, .ref a0), (1, .ref a1), (2, .ref a2), (3, .int i3)]) (st1 := []) rfl rfl rfl (fun h25 => ?_) (fun h25 => ?_)
    · exact jt_4_29  a0 a1 a2 w
    · refine sm_seg 1 9 [(0, .ref a0), (1, .ref a1), (2, .ref a2), (3, .int i3)] [.ref a0] rfl ?_
      refine sm_gd fun h26 => ?_
      refine sm_gR rfl h26 rfl rfl fun r27 h28 => ?_
      show sm _ _ _ _ 12 [(0, .ref a0), (1, .ref a1), (2, .ref a2), (3, .int i3)] [.ref r27] _ _
      refine sm_seg 2 14 [(0, .ref a0), (1, .ref a1), (2, .ref a2), (3, .int i3)] [.ref a2, .int i3, .ref r27] rfl ?_
      refine sm_gd fun h29 => ?_
      refine sm_gR rfl h29 rfl rfl fun r30 h31 => ?_
      show sm _ _ _ _ 17 [(0, .ref a0), (1, .ref a1), (2, .ref a2), (3, .int i3)] [.ref r30, .int i3, .ref r27] _ _
      refine sm_seg 2 19 [(0, .ref a0), (1, .ref a1), (2, .ref a2), (3, .int i3)] [.int (0 : Int32), .int i3, .ref r30, .int i3, .ref r27] rfl ?_
      refine sm_gd fun h32 => ?_
      refine sm_cV (as := [.int i3, .int (0 : Int32)]) (rest := [.int i3, .ref r27]) rfl rfl rfl rfl h32 (Nat.le_of_ble_eq_true rfl) (ca_1 w r30 i3 (0 : Int32)) fun v33 h34 => ?_
      show sm _ _ _ _ 22 [(0, .ref a0), (1, .ref a1), (2, .ref a2), (3, .int i3)] [.int v33, .int i3, .ref r27] _ _
      refine sm_gd fun h35 => ?_
      refine sm_gd fun h36 => ?_
      refine sm_si rfl h35 h36 rfl rfl ?_
      show sm _ _ _ _ 23 [(0, .ref a0), (1, .ref a1), (2, .ref a2), (3, .int i3)] [] _ _
      refine sm_seg 2 2 [(0, .ref a0), (1, .ref a1), (2, .ref a2), (3, .int (i3 + (1 : Int32)))] [] rfl ?_
      exact ih a0 a1 a2 (i3 + (1 : Int32)) (cm_sI w r27 i3.toNatClampNeg v33)
def fn_4 (a0 : Nat) (a1 : Nat) (a2 : Nat) (w : cm_W) : Option cm_W := fn_4_2  cm_N a0 a1 a2 (0 : Int32) w
theorem jt_4_0 (a0 : Nat) (a1 : Nat) (a2 : Nat) (w : cm_W) : sm cm_g 4 ck_4 kq_4 0 [(0, .ref a0), (1, .ref a1), (2, .ref a2)] [] w ((fn_4 a0 a1 a2 w).map cm_gV) := by
  unfold fn_4
  refine sm_seg 2 2 [(0, .ref a0), (1, .ref a1), (2, .ref a2), (3, .int (0 : Int32))] [] rfl ?_
  exact jt_4_2  cm_N a0 a1 a2 (0 : Int32) w
theorem ca_4 (a0 : Nat) (a1 : Nat) (a2 : Nat) (w : cm_W) : cm_ca cm_g 4 [.ref a0, .ref a1, .ref a2] w ((fn_4 a0 a1 a2 w).map cm_gV) := cm_ca_of (cm_me_of rfl rfl) rfl (jt_4_0 a0 a1 a2 w)
-- NailedBoxes$Village.worthOf(II)I
def fn_6 (w : cm_W) (a0 : Nat) (i1 : Int32) (i2 : Int32) : Option Int32 := (if cm_sh w a0 = some (.inl 9) then (cm_R w a0 1).bind fun r2 => (if cm_sh w r2 = some (.inl 7) then (fn_1 w r2 i1 (0 : Int32)).bind fun v5 => (cm_R w a0 1).bind fun r7 => (if cm_sh w r7 = some (.inl 7) then (fn_1 w r7 i1 (3 : Int32)).bind fun v10 => some (if (0 : Int32) < (v5 - (v10 * i2)) then (v5 - (v10 * i2)) else (0 : Int32)) else none) else none) else none)
theorem jt_6_0 (w : cm_W) (a0 : Nat) (i1 : Int32) (i2 : Int32) : sm cm_g 6 ck_6 kq_6 0 [(0, .ref a0), (1, .int i1), (2, .int i2)] [] w ((fn_6 w a0 i1 i2).map (cm_fI w)) := by
  unfold fn_6
  refine sm_seg 2 2 [(0, .ref a0), (1, .int i1), (2, .int i2)] [.ref a0, .int (0 : Int32)] rfl ?_
  refine sm_gd fun h1 => ?_
  refine sm_gR rfl h1 rfl rfl fun r2 h3 => ?_
  show sm _ _ _ _ 5 [(0, .ref a0), (1, .int i1), (2, .int i2)] [.ref r2, .int (0 : Int32)] _ _
  refine sm_seg 2 7 [(0, .ref a0), (1, .int i1), (2, .int i2)] [.int (0 : Int32), .int i1, .ref r2, .int (0 : Int32)] rfl ?_
  refine sm_gd fun h4 => ?_
  refine sm_cV (as := [.int i1, .int (0 : Int32)]) (rest := [.int (0 : Int32)]) rfl rfl rfl rfl h4 (Nat.le_of_ble_eq_true rfl) (ca_1 w r2 i1 (0 : Int32)) fun v5 h6 => ?_
  show sm _ _ _ _ 10 [(0, .ref a0), (1, .int i1), (2, .int i2)] [.int v5, .int (0 : Int32)] _ _
  refine sm_seg 1 11 [(0, .ref a0), (1, .int i1), (2, .int i2)] [.ref a0, .int v5, .int (0 : Int32)] rfl ?_
  refine sm_gR rfl h1 rfl rfl fun r7 h8 => ?_
  show sm _ _ _ _ 14 [(0, .ref a0), (1, .int i1), (2, .int i2)] [.ref r7, .int v5, .int (0 : Int32)] _ _
  refine sm_seg 2 16 [(0, .ref a0), (1, .int i1), (2, .int i2)] [.int (3 : Int32), .int i1, .ref r7, .int v5, .int (0 : Int32)] rfl ?_
  refine sm_gd fun h9 => ?_
  refine sm_cV (as := [.int i1, .int (3 : Int32)]) (rest := [.int v5, .int (0 : Int32)]) rfl rfl rfl rfl h9 (Nat.le_of_ble_eq_true rfl) (ca_1 w r7 i1 (3 : Int32)) fun v10 h11 => ?_
  show sm _ _ _ _ 19 [(0, .ref a0), (1, .int i1), (2, .int i2)] [.int v10, .int v5, .int (0 : Int32)] _ _
  refine sm_seg 3 22 [(0, .ref a0), (1, .int i1), (2, .int i2)] [.int (v5 - (v10 * i2)), .int (0 : Int32)] rfl ?_
  refine sm_at rfl rfl rfl ?_
  show sm _ _ _ _ 25 [(0, .ref a0), (1, .int i1), (2, .int i2)] [.int (if (0 : Int32) < (v5 - (v10 * i2)) then (v5 - (v10 * i2)) else (0 : Int32))] _ _
  exact sm_rI rfl rfl
theorem ca_6 (w : cm_W) (a0 : Nat) (i1 : Int32) (i2 : Int32) : cm_ca cm_g 6 [.ref a0, .int i1, .int i2] w ((fn_6 w a0 i1 i2).map (cm_fI w)) := cm_ca_of (cm_me_of rfl rfl) rfl (jt_6_0 w a0 i1 i2)
-- NailedBoxes$Table.has(I)Z
def fn_7 (w : cm_W) (a0 : Nat) (i1 : Int32) : Option Bool := (if i1 < 0 then some false else (if cm_sh w a0 = some (.inl 7) then (if (cm_I w a0 2) ≤ i1 then some false else some true) else none))
theorem jt_7_0 (w : cm_W) (a0 : Nat) (i1 : Int32) : sm cm_g 7 ck_7 kq_7 0 [(0, .ref a0), (1, .int i1)] [] w ((fn_7 w a0 i1).map (cm_fB w)) := by
  unfold fn_7
  refine sm_seg 1 1 [(0, .ref a0), (1, .int i1)] [.int i1] rfl ?_
  refine sm_if (pc1 := 16) (lv1 := []) (pc2 := 4) (lv2 := [(0, .ref a0), (1, .int i1)]) (st1 := []) rfl rfl rfl (fun h1 => ?_) (fun h1 => ?_)
  · refine sm_seg 1 17 [] [.int (0 : Int32)] rfl ?_
    exact sm_rB (b := false) rfl rfl
  · refine sm_seg 2 6 [(0, .ref a0), (1, .int i1)] [.ref a0, .int i1] rfl ?_
    refine sm_gd fun h2 => ?_
    refine sm_gI rfl h2 rfl ?_
    show sm _ _ _ _ 9 [(0, .ref a0), (1, .int i1)] [.int (cm_I w a0 2), .int i1] _ _
    refine sm_if (pc1 := 16) (lv1 := []) (pc2 := 12) (lv2 := [(0, .ref a0), (1, .int i1)]) (st1 := []) rfl rfl rfl (fun h3 => ?_) (fun h3 => ?_)
    · refine sm_seg 1 17 [] [.int (0 : Int32)] rfl ?_
      exact sm_rB (b := false) rfl rfl
    · refine sm_seg 2 17 [] [.int (1 : Int32)] rfl ?_
      exact sm_rB (b := true) rfl rfl
theorem ca_7 (w : cm_W) (a0 : Nat) (i1 : Int32) : cm_ca cm_g 7 [.ref a0, .int i1] w ((fn_7 w a0 i1).map (cm_fB w)) := cm_ca_of (cm_me_of rfl rfl) rfl (jt_7_0 w a0 i1)
-- NailedBoxes$Village.shareOf(II)I
def fn_8 (w : cm_W) (a0 : Nat) (i1 : Int32) (i2 : Int32) : Option Int32 := (if cm_sh w a0 = some (.inl 9) then (cm_R w a0 3).bind fun r2 => (if cm_sh w r2 = some (.inl 7) then (fn_7 w r2 i1).bind fun v5 => (if (cm_b v5) = 0 then some (0 : Int32) else (cm_R w a0 1).bind fun r8 => (if cm_sh w r8 = some (.inl 7) then (fn_7 w r8 i2).bind fun v11 => (if (cm_b v11) = 0 then some (0 : Int32) else (cm_R w a0 4).bind fun r14 => (if cm_ga w .int r14 ((i1 * (8 : Int32)) + i2) = true then some (cm_I w r14 ((i1 * (8 : Int32)) + i2).toNatClampNeg) else none)) else none)) else none) else none)
theorem jt_8_0 (w : cm_W) (a0 : Nat) (i1 : Int32) (i2 : Int32) : sm cm_g 8 ck_8 kq_8 0 [(0, .ref a0), (1, .int i1), (2, .int i2)] [] w ((fn_8 w a0 i1 i2).map (cm_fI w)) := by
  unfold fn_8
  refine sm_seg 1 1 [(0, .ref a0), (1, .int i1), (2, .int i2)] [.ref a0] rfl ?_
  refine sm_gd fun h1 => ?_
  refine sm_gR rfl h1 rfl rfl fun r2 h3 => ?_
  show sm _ _ _ _ 4 [(0, .ref a0), (1, .int i1), (2, .int i2)] [.ref r2] _ _
  refine sm_seg 1 5 [(0, .ref a0), (1, .int i1), (2, .int i2)] [.int i1, .ref r2] rfl ?_
  refine sm_gd fun h4 => ?_
  refine sm_cV (as := [.int i1]) (rest := []) rfl rfl rfl rfl h4 (Nat.le_of_ble_eq_true rfl) (ca_7 w r2 i1) fun v5 h6 => ?_
  show sm _ _ _ _ 8 [(0, .ref a0), (1, .int i1), (2, .int i2)] [.int (cm_b v5)] _ _
  refine sm_if (pc1 := 36) (lv1 := []) (pc2 := 11) (lv2 := [(0, .ref a0), (1, .int i1), (2, .int i2)]) (st1 := []) rfl rfl rfl (fun h7 => ?_) (fun h7 => ?_)
  · refine sm_seg 1 37 [] [.int (0 : Int32)] rfl ?_
    exact sm_rI rfl rfl
  · refine sm_seg 1 12 [(0, .ref a0), (1, .int i1), (2, .int i2)] [.ref a0] rfl ?_
    refine sm_gR rfl h1 rfl rfl fun r8 h9 => ?_
    show sm _ _ _ _ 15 [(0, .ref a0), (1, .int i1), (2, .int i2)] [.ref r8] _ _
    refine sm_seg 1 16 [(0, .ref a0), (1, .int i1), (2, .int i2)] [.int i2, .ref r8] rfl ?_
    refine sm_gd fun h10 => ?_
    refine sm_cV (as := [.int i2]) (rest := []) rfl rfl rfl rfl h10 (Nat.le_of_ble_eq_true rfl) (ca_7 w r8 i2) fun v11 h12 => ?_
    show sm _ _ _ _ 19 [(0, .ref a0), (1, .int i1), (2, .int i2)] [.int (cm_b v11)] _ _
    refine sm_if (pc1 := 36) (lv1 := []) (pc2 := 22) (lv2 := [(0, .ref a0), (1, .int i1), (2, .int i2)]) (st1 := []) rfl rfl rfl (fun h13 => ?_) (fun h13 => ?_)
    · refine sm_seg 1 37 [] [.int (0 : Int32)] rfl ?_
      exact sm_rI rfl rfl
    · refine sm_seg 1 23 [(0, .ref a0), (1, .int i1), (2, .int i2)] [.ref a0] rfl ?_
      refine sm_gR rfl h1 rfl rfl fun r14 h15 => ?_
      show sm _ _ _ _ 26 [(0, .ref a0), (1, .int i1), (2, .int i2)] [.ref r14] _ _
      refine sm_seg 5 32 [(0, .ref a0), (1, .int i1), (2, .int i2)] [.int ((i1 * (8 : Int32)) + i2), .ref r14] rfl ?_
      refine sm_gd fun h16 => ?_
      refine sm_ai rfl h16 rfl ?_
      show sm _ _ _ _ 33 [(0, .ref a0), (1, .int i1), (2, .int i2)] [.int (cm_I w r14 ((i1 * (8 : Int32)) + i2).toNatClampNeg)] _ _
      refine sm_seg 1 37 [] [.int (cm_I w r14 ((i1 * (8 : Int32)) + i2).toNatClampNeg)] rfl ?_
      exact sm_rI rfl rfl
theorem ca_8 (w : cm_W) (a0 : Nat) (i1 : Int32) (i2 : Int32) : cm_ca cm_g 8 [.ref a0, .int i1, .int i2] w ((fn_8 w a0 i1 i2).map (cm_fI w)) := cm_ca_of (cm_me_of rfl rfl) rfl (jt_8_0 w a0 i1 i2)
-- java/util/Arrays.fill([JJ)V
def fn_9_6 : Nat → Nat → Int64 → Int32 → Int32 → cm_W → Option cm_W
  | 0, _, _, _, _, _ => none
  | n + 1, a0, j1, i3, i4, w => (if i4 ≤ i3 then some w else (if cm_ga w .long a0 i3 = true then (if cm_w2 58 63 a0 = true then fn_9_6 n a0 j1 (i3 + (1 : Int32)) i4 (cm_sL w a0 i3.toNatClampNeg j1) else none) else none))
theorem jt_9_6 : ∀ (n : Nat) (a0 : Nat) (j1 : Int64) (i3 : Int32) (i4 : Int32) (w : cm_W), sm cm_g 9 ck_9 kq_9 6 [(0, .ref a0), (1, .long j1), (3, .int i3), (4, .int i4)] [] w ((fn_9_6 n a0 j1 i3 i4 w).map cm_gV) := by
  intro n
  induction n with
  | zero => intro a0 j1 i3 i4 w; exact sm_no
  | succ n ih =>
    intro a0 j1 i3 i4 w
    rw [fn_9_6]
    refine sm_seg 2 9 [(0, .ref a0), (1, .long j1), (3, .int i3), (4, .int i4)] [.int i4, .int i3] rfl ?_
    refine sm_if (pc1 := 22) (lv1 := []) (pc2 := 12) (lv2 := [(0, .ref a0), (1, .long j1), (3, .int i3), (4, .int i4)]) (st1 := []) rfl rfl rfl (fun h1 => ?_) (fun h1 => ?_)
    · exact sm_rV rfl rfl
    · refine sm_seg 3 15 [(0, .ref a0), (1, .long j1), (3, .int i3), (4, .int i4)] [.long j1, .int i3, .ref a0] rfl ?_
      refine sm_gd fun h2 => ?_
      refine sm_gd fun h3 => ?_
      refine sm_sl rfl h2 h3 rfl rfl ?_
      show sm _ _ _ _ 16 [(0, .ref a0), (1, .long j1), (3, .int i3), (4, .int i4)] [] _ _
      refine sm_seg 2 6 [(0, .ref a0), (1, .long j1), (3, .int (i3 + (1 : Int32))), (4, .int i4)] [] rfl ?_
      exact ih a0 j1 (i3 + (1 : Int32)) i4 (cm_sL w a0 i3.toNatClampNeg j1)
def fn_9 (a0 : Nat) (j1 : Int64) (w : cm_W) : Option cm_W := (cm_al w a0).bind fun n4 => fn_9_6  cm_N a0 j1 (0 : Int32) (Int32.ofNat n4) w
theorem jt_9_0 (a0 : Nat) (j1 : Int64) (w : cm_W) : sm cm_g 9 ck_9 kq_9 0 [(0, .ref a0), (1, .long j1)] [] w ((fn_9 a0 j1 w).map cm_gV) := by
  unfold fn_9
  refine sm_seg 3 3 [(3, .int (0 : Int32)), (0, .ref a0), (1, .long j1)] [.ref a0] rfl ?_
  refine sm_len rfl rfl fun n4 h5 => ?_
  show sm _ _ _ _ 4 [(3, .int (0 : Int32)), (0, .ref a0), (1, .long j1)] [.int (Int32.ofNat n4)] _ _
  refine sm_seg 1 6 [(0, .ref a0), (1, .long j1), (3, .int (0 : Int32)), (4, .int (Int32.ofNat n4))] [] rfl ?_
  exact jt_9_6  cm_N a0 j1 (0 : Int32) (Int32.ofNat n4) w
theorem ca_9 (a0 : Nat) (j1 : Int64) (w : cm_W) : cm_ca cm_g 9 [.ref a0, .long j1] w ((fn_9 a0 j1 w).map cm_gV) := cm_ca_of (cm_me_of rfl rfl) rfl (jt_9_0 a0 j1 w)
-- NailedBoxes$Village.allSharesOf(I)I
def fn_10 (w : cm_W) (a0 : Nat) (i1 : Int32) : Option Int32 := (if cm_sh w a0 = some (.inl 9) then (cm_R w a0 3).bind fun r2 => (if cm_sh w r2 = some (.inl 7) then (fn_7 w r2 i1).bind fun v5 => (if (cm_b v5) = 0 then some (0 : Int32) else (cm_R w a0 3).bind fun r8 => (if cm_sh w r8 = some (.inl 7) then (fn_1 w r8 i1 (2 : Int32)).bind fun v11 => some v11 else none)) else none) else none)
theorem jt_10_0 (w : cm_W) (a0 : Nat) (i1 : Int32) : sm cm_g 10 ck_10 kq_10 0 [(0, .ref a0), (1, .int i1)] [] w ((fn_10 w a0 i1).map (cm_fI w)) := by
  unfold fn_10
  refine sm_seg 1 1 [(0, .ref a0), (1, .int i1)] [.ref a0] rfl ?_
  refine sm_gd fun h1 => ?_
  refine sm_gR rfl h1 rfl rfl fun r2 h3 => ?_
  show sm _ _ _ _ 4 [(0, .ref a0), (1, .int i1)] [.ref r2] _ _
  refine sm_seg 1 5 [(0, .ref a0), (1, .int i1)] [.int i1, .ref r2] rfl ?_
  refine sm_gd fun h4 => ?_
  refine sm_cV (as := [.int i1]) (rest := []) rfl rfl rfl rfl h4 (Nat.le_of_ble_eq_true rfl) (ca_7 w r2 i1) fun v5 h6 => ?_
  show sm _ _ _ _ 8 [(0, .ref a0), (1, .int i1)] [.int (cm_b v5)] _ _
  refine sm_if (pc1 := 23) (lv1 := []) (pc2 := 11) (lv2 := [(0, .ref a0), (1, .int i1)]) (st1 := []) rfl rfl rfl (fun h7 => ?_) (fun h7 => ?_)
  · refine sm_seg 1 24 [] [.int (0 : Int32)] rfl ?_
    exact sm_rI rfl rfl
  · refine sm_seg 1 12 [(0, .ref a0), (1, .int i1)] [.ref a0] rfl ?_
    refine sm_gR rfl h1 rfl rfl fun r8 h9 => ?_
    show sm _ _ _ _ 15 [(0, .ref a0), (1, .int i1)] [.ref r8] _ _
    refine sm_seg 2 17 [(0, .ref a0), (1, .int i1)] [.int (2 : Int32), .int i1, .ref r8] rfl ?_
    refine sm_gd fun h10 => ?_
    refine sm_cV (as := [.int i1, .int (2 : Int32)]) (rest := []) rfl rfl rfl rfl h10 (Nat.le_of_ble_eq_true rfl) (ca_1 w r8 i1 (2 : Int32)) fun v11 h12 => ?_
    show sm _ _ _ _ 20 [(0, .ref a0), (1, .int i1)] [.int v11] _ _
    refine sm_seg 1 24 [] [.int v11] rfl ?_
    exact sm_rI rfl rfl
theorem ca_10 (w : cm_W) (a0 : Nat) (i1 : Int32) : cm_ca cm_g 10 [.ref a0, .int i1] w ((fn_10 w a0 i1).map (cm_fI w)) := cm_ca_of (cm_me_of rfl rfl) rfl (jt_10_0 w a0 i1)
-- NailedBoxes$Chances.openBox(III)V
def fn_11_70 (k_3 : Nat → Int32 → Int32 → Int32 → Int32 → cm_W → Option cm_W) (a0 : Nat) (i1 : Int32) (i2 : Int32) (i3 : Int32) (i4 : Int32) (w : cm_W) : Option cm_W := k_3 a0 i1 i2 i3 (i4 + (1 : Int32)) w
theorem jt_11_70 (k_3 : Nat → Int32 → Int32 → Int32 → Int32 → cm_W → Option cm_W) (hk_3 : ∀ (a0 : Nat) (i1 : Int32) (i2 : Int32) (i3 : Int32) (i4 : Int32) (w : cm_W), sm cm_g 11 ck_11 kq_11 3 [(0, .ref a0), (1, .int i1), (2, .int i2), (3, .int i3), (4, .int i4)] [] w ((k_3 a0 i1 i2 i3 i4 w).map cm_gV)) (a0 : Nat) (i1 : Int32) (i2 : Int32) (i3 : Int32) (i4 : Int32) (w : cm_W) : sm cm_g 11 ck_11 kq_11 70 [(0, .ref a0), (1, .int i1), (2, .int i2), (3, .int i3), (4, .int i4)] [] w ((fn_11_70 k_3 a0 i1 i2 i3 i4 w).map cm_gV) := by
  unfold fn_11_70
  refine sm_seg 2 3 [(0, .ref a0), (1, .int i1), (2, .int i2), (3, .int i3), (4, .int (i4 + (1 : Int32)))] [] rfl ?_
  exact hk_3 a0 i1 i2 i3 (i4 + (1 : Int32)) w
def fn_11_3 : Nat → Nat → Int32 → Int32 → Int32 → Int32 → cm_W → Option cm_W
  | 0, _, _, _, _, _, _ => none
  | n + 1, a0, i1, i2, i3, i4, w => (if (8 : Int32) ≤ i4 then some w else (if cm_sh w a0 = some (.inl 1) then (cm_R w a0 0).bind fun r3 => (if cm_ga w .int r3 i4 = true then (cm_R w a0 1).bind fun r6 => (if cm_ga w .int r6 i4 = true then (if (cm_I w r6 i4.toNatClampNeg) ≤ 0 then fn_11_70  (fn_11_3 n) a0 i1 i2 i3 i4 w else (if (if (i2 + (cm_I w r3 i4.toNatClampNeg)) < (999 : Int32) then (i2 + (cm_I w r3 i4.toNatClampNeg)) else (999 : Int32)) < 0 then fn_11_70  (fn_11_3 n) a0 i1 i2 i3 i4 w else (cm_R w a0 3).bind fun r11 => (if cm_ga w .long r11 (if (i2 + (cm_I w r3 i4.toNatClampNeg)) < (999 : Int32) then (i2 + (cm_I w r3 i4.toNatClampNeg)) else (999 : Int32)) = true then (cm_R w a0 2).bind fun r14 => (if cm_ga w .long r14 i1 = true then (cm_R w a0 1).bind fun r17 => (if cm_ga w .int r17 i4 = true then (if ¬ (Int32.toInt64 i3) = 0 then (if cm_w2 58 63 r11 = true then fn_11_70  (fn_11_3 n) a0 i1 i2 i3 i4 (cm_sL w r11 (if (i2 + (cm_I w r3 i4.toNatClampNeg)) < (999 : Int32) then (i2 + (cm_I w r3 i4.toNatClampNeg)) else (999 : Int32)).toNatClampNeg ((cm_L w r11 (if (i2 + (cm_I w r3 i4.toNatClampNeg)) < (999 : Int32) then (i2 + (cm_I w r3 i4.toNatClampNeg)) else (999 : Int32)).toNatClampNeg) + (((cm_L w r14 i1.toNatClampNeg) * (Int32.toInt64 (cm_I w r17 i4.toNatClampNeg))) / (Int32.toInt64 i3)))) else none) else none) else none) else none) else none))) else none) else none) else none))
theorem jt_11_3 : ∀ (n : Nat) (a0 : Nat) (i1 : Int32) (i2 : Int32) (i3 : Int32) (i4 : Int32) (w : cm_W), sm cm_g 11 ck_11 kq_11 3 [(0, .ref a0), (1, .int i1), (2, .int i2), (3, .int i3), (4, .int i4)] [] w ((fn_11_3 n a0 i1 i2 i3 i4 w).map cm_gV) := by
  intro n
  induction n with
  | zero => intro a0 i1 i2 i3 i4 w; exact sm_no
  | succ n ih =>
    intro a0 i1 i2 i3 i4 w
    rw [fn_11_3]
    refine sm_seg 2 7 [(0, .ref a0), (1, .int i1), (2, .int i2), (3, .int i3), (4, .int i4)] [.int (8 : Int32), .int i4] rfl ?_
    refine sm_if (pc1 := 76) (lv1 := []) (pc2 := 10) (lv2 := [(0, .ref a0), (1, .int i1), (2, .int i2), (3, .int i3), (4, .int i4)]) (st1 := []) rfl rfl rfl (fun h1 => ?_) (fun h1 => ?_)
    · exact sm_rV rfl rfl
    · refine sm_seg 3 15 [(0, .ref a0), (1, .int i1), (2, .int i2), (3, .int i3), (4, .int i4)] [.ref a0, .int i2, .int (999 : Int32)] rfl ?_
      refine sm_gd fun h2 => ?_
      refine sm_gR rfl h2 rfl rfl fun r3 h4 => ?_
      show sm _ _ _ _ 18 [(0, .ref a0), (1, .int i1), (2, .int i2), (3, .int i3), (4, .int i4)] [.ref r3, .int i2, .int (999 : Int32)] _ _
      refine sm_seg 1 20 [(0, .ref a0), (1, .int i1), (2, .int i2), (3, .int i3), (4, .int i4)] [.int i4, .ref r3, .int i2, .int (999 : Int32)] rfl ?_
      refine sm_gd fun h5 => ?_
      refine sm_ai rfl h5 rfl ?_
      show sm _ _ _ _ 21 [(0, .ref a0), (1, .int i1), (2, .int i2), (3, .int i3), (4, .int i4)] [.int (cm_I w r3 i4.toNatClampNeg), .int i2, .int (999 : Int32)] _ _
      refine sm_seg 1 22 [(0, .ref a0), (1, .int i1), (2, .int i2), (3, .int i3), (4, .int i4)] [.int (i2 + (cm_I w r3 i4.toNatClampNeg)), .int (999 : Int32)] rfl ?_
      refine sm_at rfl rfl rfl ?_
      show sm _ _ _ _ 25 [(0, .ref a0), (1, .int i1), (2, .int i2), (3, .int i3), (4, .int i4)] [.int (if (i2 + (cm_I w r3 i4.toNatClampNeg)) < (999 : Int32) then (i2 + (cm_I w r3 i4.toNatClampNeg)) else (999 : Int32))] _ _
      refine sm_seg 2 28 [(5, .int (if (i2 + (cm_I w r3 i4.toNatClampNeg)) < (999 : Int32) then (i2 + (cm_I w r3 i4.toNatClampNeg)) else (999 : Int32))), (0, .ref a0), (1, .int i1), (2, .int i2), (3, .int i3), (4, .int i4)] [.ref a0] rfl ?_
      refine sm_gR rfl h2 rfl rfl fun r6 h7 => ?_
      show sm _ _ _ _ 31 [(5, .int (if (i2 + (cm_I w r3 i4.toNatClampNeg)) < (999 : Int32) then (i2 + (cm_I w r3 i4.toNatClampNeg)) else (999 : Int32))), (0, .ref a0), (1, .int i1), (2, .int i2), (3, .int i3), (4, .int i4)] [.ref r6] _ _
      refine sm_seg 1 33 [(5, .int (if (i2 + (cm_I w r3 i4.toNatClampNeg)) < (999 : Int32) then (i2 + (cm_I w r3 i4.toNatClampNeg)) else (999 : Int32))), (0, .ref a0), (1, .int i1), (2, .int i2), (3, .int i3), (4, .int i4)] [.int i4, .ref r6] rfl ?_
      refine sm_gd fun h8 => ?_
      refine sm_ai rfl h8 rfl ?_
      show sm _ _ _ _ 34 [(5, .int (if (i2 + (cm_I w r3 i4.toNatClampNeg)) < (999 : Int32) then (i2 + (cm_I w r3 i4.toNatClampNeg)) else (999 : Int32))), (0, .ref a0), (1, .int i1), (2, .int i2), (3, .int i3), (4, .int i4)] [.int (cm_I w r6 i4.toNatClampNeg)] _ _
      refine sm_if (pc1 := 70) (lv1 := [(0, .ref a0), (1, .int i1), (2, .int i2), (3, .int i3), (4, .int i4)]) (pc2 := 37) (lv2 := [(5, .int (if (i2 + (cm_I w r3 i4.toNatClampNeg)) < (999 : Int32) then (i2 + (cm_I w r3 i4.toNatClampNeg)) else (999 : Int32))), (0, .ref a0), (1, .int i1), (2, .int i2), (3, .int i3), (4, .int i4)]) (st1 := []) rfl rfl rfl (fun h9 => ?_) (fun h9 => ?_)
      · exact jt_11_70  (fn_11_3 n) ih a0 i1 i2 i3 i4 w
      · refine sm_seg 1 39 [(5, .int (if (i2 + (cm_I w r3 i4.toNatClampNeg)) < (999 : Int32) then (i2 + (cm_I w r3 i4.toNatClampNeg)) else (999 : Int32))), (0, .ref a0), (1, .int i1), (2, .int i2), (3, .int i3), (4, .int i4)] [.int (if (i2 + (cm_I w r3 i4.toNatClampNeg)) < (999 : Int32) then (i2 + (cm_I w r3 i4.toNatClampNeg)) else (999 : Int32))] rfl ?_
        refine sm_if (pc1 := 70) (lv1 := [(0, .ref a0), (1, .int i1), (2, .int i2), (3, .int i3), (4, .int i4)]) (pc2 := 42) (lv2 := [(5, .int (if (i2 + (cm_I w r3 i4.toNatClampNeg)) < (999 : Int32) then (i2 + (cm_I w r3 i4.toNatClampNeg)) else (999 : Int32))), (0, .ref a0), (1, .int i1), (2, .int i2), (3, .int i3), (4, .int i4)]) (st1 := []) rfl rfl rfl (fun h10 => ?_) (fun h10 => ?_)
        · exact jt_11_70  (fn_11_3 n) ih a0 i1 i2 i3 i4 w
        · refine sm_seg 1 43 [(5, .int (if (i2 + (cm_I w r3 i4.toNatClampNeg)) < (999 : Int32) then (i2 + (cm_I w r3 i4.toNatClampNeg)) else (999 : Int32))), (0, .ref a0), (1, .int i1), (2, .int i2), (3, .int i3), (4, .int i4)] [.ref a0] rfl ?_
          refine sm_gR rfl h2 rfl rfl fun r11 h12 => ?_
          show sm _ _ _ _ 46 [(5, .int (if (i2 + (cm_I w r3 i4.toNatClampNeg)) < (999 : Int32) then (i2 + (cm_I w r3 i4.toNatClampNeg)) else (999 : Int32))), (0, .ref a0), (1, .int i1), (2, .int i2), (3, .int i3), (4, .int i4)] [.ref r11] _ _
          refine sm_seg 2 49 [(5, .int (if (i2 + (cm_I w r3 i4.toNatClampNeg)) < (999 : Int32) then (i2 + (cm_I w r3 i4.toNatClampNeg)) else (999 : Int32))), (0, .ref a0), (1, .int i1), (2, .int i2), (3, .int i3), (4, .int i4)] [.int (if (i2 + (cm_I w r3 i4.toNatClampNeg)) < (999 : Int32) then (i2 + (cm_I w r3 i4.toNatClampNeg)) else (999 : Int32)), .ref r11, .int (if (i2 + (cm_I w r3 i4.toNatClampNeg)) < (999 : Int32) then (i2 + (cm_I w r3 i4.toNatClampNeg)) else (999 : Int32)), .ref r11] rfl ?_
          refine sm_gd fun h13 => ?_
          refine sm_al rfl h13 rfl ?_
          show sm _ _ _ _ 50 [(5, .int (if (i2 + (cm_I w r3 i4.toNatClampNeg)) < (999 : Int32) then (i2 + (cm_I w r3 i4.toNatClampNeg)) else (999 : Int32))), (0, .ref a0), (1, .int i1), (2, .int i2), (3, .int i3), (4, .int i4)] [.long (cm_L w r11 (if (i2 + (cm_I w r3 i4.toNatClampNeg)) < (999 : Int32) then (i2 + (cm_I w r3 i4.toNatClampNeg)) else (999 : Int32)).toNatClampNeg), .int (if (i2 + (cm_I w r3 i4.toNatClampNeg)) < (999 : Int32) then (i2 + (cm_I w r3 i4.toNatClampNeg)) else (999 : Int32)), .ref r11] _ _
          refine sm_seg 1 51 [(5, .int (if (i2 + (cm_I w r3 i4.toNatClampNeg)) < (999 : Int32) then (i2 + (cm_I w r3 i4.toNatClampNeg)) else (999 : Int32))), (0, .ref a0), (1, .int i1), (2, .int i2), (3, .int i3), (4, .int i4)] [.ref a0, .long (cm_L w r11 (if (i2 + (cm_I w r3 i4.toNatClampNeg)) < (999 : Int32) then (i2 + (cm_I w r3 i4.toNatClampNeg)) else (999 : Int32)).toNatClampNeg), .int (if (i2 + (cm_I w r3 i4.toNatClampNeg)) < (999 : Int32) then (i2 + (cm_I w r3 i4.toNatClampNeg)) else (999 : Int32)), .ref r11] rfl ?_
          refine sm_gR rfl h2 rfl rfl fun r14 h15 => ?_
          show sm _ _ _ _ 54 [(5, .int (if (i2 + (cm_I w r3 i4.toNatClampNeg)) < (999 : Int32) then (i2 + (cm_I w r3 i4.toNatClampNeg)) else (999 : Int32))), (0, .ref a0), (1, .int i1), (2, .int i2), (3, .int i3), (4, .int i4)] [.ref r14, .long (cm_L w r11 (if (i2 + (cm_I w r3 i4.toNatClampNeg)) < (999 : Int32) then (i2 + (cm_I w r3 i4.toNatClampNeg)) else (999 : Int32)).toNatClampNeg), .int (if (i2 + (cm_I w r3 i4.toNatClampNeg)) < (999 : Int32) then (i2 + (cm_I w r3 i4.toNatClampNeg)) else (999 : Int32)), .ref r11] _ _
          refine sm_seg 1 55 [(5, .int (if (i2 + (cm_I w r3 i4.toNatClampNeg)) < (999 : Int32) then (i2 + (cm_I w r3 i4.toNatClampNeg)) else (999 : Int32))), (0, .ref a0), (1, .int i1), (2, .int i2), (3, .int i3), (4, .int i4)] [.int i1, .ref r14, .long (cm_L w r11 (if (i2 + (cm_I w r3 i4.toNatClampNeg)) < (999 : Int32) then (i2 + (cm_I w r3 i4.toNatClampNeg)) else (999 : Int32)).toNatClampNeg), .int (if (i2 + (cm_I w r3 i4.toNatClampNeg)) < (999 : Int32) then (i2 + (cm_I w r3 i4.toNatClampNeg)) else (999 : Int32)), .ref r11] rfl ?_
          refine sm_gd fun h16 => ?_
          refine sm_al rfl h16 rfl ?_
          show sm _ _ _ _ 56 [(5, .int (if (i2 + (cm_I w r3 i4.toNatClampNeg)) < (999 : Int32) then (i2 + (cm_I w r3 i4.toNatClampNeg)) else (999 : Int32))), (0, .ref a0), (1, .int i1), (2, .int i2), (3, .int i3), (4, .int i4)] [.long (cm_L w r14 i1.toNatClampNeg), .long (cm_L w r11 (if (i2 + (cm_I w r3 i4.toNatClampNeg)) < (999 : Int32) then (i2 + (cm_I w r3 i4.toNatClampNeg)) else (999 : Int32)).toNatClampNeg), .int (if (i2 + (cm_I w r3 i4.toNatClampNeg)) < (999 : Int32) then (i2 + (cm_I w r3 i4.toNatClampNeg)) else (999 : Int32)), .ref r11] _ _
          refine sm_seg 1 57 [(5, .int (if (i2 + (cm_I w r3 i4.toNatClampNeg)) < (999 : Int32) then (i2 + (cm_I w r3 i4.toNatClampNeg)) else (999 : Int32))), (0, .ref a0), (1, .int i1), (2, .int i2), (3, .int i3), (4, .int i4)] [.ref a0, .long (cm_L w r14 i1.toNatClampNeg), .long (cm_L w r11 (if (i2 + (cm_I w r3 i4.toNatClampNeg)) < (999 : Int32) then (i2 + (cm_I w r3 i4.toNatClampNeg)) else (999 : Int32)).toNatClampNeg), .int (if (i2 + (cm_I w r3 i4.toNatClampNeg)) < (999 : Int32) then (i2 + (cm_I w r3 i4.toNatClampNeg)) else (999 : Int32)), .ref r11] rfl ?_
          refine sm_gR rfl h2 rfl rfl fun r17 h18 => ?_
          show sm _ _ _ _ 60 [(5, .int (if (i2 + (cm_I w r3 i4.toNatClampNeg)) < (999 : Int32) then (i2 + (cm_I w r3 i4.toNatClampNeg)) else (999 : Int32))), (0, .ref a0), (1, .int i1), (2, .int i2), (3, .int i3), (4, .int i4)] [.ref r17, .long (cm_L w r14 i1.toNatClampNeg), .long (cm_L w r11 (if (i2 + (cm_I w r3 i4.toNatClampNeg)) < (999 : Int32) then (i2 + (cm_I w r3 i4.toNatClampNeg)) else (999 : Int32)).toNatClampNeg), .int (if (i2 + (cm_I w r3 i4.toNatClampNeg)) < (999 : Int32) then (i2 + (cm_I w r3 i4.toNatClampNeg)) else (999 : Int32)), .ref r11] _ _
          refine sm_seg 1 62 [(5, .int (if (i2 + (cm_I w r3 i4.toNatClampNeg)) < (999 : Int32) then (i2 + (cm_I w r3 i4.toNatClampNeg)) else (999 : Int32))), (0, .ref a0), (1, .int i1), (2, .int i2), (3, .int i3), (4, .int i4)] [.int i4, .ref r17, .long (cm_L w r14 i1.toNatClampNeg), .long (cm_L w r11 (if (i2 + (cm_I w r3 i4.toNatClampNeg)) < (999 : Int32) then (i2 + (cm_I w r3 i4.toNatClampNeg)) else (999 : Int32)).toNatClampNeg), .int (if (i2 + (cm_I w r3 i4.toNatClampNeg)) < (999 : Int32) then (i2 + (cm_I w r3 i4.toNatClampNeg)) else (999 : Int32)), .ref r11] rfl ?_
          refine sm_gd fun h19 => ?_
          refine sm_ai rfl h19 rfl ?_
          show sm _ _ _ _ 63 [(5, .int (if (i2 + (cm_I w r3 i4.toNatClampNeg)) < (999 : Int32) then (i2 + (cm_I w r3 i4.toNatClampNeg)) else (999 : Int32))), (0, .ref a0), (1, .int i1), (2, .int i2), (3, .int i3), (4, .int i4)] [.int (cm_I w r17 i4.toNatClampNeg), .long (cm_L w r14 i1.toNatClampNeg), .long (cm_L w r11 (if (i2 + (cm_I w r3 i4.toNatClampNeg)) < (999 : Int32) then (i2 + (cm_I w r3 i4.toNatClampNeg)) else (999 : Int32)).toNatClampNeg), .int (if (i2 + (cm_I w r3 i4.toNatClampNeg)) < (999 : Int32) then (i2 + (cm_I w r3 i4.toNatClampNeg)) else (999 : Int32)), .ref r11] _ _
          refine sm_seg 4 67 [(5, .int (if (i2 + (cm_I w r3 i4.toNatClampNeg)) < (999 : Int32) then (i2 + (cm_I w r3 i4.toNatClampNeg)) else (999 : Int32))), (0, .ref a0), (1, .int i1), (2, .int i2), (3, .int i3), (4, .int i4)] [.long (Int32.toInt64 i3), .long ((cm_L w r14 i1.toNatClampNeg) * (Int32.toInt64 (cm_I w r17 i4.toNatClampNeg))), .long (cm_L w r11 (if (i2 + (cm_I w r3 i4.toNatClampNeg)) < (999 : Int32) then (i2 + (cm_I w r3 i4.toNatClampNeg)) else (999 : Int32)).toNatClampNeg), .int (if (i2 + (cm_I w r3 i4.toNatClampNeg)) < (999 : Int32) then (i2 + (cm_I w r3 i4.toNatClampNeg)) else (999 : Int32)), .ref r11] rfl ?_
          refine sm_gd fun h20 => ?_
          refine sm_ldiv rfl h20 rfl ?_
          show sm _ _ _ _ 68 [(5, .int (if (i2 + (cm_I w r3 i4.toNatClampNeg)) < (999 : Int32) then (i2 + (cm_I w r3 i4.toNatClampNeg)) else (999 : Int32))), (0, .ref a0), (1, .int i1), (2, .int i2), (3, .int i3), (4, .int i4)] [.long (((cm_L w r14 i1.toNatClampNeg) * (Int32.toInt64 (cm_I w r17 i4.toNatClampNeg))) / (Int32.toInt64 i3)), .long (cm_L w r11 (if (i2 + (cm_I w r3 i4.toNatClampNeg)) < (999 : Int32) then (i2 + (cm_I w r3 i4.toNatClampNeg)) else (999 : Int32)).toNatClampNeg), .int (if (i2 + (cm_I w r3 i4.toNatClampNeg)) < (999 : Int32) then (i2 + (cm_I w r3 i4.toNatClampNeg)) else (999 : Int32)), .ref r11] _ _
          refine sm_seg 1 69 [(5, .int (if (i2 + (cm_I w r3 i4.toNatClampNeg)) < (999 : Int32) then (i2 + (cm_I w r3 i4.toNatClampNeg)) else (999 : Int32))), (0, .ref a0), (1, .int i1), (2, .int i2), (3, .int i3), (4, .int i4)] [.long ((cm_L w r11 (if (i2 + (cm_I w r3 i4.toNatClampNeg)) < (999 : Int32) then (i2 + (cm_I w r3 i4.toNatClampNeg)) else (999 : Int32)).toNatClampNeg) + (((cm_L w r14 i1.toNatClampNeg) * (Int32.toInt64 (cm_I w r17 i4.toNatClampNeg))) / (Int32.toInt64 i3))), .int (if (i2 + (cm_I w r3 i4.toNatClampNeg)) < (999 : Int32) then (i2 + (cm_I w r3 i4.toNatClampNeg)) else (999 : Int32)), .ref r11] rfl ?_
          refine sm_gd fun h21 => ?_
          refine sm_sl rfl h13 h21 rfl rfl ?_
          show sm _ _ _ _ 70 [(0, .ref a0), (1, .int i1), (2, .int i2), (3, .int i3), (4, .int i4)] [] _ _
          exact jt_11_70  (fn_11_3 n) ih a0 i1 i2 i3 i4 (cm_sL w r11 (if (i2 + (cm_I w r3 i4.toNatClampNeg)) < (999 : Int32) then (i2 + (cm_I w r3 i4.toNatClampNeg)) else (999 : Int32)).toNatClampNeg ((cm_L w r11 (if (i2 + (cm_I w r3 i4.toNatClampNeg)) < (999 : Int32) then (i2 + (cm_I w r3 i4.toNatClampNeg)) else (999 : Int32)).toNatClampNeg) + (((cm_L w r14 i1.toNatClampNeg) * (Int32.toInt64 (cm_I w r17 i4.toNatClampNeg))) / (Int32.toInt64 i3))))
def fn_11 (a0 : Nat) (i1 : Int32) (i2 : Int32) (i3 : Int32) (w : cm_W) : Option cm_W := fn_11_3  cm_N a0 i1 i2 i3 (0 : Int32) w
theorem jt_11_0 (a0 : Nat) (i1 : Int32) (i2 : Int32) (i3 : Int32) (w : cm_W) : sm cm_g 11 ck_11 kq_11 0 [(0, .ref a0), (1, .int i1), (2, .int i2), (3, .int i3)] [] w ((fn_11 a0 i1 i2 i3 w).map cm_gV) := by
  unfold fn_11
  refine sm_seg 2 3 [(0, .ref a0), (1, .int i1), (2, .int i2), (3, .int i3), (4, .int (0 : Int32))] [] rfl ?_
  exact jt_11_3  cm_N a0 i1 i2 i3 (0 : Int32) w
theorem ca_11 (a0 : Nat) (i1 : Int32) (i2 : Int32) (i3 : Int32) (w : cm_W) : cm_ca cm_g 11 [.ref a0, .int i1, .int i2, .int i3] w ((fn_11 a0 i1 i2 i3 w).map cm_gV) := cm_ca_of (cm_me_of rfl rfl) rfl (jt_11_0 a0 i1 i2 i3 w)
-- NailedBoxes$Chances.buy(II)V
def fn_12_45 (k_14 : Nat → Int32 → Int32 → Int32 → cm_W → Option cm_W) (a0 : Nat) (i1 : Int32) (i2 : Int32) (i3 : Int32) (w : cm_W) : Option cm_W := k_14 a0 i1 i2 (i3 + (1 : Int32)) w
theorem jt_12_45 (k_14 : Nat → Int32 → Int32 → Int32 → cm_W → Option cm_W) (hk_14 : ∀ (a0 : Nat) (i1 : Int32) (i2 : Int32) (i3 : Int32) (w : cm_W), sm cm_g 12 ck_12 kq_12 14 [(0, .ref a0), (1, .int i1), (2, .int i2), (3, .int i3)] [] w ((k_14 a0 i1 i2 i3 w).map cm_gV)) (a0 : Nat) (i1 : Int32) (i2 : Int32) (i3 : Int32) (w : cm_W) : sm cm_g 12 ck_12 kq_12 45 [(0, .ref a0), (1, .int i1), (2, .int i2), (3, .int i3)] [] w ((fn_12_45 k_14 a0 i1 i2 i3 w).map cm_gV) := by
  unfold fn_12_45
  refine sm_seg 2 14 [(0, .ref a0), (1, .int i1), (2, .int i2), (3, .int (i3 + (1 : Int32)))] [] rfl ?_
  exact hk_14 a0 i1 i2 (i3 + (1 : Int32)) w
def fn_12_51 (a0 : Nat) (w : cm_W) : Option cm_W := (if cm_sh w a0 = some (.inl 1) then (cm_R w a0 2).bind fun r2 => (cm_R w a0 3).bind fun r4 => (if cm_w2 58 63 a0 = true then some (cm_sR (cm_sR w a0 2 (some r4)) a0 3 (some r2)) else none) else none)
theorem jt_12_51 (a0 : Nat) (w : cm_W) : sm cm_g 12 ck_12 kq_12 51 [(0, .ref a0)] [] w ((fn_12_51 a0 w).map cm_gV) := by
  unfold fn_12_51
  refine sm_seg 1 52 [(0, .ref a0)] [.ref a0] rfl ?_
  refine sm_gd fun h1 => ?_
  refine sm_gR rfl h1 rfl rfl fun r2 h3 => ?_
  show sm _ _ _ _ 55 [(0, .ref a0)] [.ref r2] _ _
  refine sm_seg 3 58 [(3, .ref r2), (0, .ref a0)] [.ref a0, .ref a0] rfl ?_
  refine sm_gR rfl h1 rfl rfl fun r4 h5 => ?_
  show sm _ _ _ _ 61 [(3, .ref r2), (0, .ref a0)] [.ref r4, .ref a0] _ _
  refine sm_gd fun h6 => ?_
  refine sm_pR rfl h1 rfl h6 rfl ?_
  show sm _ _ _ _ 64 [(3, .ref r2), (0, .ref a0)] [] _ _
  refine sm_seg 2 66 [(3, .ref r2), (0, .ref a0)] [.ref r2, .ref a0] rfl ?_
  refine sm_pR rfl h1 rfl h6 rfl ?_
  show sm _ _ _ _ 69 [(3, .ref r2), (0, .ref a0)] [] _ _
  exact sm_rV rfl rfl
def fn_12_14 : Nat → Nat → Int32 → Int32 → Int32 → cm_W → Option cm_W
  | 0, _, _, _, _, _ => none
  | n + 1, a0, i1, i2, i3, w => (if (999 : Int32) < i3 then fn_12_51  a0 w else (if cm_sh w a0 = some (.inl 1) then (cm_R w a0 2).bind fun r9 => (if cm_ga w .long r9 i3 = true then (if (lg_cmp (cm_L w r9 i3.toNatClampNeg) (0 : Int64)) ≤ 0 then fn_12_45  (fn_12_14 n) a0 i1 i2 i3 w else (fn_11 a0 i3 (i3 - i1) (if (1 : Int32) < i2 then i2 else (1 : Int32)) w).bind fun w13 => fn_12_45  (fn_12_14 n) a0 i1 i2 i3 w13) else none) else none))
theorem jt_12_14 : ∀ (n : Nat) (a0 : Nat) (i1 : Int32) (i2 : Int32) (i3 : Int32) (w : cm_W), sm cm_g 12 ck_12 kq_12 14 [(0, .ref a0), (1, .int i1), (2, .int i2), (3, .int i3)] [] w ((fn_12_14 n a0 i1 i2 i3 w).map cm_gV) := by
  intro n
  induction n with
  | zero => intro a0 i1 i2 i3 w; exact sm_no
  | succ n ih =>
    intro a0 i1 i2 i3 w
    rw [fn_12_14]
    refine sm_seg 2 18 [(0, .ref a0), (1, .int i1), (2, .int i2), (3, .int i3)] [.int (999 : Int32), .int i3] rfl ?_
    refine sm_if (pc1 := 51) (lv1 := [(0, .ref a0)]) (pc2 := 21) (lv2 := [(0, .ref a0), (1, .int i1), (2, .int i2), (3, .int i3)]) (st1 := []) rfl rfl rfl (fun h7 => ?_) (fun h7 => ?_)
    · exact jt_12_51  a0 w
    · refine sm_seg 1 22 [(0, .ref a0), (1, .int i1), (2, .int i2), (3, .int i3)] [.ref a0] rfl ?_
      refine sm_gd fun h8 => ?_
      refine sm_gR rfl h8 rfl rfl fun r9 h10 => ?_
      show sm _ _ _ _ 25 [(0, .ref a0), (1, .int i1), (2, .int i2), (3, .int i3)] [.ref r9] _ _
      refine sm_seg 1 26 [(0, .ref a0), (1, .int i1), (2, .int i2), (3, .int i3)] [.int i3, .ref r9] rfl ?_
      refine sm_gd fun h11 => ?_
      refine sm_al rfl h11 rfl ?_
      show sm _ _ _ _ 27 [(0, .ref a0), (1, .int i1), (2, .int i2), (3, .int i3)] [.long (cm_L w r9 i3.toNatClampNeg)] _ _
      refine sm_seg 2 29 [(0, .ref a0), (1, .int i1), (2, .int i2), (3, .int i3)] [.int (lg_cmp (cm_L w r9 i3.toNatClampNeg) (0 : Int64))] rfl ?_
      refine sm_if (pc1 := 45) (lv1 := [(0, .ref a0), (1, .int i1), (2, .int i2), (3, .int i3)]) (pc2 := 32) (lv2 := [(0, .ref a0), (1, .int i1), (2, .int i2), (3, .int i3)]) (st1 := []) rfl rfl rfl (fun h12 => ?_) (fun h12 => ?_)
      · exact jt_12_45  (fn_12_14 n) ih a0 i1 i2 i3 w
      · refine sm_seg 7 39 [(0, .ref a0), (1, .int i1), (2, .int i2), (3, .int i3)] [.int i2, .int (1 : Int32), .int (i3 - i1), .int i3, .ref a0] rfl ?_
        refine sm_at rfl rfl rfl ?_
        show sm _ _ _ _ 42 [(0, .ref a0), (1, .int i1), (2, .int i2), (3, .int i3)] [.int (if (1 : Int32) < i2 then i2 else (1 : Int32)), .int (i3 - i1), .int i3, .ref a0] _ _
        refine sm_cV (as := [.int i3, .int (i3 - i1), .int (if (1 : Int32) < i2 then i2 else (1 : Int32))]) (rest := []) rfl rfl rfl rfl h8 (Nat.le_of_ble_eq_true rfl) (ca_11  a0 i3 (i3 - i1) (if (1 : Int32) < i2 then i2 else (1 : Int32)) w) fun w13 h14 => ?_
        show sm _ _ _ _ 45 [(0, .ref a0), (1, .int i1), (2, .int i2), (3, .int i3)] [] _ _
        exact jt_12_45  (fn_12_14 n) ih a0 i1 i2 i3 w13
def fn_12 (a0 : Nat) (i1 : Int32) (i2 : Int32) (w : cm_W) : Option cm_W := (if cm_sh w a0 = some (.inl 1) then (cm_R w a0 3).bind fun r16 => (fn_9 r16 (0 : Int64) w).bind fun w18 => fn_12_14  cm_N a0 i1 i2 (if (0 : Int32) < i1 then i1 else (0 : Int32)) w18 else none)
theorem jt_12_0 (a0 : Nat) (i1 : Int32) (i2 : Int32) (w : cm_W) : sm cm_g 12 ck_12 kq_12 0 [(0, .ref a0), (1, .int i1), (2, .int i2)] [] w ((fn_12 a0 i1 i2 w).map cm_gV) := by
  unfold fn_12
  refine sm_seg 1 1 [(0, .ref a0), (1, .int i1), (2, .int i2)] [.ref a0] rfl ?_
  refine sm_gd fun h15 => ?_
  refine sm_gR rfl h15 rfl rfl fun r16 h17 => ?_
  show sm _ _ _ _ 4 [(0, .ref a0), (1, .int i1), (2, .int i2)] [.ref r16] _ _
  refine sm_seg 1 5 [(0, .ref a0), (1, .int i1), (2, .int i2)] [.long (0 : Int64), .ref r16] rfl ?_
  refine sm_cS (av := [.ref r16, .long (0 : Int64)]) (rest := []) rfl rfl rfl rfl (Nat.le_of_ble_eq_true rfl) (ca_9  r16 (0 : Int64) w) fun w18 h19 => ?_
  show sm _ _ _ _ 8 [(0, .ref a0), (1, .int i1), (2, .int i2)] [] _ _
  refine sm_seg 2 10 [(0, .ref a0), (1, .int i1), (2, .int i2)] [.int i1, .int (0 : Int32)] rfl ?_
  refine sm_at rfl rfl rfl ?_
  show sm _ _ _ _ 13 [(0, .ref a0), (1, .int i1), (2, .int i2)] [.int (if (0 : Int32) < i1 then i1 else (0 : Int32))] _ _
  refine sm_seg 1 14 [(0, .ref a0), (1, .int i1), (2, .int i2), (3, .int (if (0 : Int32) < i1 then i1 else (0 : Int32)))] [] rfl ?_
  exact jt_12_14  cm_N a0 i1 i2 (if (0 : Int32) < i1 then i1 else (0 : Int32)) w18
theorem ca_12 (a0 : Nat) (i1 : Int32) (i2 : Int32) (w : cm_W) : cm_ca cm_g 12 [.ref a0, .int i1, .int i2] w ((fn_12 a0 i1 i2 w).map cm_gV) := cm_ca_of (cm_me_of rfl rfl) rfl (jt_12_0 a0 i1 i2 w)
-- NailedBoxes$Chances.ofLasting(LNailedBoxes$Village;IIIII)I
def fn_13_140 (j7 : Int64) (w : cm_W) : Option (Int32 × cm_W) := some ((Int64.toInt32 (j7 / (100000000 : Int64))), w)
theorem jt_13_140 (j7 : Int64) (w : cm_W) : sm cm_g 13 ck_13 kq_13 140 [(7, .long j7)] [] w ((fn_13_140 j7 w).map cm_gI) := by
  unfold fn_13_140
  refine sm_seg 4 147 [(7, .long j7)] [.int (Int64.toInt32 (j7 / (100000000 : Int64)))] rfl ?_
  exact sm_rIW rfl rfl
def fn_13_114 : Nat → Nat → Int64 → Int32 → cm_W → Option (Int32 × cm_W)
  | 0, _, _, _, _ => none
  | n + 1, a0, j7, i9, w => (if (999 : Int32) < i9 then fn_13_140  j7 w else (if cm_sh w a0 = some (.inl 1) then (cm_R w a0 2).bind fun r3 => (if cm_ga w .long r3 i9 = true then fn_13_114 n a0 (j7 + (cm_L w r3 i9.toNatClampNeg)) (i9 + (1 : Int32)) w else none) else none))
theorem jt_13_114 : ∀ (n : Nat) (a0 : Nat) (j7 : Int64) (i9 : Int32) (w : cm_W), sm cm_g 13 ck_13 kq_13 114 [(0, .ref a0), (7, .long j7), (9, .int i9)] [] w ((fn_13_114 n a0 j7 i9 w).map cm_gI) := by
  intro n
  induction n with
  | zero => intro a0 j7 i9 w; exact sm_no
  | succ n ih =>
    intro a0 j7 i9 w
    rw [fn_13_114]
    refine sm_seg 2 119 [(0, .ref a0), (7, .long j7), (9, .int i9)] [.int (999 : Int32), .int i9] rfl ?_
    refine sm_if (pc1 := 140) (lv1 := [(7, .long j7)]) (pc2 := 122) (lv2 := [(0, .ref a0), (7, .long j7), (9, .int i9)]) (st1 := []) rfl rfl rfl (fun h1 => ?_) (fun h1 => ?_)
    · exact jt_13_140  j7 w
    · refine sm_seg 2 125 [(0, .ref a0), (7, .long j7), (9, .int i9)] [.ref a0, .long j7] rfl ?_
      refine sm_gd fun h2 => ?_
      refine sm_gR rfl h2 rfl rfl fun r3 h4 => ?_
      show sm _ _ _ _ 128 [(0, .ref a0), (7, .long j7), (9, .int i9)] [.ref r3, .long j7] _ _
      refine sm_seg 1 130 [(0, .ref a0), (7, .long j7), (9, .int i9)] [.int i9, .ref r3, .long j7] rfl ?_
      refine sm_gd fun h5 => ?_
      refine sm_al rfl h5 rfl ?_
      show sm _ _ _ _ 131 [(0, .ref a0), (7, .long j7), (9, .int i9)] [.long (cm_L w r3 i9.toNatClampNeg), .long j7] _ _
      refine sm_seg 4 114 [(0, .ref a0), (7, .long (j7 + (cm_L w r3 i9.toNatClampNeg))), (9, .int (i9 + (1 : Int32)))] [] rfl ?_
      exact ih a0 (j7 + (cm_L w r3 i9.toNatClampNeg)) (i9 + (1 : Int32)) w
def fn_13_108 (a0 : Nat) (w : cm_W) : Option (Int32 × cm_W) := fn_13_114  cm_N a0 (0 : Int64) (0 : Int32) w
theorem jt_13_108 (a0 : Nat) (w : cm_W) : sm cm_g 13 ck_13 kq_13 108 [(0, .ref a0)] [] w ((fn_13_108 a0 w).map cm_gI) := by
  unfold fn_13_108
  refine sm_seg 4 114 [(0, .ref a0), (7, .long (0 : Int64)), (9, .int (0 : Int32))] [] rfl ?_
  exact jt_13_114  cm_N a0 (0 : Int64) (0 : Int32) w
def fn_13_80 : Nat → Nat → Nat → Int32 → Int32 → Int32 → Int32 → cm_W → Option (Int32 × cm_W)
  | 0, _, _, _, _, _, _, _ => none
  | n + 1, a0, a1, i2, i5, i6, i7, w => (if i6 ≤ i7 then fn_13_108  a0 w else (if cm_sh w a1 = some (.inl 9) then (fn_10 w a1 i2).bind fun v8 => (if cm_sh w a0 = some (.inl 1) then (fn_12 a0 i5 (if (1 : Int32) < v8 then v8 else (1 : Int32)) w).bind fun w11 => fn_13_80 n a0 a1 i2 i5 i6 (i7 + (1 : Int32)) w11 else none) else none))
theorem jt_13_80 : ∀ (n : Nat) (a0 : Nat) (a1 : Nat) (i2 : Int32) (i5 : Int32) (i6 : Int32) (i7 : Int32) (w : cm_W), sm cm_g 13 ck_13 kq_13 80 [(0, .ref a0), (1, .ref a1), (2, .int i2), (5, .int i5), (6, .int i6), (7, .int i7)] [] w ((fn_13_80 n a0 a1 i2 i5 i6 i7 w).map cm_gI) := by
  intro n
  induction n with
  | zero => intro a0 a1 i2 i5 i6 i7 w; exact sm_no
  | succ n ih =>
    intro a0 a1 i2 i5 i6 i7 w
    rw [fn_13_80]
    refine sm_seg 2 84 [(0, .ref a0), (1, .ref a1), (2, .int i2), (5, .int i5), (6, .int i6), (7, .int i7)] [.int i6, .int i7] rfl ?_
    refine sm_if (pc1 := 108) (lv1 := [(0, .ref a0)]) (pc2 := 87) (lv2 := [(0, .ref a0), (1, .ref a1), (2, .int i2), (5, .int i5), (6, .int i6), (7, .int i7)]) (st1 := []) rfl rfl rfl (fun h6 => ?_) (fun h6 => ?_)
    · exact jt_13_108  a0 w
    · refine sm_seg 5 93 [(0, .ref a0), (1, .ref a1), (2, .int i2), (5, .int i5), (6, .int i6), (7, .int i7)] [.int i2, .ref a1, .int (1 : Int32), .int i5, .ref a0] rfl ?_
      refine sm_gd fun h7 => ?_
      refine sm_cV (as := [.int i2]) (rest := [.int (1 : Int32), .int i5, .ref a0]) rfl rfl rfl rfl h7 (Nat.le_of_ble_eq_true rfl) (ca_10 w a1 i2) fun v8 h9 => ?_
      show sm _ _ _ _ 96 [(0, .ref a0), (1, .ref a1), (2, .int i2), (5, .int i5), (6, .int i6), (7, .int i7)] [.int v8, .int (1 : Int32), .int i5, .ref a0] _ _
      refine sm_at rfl rfl rfl ?_
      show sm _ _ _ _ 99 [(0, .ref a0), (1, .ref a1), (2, .int i2), (5, .int i5), (6, .int i6), (7, .int i7)] [.int (if (1 : Int32) < v8 then v8 else (1 : Int32)), .int i5, .ref a0] _ _
      refine sm_gd fun h10 => ?_
      refine sm_cV (as := [.int i5, .int (if (1 : Int32) < v8 then v8 else (1 : Int32))]) (rest := []) rfl rfl rfl rfl h10 (Nat.le_of_ble_eq_true rfl) (ca_12  a0 i5 (if (1 : Int32) < v8 then v8 else (1 : Int32)) w) fun w11 h12 => ?_
      show sm _ _ _ _ 102 [(0, .ref a0), (1, .ref a1), (2, .int i2), (5, .int i5), (6, .int i6), (7, .int i7)] [] _ _
      refine sm_seg 2 80 [(0, .ref a0), (1, .ref a1), (2, .int i2), (5, .int i5), (6, .int i6), (7, .int (i7 + (1 : Int32)))] [] rfl ?_
      exact ih a0 a1 i2 i5 i6 (i7 + (1 : Int32)) w11
def fn_13_77 (a0 : Nat) (a1 : Nat) (i2 : Int32) (i5 : Int32) (i6 : Int32) (w : cm_W) : Option (Int32 × cm_W) := fn_13_80  cm_N a0 a1 i2 i5 i6 (0 : Int32) w
theorem jt_13_77 (a0 : Nat) (a1 : Nat) (i2 : Int32) (i5 : Int32) (i6 : Int32) (w : cm_W) : sm cm_g 13 ck_13 kq_13 77 [(0, .ref a0), (1, .ref a1), (2, .int i2), (5, .int i5), (6, .int i6)] [] w ((fn_13_77 a0 a1 i2 i5 i6 w).map cm_gI) := by
  unfold fn_13_77
  refine sm_seg 2 80 [(0, .ref a0), (1, .ref a1), (2, .int i2), (5, .int i5), (6, .int i6), (7, .int (0 : Int32))] [] rfl ?_
  exact jt_13_80  cm_N a0 a1 i2 i5 i6 (0 : Int32) w
def fn_13_44 (a0 : Nat) (a1 : Nat) (i2 : Int32) (i4 : Int32) (i5 : Int32) (i6 : Int32) (w : cm_W) : Option (Int32 × cm_W) := (if cm_sh w a0 = some (.inl 1) then (cm_R w a0 2).bind fun r14 => (fn_9 r14 (0 : Int64) w).bind fun w16 => (if i4 < 0 then fn_13_77  a0 a1 i2 i5 i6 w16 else (if cm_sh w16 a0 = some (.inl 1) then (cm_R w16 a0 2).bind fun r20 => (cm_al w16 r20).bind fun n22 => (if (Int32.ofNat n22) ≤ i4 then fn_13_77  a0 a1 i2 i5 i6 w16 else (cm_R w16 a0 2).bind fun r25 => (if cm_ga w16 .long r25 i4 = true then (if cm_w2 58 63 r25 = true then fn_13_77  a0 a1 i2 i5 i6 (cm_sL w16 r25 i4.toNatClampNeg (100000000000000 : Int64)) else none) else none)) else none)) else none)
theorem jt_13_44 (a0 : Nat) (a1 : Nat) (i2 : Int32) (i4 : Int32) (i5 : Int32) (i6 : Int32) (w : cm_W) : sm cm_g 13 ck_13 kq_13 44 [(0, .ref a0), (1, .ref a1), (2, .int i2), (4, .int i4), (5, .int i5), (6, .int i6)] [] w ((fn_13_44 a0 a1 i2 i4 i5 i6 w).map cm_gI) := by
  unfold fn_13_44
  refine sm_seg 1 45 [(0, .ref a0), (1, .ref a1), (2, .int i2), (4, .int i4), (5, .int i5), (6, .int i6)] [.ref a0] rfl ?_
  refine sm_gd fun h13 => ?_
  refine sm_gR rfl h13 rfl rfl fun r14 h15 => ?_
  show sm _ _ _ _ 48 [(0, .ref a0), (1, .ref a1), (2, .int i2), (4, .int i4), (5, .int i5), (6, .int i6)] [.ref r14] _ _
  refine sm_seg 1 49 [(0, .ref a0), (1, .ref a1), (2, .int i2), (4, .int i4), (5, .int i5), (6, .int i6)] [.long (0 : Int64), .ref r14] rfl ?_
  refine sm_cS (av := [.ref r14, .long (0 : Int64)]) (rest := []) rfl rfl rfl rfl (Nat.le_of_ble_eq_true rfl) (ca_9  r14 (0 : Int64) w) fun w16 h17 => ?_
  show sm _ _ _ _ 52 [(0, .ref a0), (1, .ref a1), (2, .int i2), (4, .int i4), (5, .int i5), (6, .int i6)] [] _ _
  refine sm_seg 1 54 [(0, .ref a0), (1, .ref a1), (2, .int i2), (4, .int i4), (5, .int i5), (6, .int i6)] [.int i4] rfl ?_
  refine sm_if (pc1 := 77) (lv1 := [(0, .ref a0), (1, .ref a1), (2, .int i2), (5, .int i5), (6, .int i6)]) (pc2 := 57) (lv2 := [(0, .ref a0), (1, .ref a1), (2, .int i2), (4, .int i4), (5, .int i5), (6, .int i6)]) (st1 := []) rfl rfl rfl (fun h18 => ?_) (fun h18 => ?_)
  · exact jt_13_77  a0 a1 i2 i5 i6 w16
  · refine sm_seg 2 60 [(0, .ref a0), (1, .ref a1), (2, .int i2), (4, .int i4), (5, .int i5), (6, .int i6)] [.ref a0, .int i4] rfl ?_
    refine sm_gd fun h19 => ?_
    refine sm_gR rfl h19 rfl rfl fun r20 h21 => ?_
    show sm _ _ _ _ 63 [(0, .ref a0), (1, .ref a1), (2, .int i2), (4, .int i4), (5, .int i5), (6, .int i6)] [.ref r20, .int i4] _ _
    refine sm_len rfl rfl fun n22 h23 => ?_
    show sm _ _ _ _ 64 [(0, .ref a0), (1, .ref a1), (2, .int i2), (4, .int i4), (5, .int i5), (6, .int i6)] [.int (Int32.ofNat n22), .int i4] _ _
    refine sm_if (pc1 := 77) (lv1 := [(0, .ref a0), (1, .ref a1), (2, .int i2), (5, .int i5), (6, .int i6)]) (pc2 := 67) (lv2 := [(0, .ref a0), (1, .ref a1), (2, .int i2), (4, .int i4), (5, .int i5), (6, .int i6)]) (st1 := []) rfl rfl rfl (fun h24 => ?_) (fun h24 => ?_)
    · exact jt_13_77  a0 a1 i2 i5 i6 w16
    · refine sm_seg 1 68 [(0, .ref a0), (1, .ref a1), (2, .int i2), (4, .int i4), (5, .int i5), (6, .int i6)] [.ref a0] rfl ?_
      refine sm_gR rfl h19 rfl rfl fun r25 h26 => ?_
      show sm _ _ _ _ 71 [(0, .ref a0), (1, .ref a1), (2, .int i2), (4, .int i4), (5, .int i5), (6, .int i6)] [.ref r25] _ _
      refine sm_seg 2 76 [(0, .ref a0), (1, .ref a1), (2, .int i2), (4, .int i4), (5, .int i5), (6, .int i6)] [.long (100000000000000 : Int64), .int i4, .ref r25] rfl ?_
      refine sm_gd fun h27 => ?_
      refine sm_gd fun h28 => ?_
      refine sm_sl rfl h27 h28 rfl rfl ?_
      show sm _ _ _ _ 77 [(0, .ref a0), (1, .ref a1), (2, .int i2), (5, .int i5), (6, .int i6)] [] _ _
      exact jt_13_77  a0 a1 i2 i5 i6 (cm_sL w16 r25 i4.toNatClampNeg (100000000000000 : Int64))
def fn_13_3 : Nat → Nat → Nat → Int32 → Int32 → Int32 → Int32 → Int32 → Int32 → cm_W → Option (Int32 × cm_W)
  | 0, _, _, _, _, _, _, _, _, _ => none
  | n + 1, a0, a1, i2, i3, i4, i5, i6, i7, w => (if (8 : Int32) ≤ i7 then fn_13_44  a0 a1 i2 i4 i5 i6 w else (if cm_sh w a0 = some (.inl 1) then (cm_R w a0 0).bind fun r31 => (if cm_sh w a1 = some (.inl 9) then (fn_6 w a1 i7 i3).bind fun v34 => (if cm_ga w .int r31 i7 = true then (if cm_w2 58 63 r31 = true then (cm_R (cm_sI w r31 i7.toNatClampNeg v34) a0 1).bind fun r38 => (fn_8 (cm_sI w r31 i7.toNatClampNeg v34) a1 i2 i7).bind fun v40 => (if cm_ga w .int r38 i7 = true then (if cm_w2 58 63 r38 = true then fn_13_3 n a0 a1 i2 i3 i4 i5 i6 (i7 + (1 : Int32)) (cm_sI (cm_sI w r31 i7.toNatClampNeg v34) r38 i7.toNatClampNeg v40) else none) else none) else none) else none) else none) else none))
theorem jt_13_3 : ∀ (n : Nat) (a0 : Nat) (a1 : Nat) (i2 : Int32) (i3 : Int32) (i4 : Int32) (i5 : Int32) (i6 : Int32) (i7 : Int32) (w : cm_W), sm cm_g 13 ck_13 kq_13 3 [(0, .ref a0), (1, .ref a1), (2, .int i2), (3, .int i3), (4, .int i4), (5, .int i5), (6, .int i6), (7, .int i7)] [] w ((fn_13_3 n a0 a1 i2 i3 i4 i5 i6 i7 w).map cm_gI) := by
  intro n
  induction n with
  | zero => intro a0 a1 i2 i3 i4 i5 i6 i7 w; exact sm_no
  | succ n ih =>
    intro a0 a1 i2 i3 i4 i5 i6 i7 w
    rw [fn_13_3]
    refine sm_seg 2 7 [(0, .ref a0), (1, .ref a1), (2, .int i2), (3, .int i3), (4, .int i4), (5, .int i5), (6, .int i6), (7, .int i7)] [.int (8 : Int32), .int i7] rfl ?_
    refine sm_if (pc1 := 44) (lv1 := [(0, .ref a0), (1, .ref a1), (2, .int i2), (4, .int i4), (5, .int i5), (6, .int i6)]) (pc2 := 10) (lv2 := [(0, .ref a0), (1, .ref a1), (2, .int i2), (3, .int i3), (4, .int i4), (5, .int i5), (6, .int i6), (7, .int i7)]) (st1 := []) rfl rfl rfl (fun h29 => ?_) (fun h29 => ?_)
    · exact jt_13_44  a0 a1 i2 i4 i5 i6 w
    · refine sm_seg 1 11 [(0, .ref a0), (1, .ref a1), (2, .int i2), (3, .int i3), (4, .int i4), (5, .int i5), (6, .int i6), (7, .int i7)] [.ref a0] rfl ?_
      refine sm_gd fun h30 => ?_
      refine sm_gR rfl h30 rfl rfl fun r31 h32 => ?_
      show sm _ _ _ _ 14 [(0, .ref a0), (1, .ref a1), (2, .int i2), (3, .int i3), (4, .int i4), (5, .int i5), (6, .int i6), (7, .int i7)] [.ref r31] _ _
      refine sm_seg 4 20 [(0, .ref a0), (1, .ref a1), (2, .int i2), (3, .int i3), (4, .int i4), (5, .int i5), (6, .int i6), (7, .int i7)] [.int i3, .int i7, .ref a1, .int i7, .ref r31] rfl ?_
      refine sm_gd fun h33 => ?_
      refine sm_cV (as := [.int i7, .int i3]) (rest := [.int i7, .ref r31]) rfl rfl rfl rfl h33 (Nat.le_of_ble_eq_true rfl) (ca_6 w a1 i7 i3) fun v34 h35 => ?_
      show sm _ _ _ _ 23 [(0, .ref a0), (1, .ref a1), (2, .int i2), (3, .int i3), (4, .int i4), (5, .int i5), (6, .int i6), (7, .int i7)] [.int v34, .int i7, .ref r31] _ _
      refine sm_gd fun h36 => ?_
      refine sm_gd fun h37 => ?_
      refine sm_si rfl h36 h37 rfl rfl ?_
      show sm _ _ _ _ 24 [(0, .ref a0), (1, .ref a1), (2, .int i2), (3, .int i3), (4, .int i4), (5, .int i5), (6, .int i6), (7, .int i7)] [] _ _
      refine sm_seg 1 25 [(0, .ref a0), (1, .ref a1), (2, .int i2), (3, .int i3), (4, .int i4), (5, .int i5), (6, .int i6), (7, .int i7)] [.ref a0] rfl ?_
      refine sm_gR rfl h30 rfl rfl fun r38 h39 => ?_
      show sm _ _ _ _ 28 [(0, .ref a0), (1, .ref a1), (2, .int i2), (3, .int i3), (4, .int i4), (5, .int i5), (6, .int i6), (7, .int i7)] [.ref r38] _ _
      refine sm_seg 4 34 [(0, .ref a0), (1, .ref a1), (2, .int i2), (3, .int i3), (4, .int i4), (5, .int i5), (6, .int i6), (7, .int i7)] [.int i7, .int i2, .ref a1, .int i7, .ref r38] rfl ?_
      refine sm_cV (as := [.int i2, .int i7]) (rest := [.int i7, .ref r38]) rfl rfl rfl rfl h33 (Nat.le_of_ble_eq_true rfl) (ca_8 (cm_sI w r31 i7.toNatClampNeg v34) a1 i2 i7) fun v40 h41 => ?_
      show sm _ _ _ _ 37 [(0, .ref a0), (1, .ref a1), (2, .int i2), (3, .int i3), (4, .int i4), (5, .int i5), (6, .int i6), (7, .int i7)] [.int v40, .int i7, .ref r38] _ _
      refine sm_gd fun h42 => ?_
      refine sm_gd fun h43 => ?_
      refine sm_si rfl h42 h43 rfl rfl ?_
      show sm _ _ _ _ 38 [(0, .ref a0), (1, .ref a1), (2, .int i2), (3, .int i3), (4, .int i4), (5, .int i5), (6, .int i6), (7, .int i7)] [] _ _
      refine sm_seg 2 3 [(0, .ref a0), (1, .ref a1), (2, .int i2), (3, .int i3), (4, .int i4), (5, .int i5), (6, .int i6), (7, .int (i7 + (1 : Int32)))] [] rfl ?_
      exact ih a0 a1 i2 i3 i4 i5 i6 (i7 + (1 : Int32)) (cm_sI (cm_sI w r31 i7.toNatClampNeg v34) r38 i7.toNatClampNeg v40)
def fn_13 (a0 : Nat) (a1 : Nat) (i2 : Int32) (i3 : Int32) (i4 : Int32) (i5 : Int32) (i6 : Int32) (w : cm_W) : Option (Int32 × cm_W) := fn_13_3  cm_N a0 a1 i2 i3 i4 i5 i6 (0 : Int32) w
theorem jt_13_0 (a0 : Nat) (a1 : Nat) (i2 : Int32) (i3 : Int32) (i4 : Int32) (i5 : Int32) (i6 : Int32) (w : cm_W) : sm cm_g 13 ck_13 kq_13 0 [(0, .ref a0), (1, .ref a1), (2, .int i2), (3, .int i3), (4, .int i4), (5, .int i5), (6, .int i6)] [] w ((fn_13 a0 a1 i2 i3 i4 i5 i6 w).map cm_gI) := by
  unfold fn_13
  refine sm_seg 2 3 [(0, .ref a0), (1, .ref a1), (2, .int i2), (3, .int i3), (4, .int i4), (5, .int i5), (6, .int i6), (7, .int (0 : Int32))] [] rfl ?_
  exact jt_13_3  cm_N a0 a1 i2 i3 i4 i5 i6 (0 : Int32) w
theorem ca_13 (a0 : Nat) (a1 : Nat) (i2 : Int32) (i3 : Int32) (i4 : Int32) (i5 : Int32) (i6 : Int32) (w : cm_W) : cm_ca cm_g 13 [.ref a0, .ref a1, .int i2, .int i3, .int i4, .int i5, .int i6] w ((fn_13 a0 a1 i2 i3 i4 i5 i6 w).map cm_gI) := cm_ca_of (cm_me_of rfl rfl) rfl (jt_13_0 a0 a1 i2 i3 i4 i5 i6 w)
-- java/util/Arrays.fill([II)V
def fn_15_5 : Nat → Nat → Int32 → Int32 → Int32 → cm_W → Option cm_W
  | 0, _, _, _, _, _ => none
  | n + 1, a0, i1, i2, i3, w => (if i3 ≤ i2 then some w else (if cm_ga w .int a0 i2 = true then (if cm_w2 46 48 a0 = true then fn_15_5 n a0 i1 (i2 + (1 : Int32)) i3 (cm_sI w a0 i2.toNatClampNeg i1) else none) else none))
theorem jt_15_5 : ∀ (n : Nat) (a0 : Nat) (i1 : Int32) (i2 : Int32) (i3 : Int32) (w : cm_W), sm cm_g 15 ck_15 kq_15 5 [(0, .ref a0), (1, .int i1), (2, .int i2), (3, .int i3)] [] w ((fn_15_5 n a0 i1 i2 i3 w).map cm_gV) := by
  intro n
  induction n with
  | zero => intro a0 i1 i2 i3 w; exact sm_no
  | succ n ih =>
    intro a0 i1 i2 i3 w
    rw [fn_15_5]
    refine sm_seg 2 7 [(0, .ref a0), (1, .int i1), (2, .int i2), (3, .int i3)] [.int i3, .int i2] rfl ?_
    refine sm_if (pc1 := 20) (lv1 := []) (pc2 := 10) (lv2 := [(0, .ref a0), (1, .int i1), (2, .int i2), (3, .int i3)]) (st1 := []) rfl rfl rfl (fun h1 => ?_) (fun h1 => ?_)
    · exact sm_rV rfl rfl
    · refine sm_seg 3 13 [(0, .ref a0), (1, .int i1), (2, .int i2), (3, .int i3)] [.int i1, .int i2, .ref a0] rfl ?_
      refine sm_gd fun h2 => ?_
      refine sm_gd fun h3 => ?_
      refine sm_si rfl h2 h3 rfl rfl ?_
      show sm _ _ _ _ 14 [(0, .ref a0), (1, .int i1), (2, .int i2), (3, .int i3)] [] _ _
      refine sm_seg 2 5 [(0, .ref a0), (1, .int i1), (2, .int (i2 + (1 : Int32))), (3, .int i3)] [] rfl ?_
      exact ih a0 i1 (i2 + (1 : Int32)) i3 (cm_sI w a0 i2.toNatClampNeg i1)
def fn_15 (a0 : Nat) (i1 : Int32) (w : cm_W) : Option cm_W := (cm_al w a0).bind fun n4 => fn_15_5  cm_N a0 i1 (0 : Int32) (Int32.ofNat n4) w
theorem jt_15_0 (a0 : Nat) (i1 : Int32) (w : cm_W) : sm cm_g 15 ck_15 kq_15 0 [(0, .ref a0), (1, .int i1)] [] w ((fn_15 a0 i1 w).map cm_gV) := by
  unfold fn_15
  refine sm_seg 3 3 [(2, .int (0 : Int32)), (0, .ref a0), (1, .int i1)] [.ref a0] rfl ?_
  refine sm_len rfl rfl fun n4 h5 => ?_
  show sm _ _ _ _ 4 [(2, .int (0 : Int32)), (0, .ref a0), (1, .int i1)] [.int (Int32.ofNat n4)] _ _
  refine sm_seg 1 5 [(0, .ref a0), (1, .int i1), (2, .int (0 : Int32)), (3, .int (Int32.ofNat n4))] [] rfl ?_
  exact jt_15_5  cm_N a0 i1 (0 : Int32) (Int32.ofNat n4) w
theorem ca_15 (a0 : Nat) (i1 : Int32) (w : cm_W) : cm_ca cm_g 15 [.ref a0, .int i1] w ((fn_15 a0 i1 w).map cm_gV) := cm_ca_of (cm_me_of rfl rfl) rfl (jt_15_0 a0 i1 w)
-- NailedBoxes$State.outermostOf(I)I
def fn_16_4 (w : cm_W) : Nat → Nat → Int32 → Int32 → Option Int32
  | 0, _, _, _ => none
  | n + 1, a0, i2, i3 => (if (40 : Int32) ≤ i3 then some i2 else (if cm_sh w a0 = some (.inl 6) then (cm_R w a0 0).bind fun r3 => (if cm_sh w r3 = some (.inl 7) then (fn_1 w r3 i2 (3 : Int32)).bind fun v6 => (if v6 = (-1 : Int32) then some i2 else (cm_R w a0 0).bind fun r9 => (if cm_sh w r9 = some (.inl 7) then (fn_1 w r9 i2 (3 : Int32)).bind fun v12 => fn_16_4 w n a0 v12 (i3 + (1 : Int32)) else none)) else none) else none))
theorem jt_16_4 (w : cm_W) : ∀ (n : Nat) (a0 : Nat) (i2 : Int32) (i3 : Int32), sm cm_g 16 ck_16 kq_16 4 [(0, .ref a0), (2, .int i2), (3, .int i3)] [] w ((fn_16_4 w n a0 i2 i3).map (cm_fI w)) := by
  intro n
  induction n with
  | zero => intro a0 i2 i3; exact sm_no
  | succ n ih =>
    intro a0 i2 i3
    rw [fn_16_4]
    refine sm_seg 2 7 [(0, .ref a0), (2, .int i2), (3, .int i3)] [.int (40 : Int32), .int i3] rfl ?_
    refine sm_if (pc1 := 39) (lv1 := [(2, .int i2)]) (pc2 := 10) (lv2 := [(0, .ref a0), (2, .int i2), (3, .int i3)]) (st1 := []) rfl rfl rfl (fun h1 => ?_) (fun h1 => ?_)
    · refine sm_seg 1 40 [(2, .int i2)] [.int i2] rfl ?_
      exact sm_rI rfl rfl
    · refine sm_seg 1 11 [(0, .ref a0), (2, .int i2), (3, .int i3)] [.ref a0] rfl ?_
      refine sm_gd fun h2 => ?_
      refine sm_gR rfl h2 rfl rfl fun r3 h4 => ?_
      show sm _ _ _ _ 14 [(0, .ref a0), (2, .int i2), (3, .int i3)] [.ref r3] _ _
      refine sm_seg 2 16 [(0, .ref a0), (2, .int i2), (3, .int i3)] [.int (3 : Int32), .int i2, .ref r3] rfl ?_
      refine sm_gd fun h5 => ?_
      refine sm_cV (as := [.int i2, .int (3 : Int32)]) (rest := []) rfl rfl rfl rfl h5 (Nat.le_of_ble_eq_true rfl) (ca_1 w r3 i2 (3 : Int32)) fun v6 h7 => ?_
      show sm _ _ _ _ 19 [(0, .ref a0), (2, .int i2), (3, .int i3)] [.int v6] _ _
      refine sm_seg 1 20 [(0, .ref a0), (2, .int i2), (3, .int i3)] [.int (-1 : Int32), .int v6] rfl ?_
      refine sm_if (pc1 := 39) (lv1 := [(2, .int i2)]) (pc2 := 23) (lv2 := [(0, .ref a0), (2, .int i2), (3, .int i3)]) (st1 := []) rfl rfl rfl (fun h8 => ?_) (fun h8 => ?_)
      · refine sm_seg 1 40 [(2, .int i2)] [.int i2] rfl ?_
        exact sm_rI rfl rfl
      · refine sm_seg 1 24 [(0, .ref a0), (2, .int i2), (3, .int i3)] [.ref a0] rfl ?_
        refine sm_gR rfl h2 rfl rfl fun r9 h10 => ?_
        show sm _ _ _ _ 27 [(0, .ref a0), (2, .int i2), (3, .int i3)] [.ref r9] _ _
        refine sm_seg 2 29 [(0, .ref a0), (2, .int i2), (3, .int i3)] [.int (3 : Int32), .int i2, .ref r9] rfl ?_
        refine sm_gd fun h11 => ?_
        refine sm_cV (as := [.int i2, .int (3 : Int32)]) (rest := []) rfl rfl rfl rfl h11 (Nat.le_of_ble_eq_true rfl) (ca_1 w r9 i2 (3 : Int32)) fun v12 h13 => ?_
        show sm _ _ _ _ 32 [(0, .ref a0), (2, .int i2), (3, .int i3)] [.int v12] _ _
        refine sm_seg 3 4 [(0, .ref a0), (2, .int v12), (3, .int (i3 + (1 : Int32)))] [] rfl ?_
        exact ih a0 v12 (i3 + (1 : Int32))
def fn_16 (w : cm_W) (a0 : Nat) (i1 : Int32) : Option Int32 := fn_16_4 w cm_N a0 i1 (0 : Int32)
theorem jt_16_0 (w : cm_W) (a0 : Nat) (i1 : Int32) : sm cm_g 16 ck_16 kq_16 0 [(0, .ref a0), (1, .int i1)] [] w ((fn_16 w a0 i1).map (cm_fI w)) := by
  unfold fn_16
  refine sm_seg 4 4 [(0, .ref a0), (2, .int i1), (3, .int (0 : Int32))] [] rfl ?_
  exact jt_16_4 w cm_N a0 i1 (0 : Int32)
theorem ca_16 (w : cm_W) (a0 : Nat) (i1 : Int32) : cm_ca cm_g 16 [.ref a0, .int i1] w ((fn_16 w a0 i1).map (cm_fI w)) := cm_ca_of (cm_me_of rfl rfl) rfl (jt_16_0 w a0 i1)
-- NailedBoxes$State.handsOf(I)I
def fn_17 (w : cm_W) (a0 : Nat) (i1 : Int32) : Option Int32 := (if cm_sh w a0 = some (.inl 6) then (cm_R w a0 0).bind fun r2 => (fn_16 w a0 i1).bind fun v4 => (if cm_sh w r2 = some (.inl 7) then (fn_1 w r2 v4 (2 : Int32)).bind fun v7 => some v7 else none) else none)
theorem jt_17_0 (w : cm_W) (a0 : Nat) (i1 : Int32) : sm cm_g 17 ck_17 kq_17 0 [(0, .ref a0), (1, .int i1)] [] w ((fn_17 w a0 i1).map (cm_fI w)) := by
  unfold fn_17
  refine sm_seg 1 1 [(0, .ref a0), (1, .int i1)] [.ref a0] rfl ?_
  refine sm_gd fun h1 => ?_
  refine sm_gR rfl h1 rfl rfl fun r2 h3 => ?_
  show sm _ _ _ _ 4 [(0, .ref a0), (1, .int i1)] [.ref r2] _ _
  refine sm_seg 2 6 [(0, .ref a0), (1, .int i1)] [.int i1, .ref a0, .ref r2] rfl ?_
  refine sm_cV (as := [.int i1]) (rest := [.ref r2]) rfl rfl rfl rfl h1 (Nat.le_of_ble_eq_true rfl) (ca_16 w a0 i1) fun v4 h5 => ?_
  show sm _ _ _ _ 9 [(0, .ref a0), (1, .int i1)] [.int v4, .ref r2] _ _
  refine sm_seg 1 10 [(0, .ref a0), (1, .int i1)] [.int (2 : Int32), .int v4, .ref r2] rfl ?_
  refine sm_gd fun h6 => ?_
  refine sm_cV (as := [.int v4, .int (2 : Int32)]) (rest := []) rfl rfl rfl rfl h6 (Nat.le_of_ble_eq_true rfl) (ca_1 w r2 v4 (2 : Int32)) fun v7 h8 => ?_
  show sm _ _ _ _ 13 [(0, .ref a0), (1, .int i1)] [.int v7] _ _
  exact sm_rI rfl rfl
theorem ca_17 (w : cm_W) (a0 : Nat) (i1 : Int32) : cm_ca cm_g 17 [.ref a0, .int i1] w ((fn_17 w a0 i1).map (cm_fI w)) := cm_ca_of (cm_me_of rfl rfl) rfl (jt_17_0 w a0 i1)
-- NailedBoxes$State.isHolder(II)Z
def fn_18 (w : cm_W) (i0 : Int32) (i1 : Int32) : Option Bool := (if i0 < 0 then some false else (if (40 : Int32) ≤ i0 then some false else (if i1 < 0 then some false else (if (12 : Int32) ≤ i1 then some false else some true))))
theorem jt_18_0 (w : cm_W) (i0 : Int32) (i1 : Int32) : sm cm_g 18 ck_18 kq_18 0 [(0, .int i0), (1, .int i1)] [] w ((fn_18 w i0 i1).map (cm_fB w)) := by
  unfold fn_18
  refine sm_seg 1 1 [(0, .int i0), (1, .int i1)] [.int i0] rfl ?_
  refine sm_if (pc1 := 24) (lv1 := []) (pc2 := 4) (lv2 := [(0, .int i0), (1, .int i1)]) (st1 := []) rfl rfl rfl (fun h1 => ?_) (fun h1 => ?_)
  · refine sm_seg 1 25 [] [.int (0 : Int32)] rfl ?_
    exact sm_rB (b := false) rfl rfl
  · refine sm_seg 2 7 [(0, .int i0), (1, .int i1)] [.int (40 : Int32), .int i0] rfl ?_
    refine sm_if (pc1 := 24) (lv1 := []) (pc2 := 10) (lv2 := [(0, .int i0), (1, .int i1)]) (st1 := []) rfl rfl rfl (fun h2 => ?_) (fun h2 => ?_)
    · refine sm_seg 1 25 [] [.int (0 : Int32)] rfl ?_
      exact sm_rB (b := false) rfl rfl
    · refine sm_seg 1 11 [(0, .int i0), (1, .int i1)] [.int i1] rfl ?_
      refine sm_if (pc1 := 24) (lv1 := []) (pc2 := 14) (lv2 := [(0, .int i0), (1, .int i1)]) (st1 := []) rfl rfl rfl (fun h3 => ?_) (fun h3 => ?_)
      · refine sm_seg 1 25 [] [.int (0 : Int32)] rfl ?_
        exact sm_rB (b := false) rfl rfl
      · refine sm_seg 2 17 [(0, .int i0), (1, .int i1)] [.int (12 : Int32), .int i1] rfl ?_
        refine sm_if (pc1 := 24) (lv1 := []) (pc2 := 20) (lv2 := [(0, .int i0), (1, .int i1)]) (st1 := []) rfl rfl rfl (fun h4 => ?_) (fun h4 => ?_)
        · refine sm_seg 1 25 [] [.int (0 : Int32)] rfl ?_
          exact sm_rB (b := false) rfl rfl
        · refine sm_seg 2 25 [] [.int (1 : Int32)] rfl ?_
          exact sm_rB (b := true) rfl rfl
theorem ca_18 (w : cm_W) (i0 : Int32) (i1 : Int32) : cm_ca cm_g 18 [.int i0, .int i1] w ((fn_18 w i0 i1).map (cm_fB w)) := cm_ca_of (cm_me_of rfl rfl) rfl (jt_18_0 w i0 i1)
-- NailedBoxes$State.heldBy(II)I
def fn_19 (w : cm_W) (a0 : Nat) (i1 : Int32) (i2 : Int32) : Option Int32 := (fn_18 w i1 i2).bind fun v1 => (if (cm_b v1) = 0 then some (0 : Int32) else (if cm_sh w a0 = some (.inl 6) then (cm_R w a0 4).bind fun r5 => (if cm_ga w .int r5 ((i1 * (12 : Int32)) + i2) = true then some (cm_I w r5 ((i1 * (12 : Int32)) + i2).toNatClampNeg) else none) else none))
theorem jt_19_0 (w : cm_W) (a0 : Nat) (i1 : Int32) (i2 : Int32) : sm cm_g 19 ck_19 kq_19 0 [(0, .ref a0), (1, .int i1), (2, .int i2)] [] w ((fn_19 w a0 i1 i2).map (cm_fI w)) := by
  unfold fn_19
  refine sm_seg 2 2 [(0, .ref a0), (1, .int i1), (2, .int i2)] [.int i2, .int i1] rfl ?_
  refine sm_cS (av := [.int i1, .int i2]) (rest := []) rfl rfl rfl rfl (Nat.le_of_ble_eq_true rfl) (ca_18 w i1 i2) fun v1 h2 => ?_
  show sm _ _ _ _ 5 [(0, .ref a0), (1, .int i1), (2, .int i2)] [.int (cm_b v1)] _ _
  refine sm_if (pc1 := 22) (lv1 := []) (pc2 := 8) (lv2 := [(0, .ref a0), (1, .int i1), (2, .int i2)]) (st1 := []) rfl rfl rfl (fun h3 => ?_) (fun h3 => ?_)
  · refine sm_seg 1 23 [] [.int (0 : Int32)] rfl ?_
    exact sm_rI rfl rfl
  · refine sm_seg 1 9 [(0, .ref a0), (1, .int i1), (2, .int i2)] [.ref a0] rfl ?_
    refine sm_gd fun h4 => ?_
    refine sm_gR rfl h4 rfl rfl fun r5 h6 => ?_
    show sm _ _ _ _ 12 [(0, .ref a0), (1, .int i1), (2, .int i2)] [.ref r5] _ _
    refine sm_seg 5 18 [(0, .ref a0), (1, .int i1), (2, .int i2)] [.int ((i1 * (12 : Int32)) + i2), .ref r5] rfl ?_
    refine sm_gd fun h7 => ?_
    refine sm_ai rfl h7 rfl ?_
    show sm _ _ _ _ 19 [(0, .ref a0), (1, .int i1), (2, .int i2)] [.int (cm_I w r5 ((i1 * (12 : Int32)) + i2).toNatClampNeg)] _ _
    refine sm_seg 1 23 [] [.int (cm_I w r5 ((i1 * (12 : Int32)) + i2).toNatClampNeg)] rfl ?_
    exact sm_rI rfl rfl
theorem ca_19 (w : cm_W) (a0 : Nat) (i1 : Int32) (i2 : Int32) : cm_ca cm_g 19 [.ref a0, .int i1, .int i2] w ((fn_19 w a0 i1 i2).map (cm_fI w)) := cm_ca_of (cm_me_of rfl rfl) rfl (jt_19_0 w a0 i1 i2)
-- NailedBoxes$State.heldOf(I)I
def fn_20_4 (w : cm_W) : Nat → Nat → Int32 → Int32 → Int32 → Option Int32
  | 0, _, _, _, _ => none
  | n + 1, a0, i1, i2, i3 => (if (12 : Int32) ≤ i3 then some i2 else (if cm_sh w a0 = some (.inl 6) then (fn_19 w a0 i1 i3).bind fun v3 => fn_20_4 w n a0 i1 (i2 + v3) (i3 + (1 : Int32)) else none))
theorem jt_20_4 (w : cm_W) : ∀ (n : Nat) (a0 : Nat) (i1 : Int32) (i2 : Int32) (i3 : Int32), sm cm_g 20 ck_20 kq_20 4 [(0, .ref a0), (1, .int i1), (2, .int i2), (3, .int i3)] [] w ((fn_20_4 w n a0 i1 i2 i3).map (cm_fI w)) := by
  intro n
  induction n with
  | zero => intro a0 i1 i2 i3; exact sm_no
  | succ n ih =>
    intro a0 i1 i2 i3
    rw [fn_20_4]
    refine sm_seg 2 7 [(0, .ref a0), (1, .int i1), (2, .int i2), (3, .int i3)] [.int (12 : Int32), .int i3] rfl ?_
    refine sm_if (pc1 := 25) (lv1 := [(2, .int i2)]) (pc2 := 10) (lv2 := [(0, .ref a0), (1, .int i1), (2, .int i2), (3, .int i3)]) (st1 := []) rfl rfl rfl (fun h1 => ?_) (fun h1 => ?_)
    · refine sm_seg 1 26 [(2, .int i2)] [.int i2] rfl ?_
      exact sm_rI rfl rfl
    · refine sm_seg 4 14 [(0, .ref a0), (1, .int i1), (2, .int i2), (3, .int i3)] [.int i3, .int i1, .ref a0, .int i2] rfl ?_
      refine sm_gd fun h2 => ?_
      refine sm_cV (as := [.int i1, .int i3]) (rest := [.int i2]) rfl rfl rfl rfl h2 (Nat.le_of_ble_eq_true rfl) (ca_19 w a0 i1 i3) fun v3 h4 => ?_
      show sm _ _ _ _ 17 [(0, .ref a0), (1, .int i1), (2, .int i2), (3, .int i3)] [.int v3, .int i2] _ _
      refine sm_seg 4 4 [(0, .ref a0), (1, .int i1), (2, .int (i2 + v3)), (3, .int (i3 + (1 : Int32)))] [] rfl ?_
      exact ih a0 i1 (i2 + v3) (i3 + (1 : Int32))
def fn_20 (w : cm_W) (a0 : Nat) (i1 : Int32) : Option Int32 := fn_20_4 w cm_N a0 i1 (0 : Int32) (0 : Int32)
theorem jt_20_0 (w : cm_W) (a0 : Nat) (i1 : Int32) : sm cm_g 20 ck_20 kq_20 0 [(0, .ref a0), (1, .int i1)] [] w ((fn_20 w a0 i1).map (cm_fI w)) := by
  unfold fn_20
  refine sm_seg 4 4 [(0, .ref a0), (1, .int i1), (2, .int (0 : Int32)), (3, .int (0 : Int32))] [] rfl ?_
  exact jt_20_4 w cm_N a0 i1 (0 : Int32) (0 : Int32)
theorem ca_20 (w : cm_W) (a0 : Nat) (i1 : Int32) : cm_ca cm_g 20 [.ref a0, .int i1] w ((fn_20 w a0 i1).map (cm_fI w)) := cm_ca_of (cm_me_of rfl rfl) rfl (jt_20_0 w a0 i1)
-- NailedBoxes$Hands.lay(LNailedBoxes$State;I)V
def fn_21 (a0 : Nat) (a1 : Nat) (i2 : Int32) (w : cm_W) : Option cm_W := (if cm_sh w a1 = some (.inl 6) then (cm_R w a1 0).bind fun r2 => (if cm_sh w r2 = some (.inl 7) then (fn_1 w r2 i2 (1 : Int32)).bind fun v5 => (if v5 < 0 then some w else (if (8 : Int32) ≤ v5 then some w else (fn_20 w a1 i2).bind fun v9 => (if ¬ v9 = 0 then some w else (if cm_sh w a0 = some (.inl 2) then (cm_R w a0 0).bind fun r13 => (if cm_ga w .int r13 v5 = true then (if cm_w2 46 48 r13 = true then some (cm_sI w r13 v5.toNatClampNeg ((cm_I w r13 v5.toNatClampNeg) + (1 : Int32))) else none) else none) else none)))) else none) else none)
theorem jt_21_0 (a0 : Nat) (a1 : Nat) (i2 : Int32) (w : cm_W) : sm cm_g 21 ck_21 kq_21 0 [(0, .ref a0), (1, .ref a1), (2, .int i2)] [] w ((fn_21 a0 a1 i2 w).map cm_gV) := by
  unfold fn_21
  refine sm_seg 1 1 [(0, .ref a0), (1, .ref a1), (2, .int i2)] [.ref a1] rfl ?_
  refine sm_gd fun h1 => ?_
  refine sm_gR rfl h1 rfl rfl fun r2 h3 => ?_
  show sm _ _ _ _ 4 [(0, .ref a0), (1, .ref a1), (2, .int i2)] [.ref r2] _ _
  refine sm_seg 2 6 [(0, .ref a0), (1, .ref a1), (2, .int i2)] [.int (1 : Int32), .int i2, .ref r2] rfl ?_
  refine sm_gd fun h4 => ?_
  refine sm_cV (as := [.int i2, .int (1 : Int32)]) (rest := []) rfl rfl rfl rfl h4 (Nat.le_of_ble_eq_true rfl) (ca_1 w r2 i2 (1 : Int32)) fun v5 h6 => ?_
  show sm _ _ _ _ 9 [(0, .ref a0), (1, .ref a1), (2, .int i2)] [.int v5] _ _
  refine sm_seg 2 11 [(3, .int v5), (0, .ref a0), (1, .ref a1), (2, .int i2)] [.int v5] rfl ?_
  refine sm_if (pc1 := 38) (lv1 := []) (pc2 := 14) (lv2 := [(3, .int v5), (0, .ref a0), (1, .ref a1), (2, .int i2)]) (st1 := []) rfl rfl rfl (fun h7 => ?_) (fun h7 => ?_)
  · exact sm_rV rfl rfl
  · refine sm_seg 2 17 [(3, .int v5), (0, .ref a0), (1, .ref a1), (2, .int i2)] [.int (8 : Int32), .int v5] rfl ?_
    refine sm_if (pc1 := 38) (lv1 := []) (pc2 := 20) (lv2 := [(3, .int v5), (0, .ref a0), (1, .ref a1), (2, .int i2)]) (st1 := []) rfl rfl rfl (fun h8 => ?_) (fun h8 => ?_)
    · exact sm_rV rfl rfl
    · refine sm_seg 2 22 [(3, .int v5), (0, .ref a0), (1, .ref a1), (2, .int i2)] [.int i2, .ref a1] rfl ?_
      refine sm_cV (as := [.int i2]) (rest := []) rfl rfl rfl rfl h1 (Nat.le_of_ble_eq_true rfl) (ca_20 w a1 i2) fun v9 h10 => ?_
      show sm _ _ _ _ 25 [(3, .int v5), (0, .ref a0), (1, .ref a1), (2, .int i2)] [.int v9] _ _
      refine sm_if (pc1 := 38) (lv1 := []) (pc2 := 28) (lv2 := [(3, .int v5), (0, .ref a0), (1, .ref a1), (2, .int i2)]) (st1 := []) rfl rfl rfl (fun h11 => ?_) (fun h11 => ?_)
      · exact sm_rV rfl rfl
      · refine sm_seg 1 29 [(3, .int v5), (0, .ref a0), (1, .ref a1), (2, .int i2)] [.ref a0] rfl ?_
        refine sm_gd fun h12 => ?_
        refine sm_gR rfl h12 rfl rfl fun r13 h14 => ?_
        show sm _ _ _ _ 32 [(3, .int v5), (0, .ref a0), (1, .ref a1), (2, .int i2)] [.ref r13] _ _
        refine sm_seg 2 34 [(3, .int v5), (0, .ref a0), (1, .ref a1), (2, .int i2)] [.int v5, .ref r13, .int v5, .ref r13] rfl ?_
        refine sm_gd fun h15 => ?_
        refine sm_ai rfl h15 rfl ?_
        show sm _ _ _ _ 35 [(3, .int v5), (0, .ref a0), (1, .ref a1), (2, .int i2)] [.int (cm_I w r13 v5.toNatClampNeg), .int v5, .ref r13] _ _
        refine sm_seg 2 37 [(3, .int v5), (0, .ref a0), (1, .ref a1), (2, .int i2)] [.int ((cm_I w r13 v5.toNatClampNeg) + (1 : Int32)), .int v5, .ref r13] rfl ?_
        refine sm_gd fun h16 => ?_
        refine sm_si rfl h15 h16 rfl rfl ?_
        show sm _ _ _ _ 38 [] [] _ _
        exact sm_rV rfl rfl
theorem ca_21 (a0 : Nat) (a1 : Nat) (i2 : Int32) (w : cm_W) : cm_ca cm_g 21 [.ref a0, .ref a1, .int i2] w ((fn_21 a0 a1 i2 w).map cm_gV) := cm_ca_of (cm_me_of rfl rfl) rfl (jt_21_0 a0 a1 i2 w)
-- NailedBoxes$Hands.gather(LNailedBoxes$State;I)V
def fn_22_36 (k_10 : Nat → Nat → Int32 → Int32 → cm_W → Option cm_W) (a0 : Nat) (a1 : Nat) (i2 : Int32) (i3 : Int32) (w : cm_W) : Option cm_W := k_10 a0 a1 i2 (i3 + (1 : Int32)) w
theorem jt_22_36 (k_10 : Nat → Nat → Int32 → Int32 → cm_W → Option cm_W) (hk_10 : ∀ (a0 : Nat) (a1 : Nat) (i2 : Int32) (i3 : Int32) (w : cm_W), sm cm_g 22 ck_22 kq_22 10 [(0, .ref a0), (1, .ref a1), (2, .int i2), (3, .int i3)] [] w ((k_10 a0 a1 i2 i3 w).map cm_gV)) (a0 : Nat) (a1 : Nat) (i2 : Int32) (i3 : Int32) (w : cm_W) : sm cm_g 22 ck_22 kq_22 36 [(0, .ref a0), (1, .ref a1), (2, .int i2), (3, .int i3)] [] w ((fn_22_36 k_10 a0 a1 i2 i3 w).map cm_gV) := by
  unfold fn_22_36
  refine sm_seg 2 10 [(0, .ref a0), (1, .ref a1), (2, .int i2), (3, .int (i3 + (1 : Int32)))] [] rfl ?_
  exact hk_10 a0 a1 i2 (i3 + (1 : Int32)) w
def fn_22_10 : Nat → Nat → Nat → Int32 → Int32 → cm_W → Option cm_W
  | 0, _, _, _, _, _ => none
  | n + 1, a0, a1, i2, i3, w => (if cm_sh w a1 = some (.inl 6) then (cm_R w a1 0).bind fun r2 => (if cm_sh w r2 = some (.inl 7) then (if (cm_I w r2 2) ≤ i3 then some w else (fn_17 w a1 i3).bind fun v6 => (if ¬ v6 = i2 then fn_22_36  (fn_22_10 n) a0 a1 i2 i3 w else (if cm_sh w a0 = some (.inl 2) then (fn_21 a0 a1 i3 w).bind fun w10 => fn_22_36  (fn_22_10 n) a0 a1 i2 i3 w10 else none))) else none) else none)
theorem jt_22_10 : ∀ (n : Nat) (a0 : Nat) (a1 : Nat) (i2 : Int32) (i3 : Int32) (w : cm_W), sm cm_g 22 ck_22 kq_22 10 [(0, .ref a0), (1, .ref a1), (2, .int i2), (3, .int i3)] [] w ((fn_22_10 n a0 a1 i2 i3 w).map cm_gV) := by
  intro n
  induction n with
  | zero => intro a0 a1 i2 i3 w; exact sm_no
  | succ n ih =>
    intro a0 a1 i2 i3 w
    rw [fn_22_10]
    refine sm_seg 2 12 [(0, .ref a0), (1, .ref a1), (2, .int i2), (3, .int i3)] [.ref a1, .int i3] rfl ?_
    refine sm_gd fun h1 => ?_
    refine sm_gR rfl h1 rfl rfl fun r2 h3 => ?_
    show sm _ _ _ _ 15 [(0, .ref a0), (1, .ref a1), (2, .int i2), (3, .int i3)] [.ref r2, .int i3] _ _
    refine sm_gd fun h4 => ?_
    refine sm_gI rfl h4 rfl ?_
    show sm _ _ _ _ 18 [(0, .ref a0), (1, .ref a1), (2, .int i2), (3, .int i3)] [.int (cm_I w r2 2), .int i3] _ _
    refine sm_if (pc1 := 42) (lv1 := []) (pc2 := 21) (lv2 := [(0, .ref a0), (1, .ref a1), (2, .int i2), (3, .int i3)]) (st1 := []) rfl rfl rfl (fun h5 => ?_) (fun h5 => ?_)
    · exact sm_rV rfl rfl
    · refine sm_seg 2 23 [(0, .ref a0), (1, .ref a1), (2, .int i2), (3, .int i3)] [.int i3, .ref a1] rfl ?_
      refine sm_cV (as := [.int i3]) (rest := []) rfl rfl rfl rfl h1 (Nat.le_of_ble_eq_true rfl) (ca_17 w a1 i3) fun v6 h7 => ?_
      show sm _ _ _ _ 26 [(0, .ref a0), (1, .ref a1), (2, .int i2), (3, .int i3)] [.int v6] _ _
      refine sm_seg 1 27 [(0, .ref a0), (1, .ref a1), (2, .int i2), (3, .int i3)] [.int i2, .int v6] rfl ?_
      refine sm_if (pc1 := 36) (lv1 := [(0, .ref a0), (1, .ref a1), (2, .int i2), (3, .int i3)]) (pc2 := 30) (lv2 := [(0, .ref a0), (1, .ref a1), (2, .int i2), (3, .int i3)]) (st1 := []) rfl rfl rfl (fun h8 => ?_) (fun h8 => ?_)
      · exact jt_22_36  (fn_22_10 n) ih a0 a1 i2 i3 w
      · refine sm_seg 3 33 [(0, .ref a0), (1, .ref a1), (2, .int i2), (3, .int i3)] [.int i3, .ref a1, .ref a0] rfl ?_
        refine sm_gd fun h9 => ?_
        refine sm_cV (as := [.ref a1, .int i3]) (rest := []) rfl rfl rfl rfl h9 (Nat.le_of_ble_eq_true rfl) (ca_21  a0 a1 i3 w) fun w10 h11 => ?_
        show sm _ _ _ _ 36 [(0, .ref a0), (1, .ref a1), (2, .int i2), (3, .int i3)] [] _ _
        exact jt_22_36  (fn_22_10 n) ih a0 a1 i2 i3 w10
def fn_22 (a0 : Nat) (a1 : Nat) (i2 : Int32) (w : cm_W) : Option cm_W := (if cm_sh w a0 = some (.inl 2) then (cm_R w a0 0).bind fun r13 => (fn_15 r13 (0 : Int32) w).bind fun w15 => fn_22_10  cm_N a0 a1 i2 (0 : Int32) w15 else none)
theorem jt_22_0 (a0 : Nat) (a1 : Nat) (i2 : Int32) (w : cm_W) : sm cm_g 22 ck_22 kq_22 0 [(0, .ref a0), (1, .ref a1), (2, .int i2)] [] w ((fn_22 a0 a1 i2 w).map cm_gV) := by
  unfold fn_22
  refine sm_seg 1 1 [(0, .ref a0), (1, .ref a1), (2, .int i2)] [.ref a0] rfl ?_
  refine sm_gd fun h12 => ?_
  refine sm_gR rfl h12 rfl rfl fun r13 h14 => ?_
  show sm _ _ _ _ 4 [(0, .ref a0), (1, .ref a1), (2, .int i2)] [.ref r13] _ _
  refine sm_seg 1 5 [(0, .ref a0), (1, .ref a1), (2, .int i2)] [.int (0 : Int32), .ref r13] rfl ?_
  refine sm_cS (av := [.ref r13, .int (0 : Int32)]) (rest := []) rfl rfl rfl rfl (Nat.le_of_ble_eq_true rfl) (ca_15  r13 (0 : Int32) w) fun w15 h16 => ?_
  show sm _ _ _ _ 8 [(0, .ref a0), (1, .ref a1), (2, .int i2)] [] _ _
  refine sm_seg 2 10 [(0, .ref a0), (1, .ref a1), (2, .int i2), (3, .int (0 : Int32))] [] rfl ?_
  exact jt_22_10  cm_N a0 a1 i2 (0 : Int32) w15
theorem ca_22 (a0 : Nat) (a1 : Nat) (i2 : Int32) (w : cm_W) : cm_ca cm_g 22 [.ref a0, .ref a1, .int i2] w ((fn_22 a0 a1 i2 w).map cm_gV) := cm_ca_of (cm_me_of rfl rfl) rfl (jt_22_0 a0 a1 i2 w)
-- NailedBoxes$Hands.gatherAll(LNailedBoxes$State;)V
def fn_23_10 : Nat → Nat → Nat → Int32 → cm_W → Option cm_W
  | 0, _, _, _, _ => none
  | n + 1, a0, a1, i2, w => (if cm_sh w a1 = some (.inl 6) then (cm_R w a1 0).bind fun r2 => (if cm_sh w r2 = some (.inl 7) then (if (cm_I w r2 2) ≤ i2 then some w else (if cm_sh w a0 = some (.inl 2) then (fn_21 a0 a1 i2 w).bind fun w7 => fn_23_10 n a0 a1 (i2 + (1 : Int32)) w7 else none)) else none) else none)
theorem jt_23_10 : ∀ (n : Nat) (a0 : Nat) (a1 : Nat) (i2 : Int32) (w : cm_W), sm cm_g 23 ck_23 kq_23 10 [(0, .ref a0), (1, .ref a1), (2, .int i2)] [] w ((fn_23_10 n a0 a1 i2 w).map cm_gV) := by
  intro n
  induction n with
  | zero => intro a0 a1 i2 w; exact sm_no
  | succ n ih =>
    intro a0 a1 i2 w
    rw [fn_23_10]
    refine sm_seg 2 12 [(0, .ref a0), (1, .ref a1), (2, .int i2)] [.ref a1, .int i2] rfl ?_
    refine sm_gd fun h1 => ?_
    refine sm_gR rfl h1 rfl rfl fun r2 h3 => ?_
    show sm _ _ _ _ 15 [(0, .ref a0), (1, .ref a1), (2, .int i2)] [.ref r2, .int i2] _ _
    refine sm_gd fun h4 => ?_
    refine sm_gI rfl h4 rfl ?_
    show sm _ _ _ _ 18 [(0, .ref a0), (1, .ref a1), (2, .int i2)] [.int (cm_I w r2 2), .int i2] _ _
    refine sm_if (pc1 := 33) (lv1 := []) (pc2 := 21) (lv2 := [(0, .ref a0), (1, .ref a1), (2, .int i2)]) (st1 := []) rfl rfl rfl (fun h5 => ?_) (fun h5 => ?_)
    · exact sm_rV rfl rfl
    · refine sm_seg 3 24 [(0, .ref a0), (1, .ref a1), (2, .int i2)] [.int i2, .ref a1, .ref a0] rfl ?_
      refine sm_gd fun h6 => ?_
      refine sm_cV (as := [.ref a1, .int i2]) (rest := []) rfl rfl rfl rfl h6 (Nat.le_of_ble_eq_true rfl) (ca_21  a0 a1 i2 w) fun w7 h8 => ?_
      show sm _ _ _ _ 27 [(0, .ref a0), (1, .ref a1), (2, .int i2)] [] _ _
      refine sm_seg 2 10 [(0, .ref a0), (1, .ref a1), (2, .int (i2 + (1 : Int32)))] [] rfl ?_
      exact ih a0 a1 (i2 + (1 : Int32)) w7
def fn_23 (a0 : Nat) (a1 : Nat) (w : cm_W) : Option cm_W := (if cm_sh w a0 = some (.inl 2) then (cm_R w a0 0).bind fun r10 => (fn_15 r10 (0 : Int32) w).bind fun w12 => fn_23_10  cm_N a0 a1 (0 : Int32) w12 else none)
theorem jt_23_0 (a0 : Nat) (a1 : Nat) (w : cm_W) : sm cm_g 23 ck_23 kq_23 0 [(0, .ref a0), (1, .ref a1)] [] w ((fn_23 a0 a1 w).map cm_gV) := by
  unfold fn_23
  refine sm_seg 1 1 [(0, .ref a0), (1, .ref a1)] [.ref a0] rfl ?_
  refine sm_gd fun h9 => ?_
  refine sm_gR rfl h9 rfl rfl fun r10 h11 => ?_
  show sm _ _ _ _ 4 [(0, .ref a0), (1, .ref a1)] [.ref r10] _ _
  refine sm_seg 1 5 [(0, .ref a0), (1, .ref a1)] [.int (0 : Int32), .ref r10] rfl ?_
  refine sm_cS (av := [.ref r10, .int (0 : Int32)]) (rest := []) rfl rfl rfl rfl (Nat.le_of_ble_eq_true rfl) (ca_15  r10 (0 : Int32) w) fun w12 h13 => ?_
  show sm _ _ _ _ 8 [(0, .ref a0), (1, .ref a1)] [] _ _
  refine sm_seg 2 10 [(0, .ref a0), (1, .ref a1), (2, .int (0 : Int32))] [] rfl ?_
  exact jt_23_10  cm_N a0 a1 (0 : Int32) w12
theorem ca_23 (a0 : Nat) (a1 : Nat) (w : cm_W) : cm_ca cm_g 23 [.ref a0, .ref a1] w ((fn_23 a0 a1 w).map cm_gV) := cm_ca_of (cm_me_of rfl rfl) rfl (jt_23_0 a0 a1 w)
-- NailedBoxes$Hands.heldOf(I)I
def fn_24 (w : cm_W) (a0 : Nat) (i1 : Int32) : Option Int32 := (if i1 < 0 then some (0 : Int32) else (if (8 : Int32) ≤ i1 then some (0 : Int32) else (if cm_sh w a0 = some (.inl 2) then (cm_R w a0 0).bind fun r4 => (if cm_ga w .int r4 i1 = true then some (cm_I w r4 i1.toNatClampNeg) else none) else none)))
theorem jt_24_0 (w : cm_W) (a0 : Nat) (i1 : Int32) : sm cm_g 24 ck_24 kq_24 0 [(0, .ref a0), (1, .int i1)] [] w ((fn_24 w a0 i1).map (cm_fI w)) := by
  unfold fn_24
  refine sm_seg 1 1 [(0, .ref a0), (1, .int i1)] [.int i1] rfl ?_
  refine sm_if (pc1 := 19) (lv1 := []) (pc2 := 4) (lv2 := [(0, .ref a0), (1, .int i1)]) (st1 := []) rfl rfl rfl (fun h1 => ?_) (fun h1 => ?_)
  · refine sm_seg 1 20 [] [.int (0 : Int32)] rfl ?_
    exact sm_rI rfl rfl
  · refine sm_seg 2 7 [(0, .ref a0), (1, .int i1)] [.int (8 : Int32), .int i1] rfl ?_
    refine sm_if (pc1 := 19) (lv1 := []) (pc2 := 10) (lv2 := [(0, .ref a0), (1, .int i1)]) (st1 := []) rfl rfl rfl (fun h2 => ?_) (fun h2 => ?_)
    · refine sm_seg 1 20 [] [.int (0 : Int32)] rfl ?_
      exact sm_rI rfl rfl
    · refine sm_seg 1 11 [(0, .ref a0), (1, .int i1)] [.ref a0] rfl ?_
      refine sm_gd fun h3 => ?_
      refine sm_gR rfl h3 rfl rfl fun r4 h5 => ?_
      show sm _ _ _ _ 14 [(0, .ref a0), (1, .int i1)] [.ref r4] _ _
      refine sm_seg 1 15 [(0, .ref a0), (1, .int i1)] [.int i1, .ref r4] rfl ?_
      refine sm_gd fun h6 => ?_
      refine sm_ai rfl h6 rfl ?_
      show sm _ _ _ _ 16 [(0, .ref a0), (1, .int i1)] [.int (cm_I w r4 i1.toNatClampNeg)] _ _
      refine sm_seg 1 20 [] [.int (cm_I w r4 i1.toNatClampNeg)] rfl ?_
      exact sm_rI rfl rfl
theorem ca_24 (w : cm_W) (a0 : Nat) (i1 : Int32) : cm_ca cm_g 24 [.ref a0, .int i1] w ((fn_24 w a0 i1).map (cm_fI w)) := cm_ca_of (cm_me_of rfl rfl) rfl (jt_24_0 w a0 i1)
-- NailedBoxes$Hands.pairsWorth(LNailedBoxes$Village;)I
def fn_25_4 (w : cm_W) : Nat → Nat → Nat → Int32 → Int32 → Option Int32
  | 0, _, _, _, _ => none
  | n + 1, a0, a1, i2, i3 => (if cm_sh w a1 = some (.inl 9) then (cm_R w a1 5).bind fun r2 => (if cm_sh w r2 = some (.inl 7) then (if (cm_I w r2 2) ≤ i3 then some i2 else (cm_R w a1 5).bind fun r6 => (if cm_sh w r6 = some (.inl 7) then (fn_1 w r6 i3 (0 : Int32)).bind fun v9 => (if cm_sh w a0 = some (.inl 2) then (fn_24 w a0 v9).bind fun v12 => (cm_R w a1 5).bind fun r14 => (if cm_sh w r14 = some (.inl 7) then (fn_1 w r14 i3 (1 : Int32)).bind fun v17 => (fn_24 w a0 v17).bind fun v19 => (cm_R w a1 5).bind fun r21 => (if cm_sh w r21 = some (.inl 7) then (fn_1 w r21 i3 (2 : Int32)).bind fun v24 => fn_25_4 w n a0 a1 (i2 + ((if v19 < v12 then v19 else v12) * v24)) (i3 + (1 : Int32)) else none) else none) else none) else none)) else none) else none)
theorem jt_25_4 (w : cm_W) : ∀ (n : Nat) (a0 : Nat) (a1 : Nat) (i2 : Int32) (i3 : Int32), sm cm_g 25 ck_25 kq_25 4 [(0, .ref a0), (1, .ref a1), (2, .int i2), (3, .int i3)] [] w ((fn_25_4 w n a0 a1 i2 i3).map (cm_fI w)) := by
  intro n
  induction n with
  | zero => intro a0 a1 i2 i3; exact sm_no
  | succ n ih =>
    intro a0 a1 i2 i3
    rw [fn_25_4]
    refine sm_seg 2 6 [(0, .ref a0), (1, .ref a1), (2, .int i2), (3, .int i3)] [.ref a1, .int i3] rfl ?_
    refine sm_gd fun h1 => ?_
    refine sm_gR rfl h1 rfl rfl fun r2 h3 => ?_
    show sm _ _ _ _ 9 [(0, .ref a0), (1, .ref a1), (2, .int i2), (3, .int i3)] [.ref r2, .int i3] _ _
    refine sm_gd fun h4 => ?_
    refine sm_gI rfl h4 rfl ?_
    show sm _ _ _ _ 12 [(0, .ref a0), (1, .ref a1), (2, .int i2), (3, .int i3)] [.int (cm_I w r2 2), .int i3] _ _
    refine sm_if (pc1 := 67) (lv1 := [(2, .int i2)]) (pc2 := 15) (lv2 := [(0, .ref a0), (1, .ref a1), (2, .int i2), (3, .int i3)]) (st1 := []) rfl rfl rfl (fun h5 => ?_) (fun h5 => ?_)
    · refine sm_seg 1 68 [(2, .int i2)] [.int i2] rfl ?_
      exact sm_rI rfl rfl
    · refine sm_seg 2 17 [(0, .ref a0), (1, .ref a1), (2, .int i2), (3, .int i3)] [.ref a1, .ref a0] rfl ?_
      refine sm_gR rfl h1 rfl rfl fun r6 h7 => ?_
      show sm _ _ _ _ 20 [(0, .ref a0), (1, .ref a1), (2, .int i2), (3, .int i3)] [.ref r6, .ref a0] _ _
      refine sm_seg 2 22 [(0, .ref a0), (1, .ref a1), (2, .int i2), (3, .int i3)] [.int (0 : Int32), .int i3, .ref r6, .ref a0] rfl ?_
      refine sm_gd fun h8 => ?_
      refine sm_cV (as := [.int i3, .int (0 : Int32)]) (rest := [.ref a0]) rfl rfl rfl rfl h8 (Nat.le_of_ble_eq_true rfl) (ca_1 w r6 i3 (0 : Int32)) fun v9 h10 => ?_
      show sm _ _ _ _ 25 [(0, .ref a0), (1, .ref a1), (2, .int i2), (3, .int i3)] [.int v9, .ref a0] _ _
      refine sm_gd fun h11 => ?_
      refine sm_cV (as := [.int v9]) (rest := []) rfl rfl rfl rfl h11 (Nat.le_of_ble_eq_true rfl) (ca_24 w a0 v9) fun v12 h13 => ?_
      show sm _ _ _ _ 28 [(0, .ref a0), (1, .ref a1), (2, .int i2), (3, .int i3)] [.int v12] _ _
      refine sm_seg 2 30 [(0, .ref a0), (1, .ref a1), (2, .int i2), (3, .int i3)] [.ref a1, .ref a0, .int v12] rfl ?_
      refine sm_gR rfl h1 rfl rfl fun r14 h15 => ?_
      show sm _ _ _ _ 33 [(0, .ref a0), (1, .ref a1), (2, .int i2), (3, .int i3)] [.ref r14, .ref a0, .int v12] _ _
      refine sm_seg 2 35 [(0, .ref a0), (1, .ref a1), (2, .int i2), (3, .int i3)] [.int (1 : Int32), .int i3, .ref r14, .ref a0, .int v12] rfl ?_
      refine sm_gd fun h16 => ?_
      refine sm_cV (as := [.int i3, .int (1 : Int32)]) (rest := [.ref a0, .int v12]) rfl rfl rfl rfl h16 (Nat.le_of_ble_eq_true rfl) (ca_1 w r14 i3 (1 : Int32)) fun v17 h18 => ?_
      show sm _ _ _ _ 38 [(0, .ref a0), (1, .ref a1), (2, .int i2), (3, .int i3)] [.int v17, .ref a0, .int v12] _ _
      refine sm_cV (as := [.int v17]) (rest := [.int v12]) rfl rfl rfl rfl h11 (Nat.le_of_ble_eq_true rfl) (ca_24 w a0 v17) fun v19 h20 => ?_
      show sm _ _ _ _ 41 [(0, .ref a0), (1, .ref a1), (2, .int i2), (3, .int i3)] [.int v19, .int v12] _ _
      refine sm_at rfl rfl rfl ?_
      show sm _ _ _ _ 44 [(0, .ref a0), (1, .ref a1), (2, .int i2), (3, .int i3)] [.int (if v19 < v12 then v19 else v12)] _ _
      refine sm_seg 4 50 [(4, .int (if v19 < v12 then v19 else v12)), (0, .ref a0), (1, .ref a1), (2, .int i2), (3, .int i3)] [.ref a1, .int (if v19 < v12 then v19 else v12), .int i2] rfl ?_
      refine sm_gR rfl h1 rfl rfl fun r21 h22 => ?_
      show sm _ _ _ _ 53 [(4, .int (if v19 < v12 then v19 else v12)), (0, .ref a0), (1, .ref a1), (2, .int i2), (3, .int i3)] [.ref r21, .int (if v19 < v12 then v19 else v12), .int i2] _ _
      refine sm_seg 2 55 [(4, .int (if v19 < v12 then v19 else v12)), (0, .ref a0), (1, .ref a1), (2, .int i2), (3, .int i3)] [.int (2 : Int32), .int i3, .ref r21, .int (if v19 < v12 then v19 else v12), .int i2] rfl ?_
      refine sm_gd fun h23 => ?_
      refine sm_cV (as := [.int i3, .int (2 : Int32)]) (rest := [.int (if v19 < v12 then v19 else v12), .int i2]) rfl rfl rfl rfl h23 (Nat.le_of_ble_eq_true rfl) (ca_1 w r21 i3 (2 : Int32)) fun v24 h25 => ?_
      show sm _ _ _ _ 58 [(4, .int (if v19 < v12 then v19 else v12)), (0, .ref a0), (1, .ref a1), (2, .int i2), (3, .int i3)] [.int v24, .int (if v19 < v12 then v19 else v12), .int i2] _ _
      refine sm_seg 5 4 [(0, .ref a0), (1, .ref a1), (2, .int (i2 + ((if v19 < v12 then v19 else v12) * v24))), (3, .int (i3 + (1 : Int32)))] [] rfl ?_
      exact ih a0 a1 (i2 + ((if v19 < v12 then v19 else v12) * v24)) (i3 + (1 : Int32))
def fn_25 (w : cm_W) (a0 : Nat) (a1 : Nat) : Option Int32 := fn_25_4 w cm_N a0 a1 (0 : Int32) (0 : Int32)
theorem jt_25_0 (w : cm_W) (a0 : Nat) (a1 : Nat) : sm cm_g 25 ck_25 kq_25 0 [(0, .ref a0), (1, .ref a1)] [] w ((fn_25 w a0 a1).map (cm_fI w)) := by
  unfold fn_25
  refine sm_seg 4 4 [(0, .ref a0), (1, .ref a1), (2, .int (0 : Int32)), (3, .int (0 : Int32))] [] rfl ?_
  exact jt_25_4 w cm_N a0 a1 (0 : Int32) (0 : Int32)
theorem ca_25 (w : cm_W) (a0 : Nat) (a1 : Nat) : cm_ca cm_g 25 [.ref a0, .ref a1] w ((fn_25 w a0 a1).map (cm_fI w)) := cm_ca_of (cm_me_of rfl rfl) rfl (jt_25_0 w a0 a1)
-- NailedBoxes$Hands.moreWith(LNailedBoxes$Village;LNailedBoxes$State;II)I
def fn_26 (a0 : Nat) (a1 : Nat) (a2 : Nat) (i3 : Int32) (i4 : Int32) (w : cm_W) : Option (Int32 × cm_W) := (if cm_sh w a0 = some (.inl 2) then (fn_22 a0 a2 i3 w).bind fun w2 => (if cm_sh w2 a0 = some (.inl 2) then (fn_25 w2 a0 a1).bind fun v5 => (fn_21 a0 a2 i4 w2).bind fun w7 => (if cm_sh w7 a0 = some (.inl 2) then (fn_25 w7 a0 a1).bind fun v10 => some ((v10 - v5), w7) else none) else none) else none)
theorem jt_26_0 (a0 : Nat) (a1 : Nat) (a2 : Nat) (i3 : Int32) (i4 : Int32) (w : cm_W) : sm cm_g 26 ck_26 kq_26 0 [(0, .ref a0), (1, .ref a1), (2, .ref a2), (3, .int i3), (4, .int i4)] [] w ((fn_26 a0 a1 a2 i3 i4 w).map cm_gI) := by
  unfold fn_26
  refine sm_seg 3 3 [(0, .ref a0), (1, .ref a1), (2, .ref a2), (3, .int i3), (4, .int i4)] [.int i3, .ref a2, .ref a0] rfl ?_
  refine sm_gd fun h1 => ?_
  refine sm_cV (as := [.ref a2, .int i3]) (rest := []) rfl rfl rfl rfl h1 (Nat.le_of_ble_eq_true rfl) (ca_22  a0 a2 i3 w) fun w2 h3 => ?_
  show sm _ _ _ _ 6 [(0, .ref a0), (1, .ref a1), (2, .ref a2), (3, .int i3), (4, .int i4)] [] _ _
  refine sm_seg 2 8 [(0, .ref a0), (1, .ref a1), (2, .ref a2), (3, .int i3), (4, .int i4)] [.ref a1, .ref a0] rfl ?_
  refine sm_gd fun h4 => ?_
  refine sm_cV (as := [.ref a1]) (rest := []) rfl rfl rfl rfl h4 (Nat.le_of_ble_eq_true rfl) (ca_25 w2 a0 a1) fun v5 h6 => ?_
  show sm _ _ _ _ 11 [(0, .ref a0), (1, .ref a1), (2, .ref a2), (3, .int i3), (4, .int i4)] [.int v5] _ _
  refine sm_seg 4 17 [(5, .int v5), (0, .ref a0), (1, .ref a1), (2, .ref a2), (3, .int i3), (4, .int i4)] [.int i4, .ref a2, .ref a0] rfl ?_
  refine sm_cV (as := [.ref a2, .int i4]) (rest := []) rfl rfl rfl rfl h4 (Nat.le_of_ble_eq_true rfl) (ca_21  a0 a2 i4 w2) fun w7 h8 => ?_
  show sm _ _ _ _ 20 [(5, .int v5), (0, .ref a0), (1, .ref a1), (2, .ref a2), (3, .int i3), (4, .int i4)] [] _ _
  refine sm_seg 2 22 [(5, .int v5), (0, .ref a0), (1, .ref a1), (2, .ref a2), (3, .int i3), (4, .int i4)] [.ref a1, .ref a0] rfl ?_
  refine sm_gd fun h9 => ?_
  refine sm_cV (as := [.ref a1]) (rest := []) rfl rfl rfl rfl h9 (Nat.le_of_ble_eq_true rfl) (ca_25 w7 a0 a1) fun v10 h11 => ?_
  show sm _ _ _ _ 25 [(5, .int v5), (0, .ref a0), (1, .ref a1), (2, .ref a2), (3, .int i3), (4, .int i4)] [.int v10] _ _
  refine sm_seg 2 28 [(5, .int v5), (0, .ref a0), (1, .ref a1), (2, .ref a2), (3, .int i3), (4, .int i4)] [.int (v10 - v5)] rfl ?_
  exact sm_rIW rfl rfl
theorem ca_26 (a0 : Nat) (a1 : Nat) (a2 : Nat) (i3 : Int32) (i4 : Int32) (w : cm_W) : cm_ca cm_g 26 [.ref a0, .ref a1, .ref a2, .int i3, .int i4] w ((fn_26 a0 a1 a2 i3 i4 w).map cm_gI) := cm_ca_of (cm_me_of rfl rfl) rfl (jt_26_0 a0 a1 a2 i3 i4 w)
-- NailedBoxes$Hands.worthInJune(LNailedBoxes$Village;LNailedBoxes$State;I)I
def fn_27_82 (w : cm_W) (k_6 : Nat → Nat → Int32 → Int32 → Int32 → Option Int32) (a1 : Nat) (a2 : Nat) (i3 : Int32) (i4 : Int32) (i5 : Int32) : Option Int32 := k_6 a1 a2 i3 i4 (i5 + (1 : Int32))
theorem jt_27_82 (w : cm_W) (k_6 : Nat → Nat → Int32 → Int32 → Int32 → Option Int32) (hk_6 : ∀ (a1 : Nat) (a2 : Nat) (i3 : Int32) (i4 : Int32) (i5 : Int32), sm cm_g 27 ck_27 kq_27 6 [(1, .ref a1), (2, .ref a2), (3, .int i3), (4, .int i4), (5, .int i5)] [] w ((k_6 a1 a2 i3 i4 i5).map (cm_fI w))) (a1 : Nat) (a2 : Nat) (i3 : Int32) (i4 : Int32) (i5 : Int32) : sm cm_g 27 ck_27 kq_27 82 [(1, .ref a1), (2, .ref a2), (3, .int i3), (4, .int i4), (5, .int i5)] [] w ((fn_27_82 w k_6 a1 a2 i3 i4 i5).map (cm_fI w)) := by
  unfold fn_27_82
  refine sm_seg 2 6 [(1, .ref a1), (2, .ref a2), (3, .int i3), (4, .int i4), (5, .int (i5 + (1 : Int32)))] [] rfl ?_
  exact hk_6 a1 a2 i3 i4 (i5 + (1 : Int32))
def fn_27_65 (w : cm_W) (k_6 : Nat → Nat → Int32 → Int32 → Int32 → Option Int32) (a1 : Nat) (a2 : Nat) (i3 : Int32) (i4 : Int32) (i5 : Int32) (i6 : Int32) : Option Int32 := (if cm_sh w a2 = some (.inl 6) then (fn_17 w a2 i5).bind fun v2 => (if ¬ v2 = i3 then fn_27_82 w k_6 a1 a2 i3 i4 i5 else fn_27_82 w k_6 a1 a2 i3 (i4 + i6) i5) else none)
theorem jt_27_65 (w : cm_W) (k_6 : Nat → Nat → Int32 → Int32 → Int32 → Option Int32) (hk_6 : ∀ (a1 : Nat) (a2 : Nat) (i3 : Int32) (i4 : Int32) (i5 : Int32), sm cm_g 27 ck_27 kq_27 6 [(1, .ref a1), (2, .ref a2), (3, .int i3), (4, .int i4), (5, .int i5)] [] w ((k_6 a1 a2 i3 i4 i5).map (cm_fI w))) (a1 : Nat) (a2 : Nat) (i3 : Int32) (i4 : Int32) (i5 : Int32) (i6 : Int32) : sm cm_g 27 ck_27 kq_27 65 [(1, .ref a1), (2, .ref a2), (3, .int i3), (4, .int i4), (5, .int i5), (6, .int i6)] [] w ((fn_27_65 w k_6 a1 a2 i3 i4 i5 i6).map (cm_fI w)) := by
  unfold fn_27_65
  refine sm_seg 2 68 [(1, .ref a1), (2, .ref a2), (3, .int i3), (4, .int i4), (5, .int i5), (6, .int i6)] [.int i5, .ref a2] rfl ?_
  refine sm_gd fun h1 => ?_
  refine sm_cV (as := [.int i5]) (rest := []) rfl rfl rfl rfl h1 (Nat.le_of_ble_eq_true rfl) (ca_17 w a2 i5) fun v2 h3 => ?_
  show sm _ _ _ _ 71 [(1, .ref a1), (2, .ref a2), (3, .int i3), (4, .int i4), (5, .int i5), (6, .int i6)] [.int v2] _ _
  refine sm_seg 1 72 [(1, .ref a1), (2, .ref a2), (3, .int i3), (4, .int i4), (5, .int i5), (6, .int i6)] [.int i3, .int v2] rfl ?_
  refine sm_if (pc1 := 82) (lv1 := [(1, .ref a1), (2, .ref a2), (3, .int i3), (4, .int i4), (5, .int i5)]) (pc2 := 75) (lv2 := [(1, .ref a1), (2, .ref a2), (3, .int i3), (4, .int i4), (5, .int i5), (6, .int i6)]) (st1 := []) rfl rfl rfl (fun h4 => ?_) (fun h4 => ?_)
  · exact jt_27_82 w k_6 hk_6 a1 a2 i3 i4 i5
  · refine sm_seg 4 82 [(1, .ref a1), (2, .ref a2), (3, .int i3), (4, .int (i4 + i6)), (5, .int i5)] [] rfl ?_
    exact jt_27_82 w k_6 hk_6 a1 a2 i3 (i4 + i6) i5
def fn_27_6 (w : cm_W) : Nat → Nat → Nat → Int32 → Int32 → Int32 → Option Int32
  | 0, _, _, _, _, _ => none
  | n + 1, a1, a2, i3, i4, i5 => (if cm_sh w a2 = some (.inl 6) then (cm_R w a2 0).bind fun r6 => (if cm_sh w r6 = some (.inl 7) then (if (cm_I w r6 2) ≤ i5 then some i4 else (cm_R w a2 0).bind fun r10 => (if cm_sh w r10 = some (.inl 7) then (fn_1 w r10 i5 (1 : Int32)).bind fun v13 => (if cm_sh w a1 = some (.inl 9) then (fn_6 w a1 v13 (5 : Int32)).bind fun v16 => (fn_20 w a2 i5).bind fun v18 => (if v18 ≤ 0 then fn_27_65 w (fn_27_6 w n) a1 a2 i3 i4 i5 v16 else (fn_19 w a2 i5 i3).bind fun v21 => fn_27_82 w (fn_27_6 w n) a1 a2 i3 (i4 + ((v21 * v16) / (100 : Int32))) i5) else none) else none)) else none) else none)
theorem jt_27_6 (w : cm_W) : ∀ (n : Nat) (a1 : Nat) (a2 : Nat) (i3 : Int32) (i4 : Int32) (i5 : Int32), sm cm_g 27 ck_27 kq_27 6 [(1, .ref a1), (2, .ref a2), (3, .int i3), (4, .int i4), (5, .int i5)] [] w ((fn_27_6 w n a1 a2 i3 i4 i5).map (cm_fI w)) := by
  intro n
  induction n with
  | zero => intro a1 a2 i3 i4 i5; exact sm_no
  | succ n ih =>
    intro a1 a2 i3 i4 i5
    rw [fn_27_6]
    refine sm_seg 2 9 [(1, .ref a1), (2, .ref a2), (3, .int i3), (4, .int i4), (5, .int i5)] [.ref a2, .int i5] rfl ?_
    refine sm_gd fun h5 => ?_
    refine sm_gR rfl h5 rfl rfl fun r6 h7 => ?_
    show sm _ _ _ _ 12 [(1, .ref a1), (2, .ref a2), (3, .int i3), (4, .int i4), (5, .int i5)] [.ref r6, .int i5] _ _
    refine sm_gd fun h8 => ?_
    refine sm_gI rfl h8 rfl ?_
    show sm _ _ _ _ 15 [(1, .ref a1), (2, .ref a2), (3, .int i3), (4, .int i4), (5, .int i5)] [.int (cm_I w r6 2), .int i5] _ _
    refine sm_if (pc1 := 88) (lv1 := [(4, .int i4)]) (pc2 := 18) (lv2 := [(1, .ref a1), (2, .ref a2), (3, .int i3), (4, .int i4), (5, .int i5)]) (st1 := []) rfl rfl rfl (fun h9 => ?_) (fun h9 => ?_)
    · refine sm_seg 1 90 [(4, .int i4)] [.int i4] rfl ?_
      exact sm_rI rfl rfl
    · refine sm_seg 2 20 [(1, .ref a1), (2, .ref a2), (3, .int i3), (4, .int i4), (5, .int i5)] [.ref a2, .ref a1] rfl ?_
      refine sm_gR rfl h5 rfl rfl fun r10 h11 => ?_
      show sm _ _ _ _ 23 [(1, .ref a1), (2, .ref a2), (3, .int i3), (4, .int i4), (5, .int i5)] [.ref r10, .ref a1] _ _
      refine sm_seg 2 26 [(1, .ref a1), (2, .ref a2), (3, .int i3), (4, .int i4), (5, .int i5)] [.int (1 : Int32), .int i5, .ref r10, .ref a1] rfl ?_
      refine sm_gd fun h12 => ?_
      refine sm_cV (as := [.int i5, .int (1 : Int32)]) (rest := [.ref a1]) rfl rfl rfl rfl h12 (Nat.le_of_ble_eq_true rfl) (ca_1 w r10 i5 (1 : Int32)) fun v13 h14 => ?_
      show sm _ _ _ _ 29 [(1, .ref a1), (2, .ref a2), (3, .int i3), (4, .int i4), (5, .int i5)] [.int v13, .ref a1] _ _
      refine sm_seg 1 30 [(1, .ref a1), (2, .ref a2), (3, .int i3), (4, .int i4), (5, .int i5)] [.int (5 : Int32), .int v13, .ref a1] rfl ?_
      refine sm_gd fun h15 => ?_
      refine sm_cV (as := [.int v13, .int (5 : Int32)]) (rest := []) rfl rfl rfl rfl h15 (Nat.le_of_ble_eq_true rfl) (ca_6 w a1 v13 (5 : Int32)) fun v16 h17 => ?_
      show sm _ _ _ _ 33 [(1, .ref a1), (2, .ref a2), (3, .int i3), (4, .int i4), (5, .int i5)] [.int v16] _ _
      refine sm_seg 3 38 [(6, .int v16), (1, .ref a1), (2, .ref a2), (3, .int i3), (4, .int i4), (5, .int i5)] [.int i5, .ref a2] rfl ?_
      refine sm_cV (as := [.int i5]) (rest := []) rfl rfl rfl rfl h5 (Nat.le_of_ble_eq_true rfl) (ca_20 w a2 i5) fun v18 h19 => ?_
      show sm _ _ _ _ 41 [(6, .int v16), (1, .ref a1), (2, .ref a2), (3, .int i3), (4, .int i4), (5, .int i5)] [.int v18] _ _
      refine sm_if (pc1 := 65) (lv1 := [(1, .ref a1), (2, .ref a2), (3, .int i3), (4, .int i4), (5, .int i5), (6, .int v16)]) (pc2 := 44) (lv2 := [(6, .int v16), (1, .ref a1), (2, .ref a2), (3, .int i3), (4, .int i4), (5, .int i5)]) (st1 := []) rfl rfl rfl (fun h20 => ?_) (fun h20 => ?_)
      · exact jt_27_65 w (fn_27_6 w n) ih a1 a2 i3 i4 i5 v16
      · refine sm_seg 4 50 [(6, .int v16), (1, .ref a1), (2, .ref a2), (3, .int i3), (4, .int i4), (5, .int i5)] [.int i3, .int i5, .ref a2, .int i4] rfl ?_
        refine sm_cV (as := [.int i5, .int i3]) (rest := [.int i4]) rfl rfl rfl rfl h5 (Nat.le_of_ble_eq_true rfl) (ca_19 w a2 i5 i3) fun v21 h22 => ?_
        show sm _ _ _ _ 53 [(6, .int v16), (1, .ref a1), (2, .ref a2), (3, .int i3), (4, .int i4), (5, .int i5)] [.int v21, .int i4] _ _
        refine sm_seg 7 82 [(1, .ref a1), (2, .ref a2), (3, .int i3), (4, .int (i4 + ((v21 * v16) / (100 : Int32)))), (5, .int i5)] [] rfl ?_
        exact jt_27_82 w (fn_27_6 w n) ih a1 a2 i3 (i4 + ((v21 * v16) / (100 : Int32))) i5
def fn_27 (w : cm_W) (a0 : Nat) (a1 : Nat) (a2 : Nat) (i3 : Int32) : Option Int32 := fn_27_6 w cm_N a1 a2 i3 (0 : Int32) (0 : Int32)
theorem jt_27_0 (w : cm_W) (a0 : Nat) (a1 : Nat) (a2 : Nat) (i3 : Int32) : sm cm_g 27 ck_27 kq_27 0 [(0, .ref a0), (1, .ref a1), (2, .ref a2), (3, .int i3)] [] w ((fn_27 w a0 a1 a2 i3).map (cm_fI w)) := by
  unfold fn_27
  refine sm_seg 4 6 [(1, .ref a1), (2, .ref a2), (3, .int i3), (4, .int (0 : Int32)), (5, .int (0 : Int32))] [] rfl ?_
  exact jt_27_6 w cm_N a1 a2 i3 (0 : Int32) (0 : Int32)
theorem ca_27 (w : cm_W) (a0 : Nat) (a1 : Nat) (a2 : Nat) (i3 : Int32) : cm_ca cm_g 27 [.ref a0, .ref a1, .ref a2, .int i3] w ((fn_27 w a0 a1 a2 i3).map (cm_fI w)) := cm_ca_of (cm_me_of rfl rfl) rfl (jt_27_0 w a0 a1 a2 i3)
-- NailedBoxes$State.salesOf(I)I
def fn_28_44 (w : cm_W) (k_4 : Nat → Int32 → Int32 → Int32 → Option Int32) (a0 : Nat) (i1 : Int32) (i2 : Int32) (i3 : Int32) : Option Int32 := k_4 a0 i1 (i2 + (0 : Int32)) (i3 + (1 : Int32))
theorem jt_28_44 (w : cm_W) (k_4 : Nat → Int32 → Int32 → Int32 → Option Int32) (hk_4 : ∀ (a0 : Nat) (i1 : Int32) (i2 : Int32) (i3 : Int32), sm cm_g 28 ck_28 kq_28 4 [(0, .ref a0), (1, .int i1), (2, .int i2), (3, .int i3)] [] w ((k_4 a0 i1 i2 i3).map (cm_fI w))) (a0 : Nat) (i1 : Int32) (i2 : Int32) (i3 : Int32) : sm cm_g 28 ck_28 kq_28 44 [(0, .ref a0), (1, .int i1), (2, .int i2), (3, .int i3)] [] w ((fn_28_44 w k_4 a0 i1 i2 i3).map (cm_fI w)) := by
  unfold fn_28_44
  refine sm_seg 4 50 [(4, .int (0 : Int32)), (0, .ref a0), (1, .int i1), (2, .int i2), (3, .int i3)] [.int (0 : Int32), .int i2] rfl ?_
  refine sm_ift (c := (0 : Int32) = 0) (pc1 := 57) (pc2 := 53) (lv1 := [(0, .ref a0), (1, .int i1), (3, .int i3)]) (st1 := [.int i2]) rfl (by decide) rfl ?_
  refine sm_seg 5 4 [(0, .ref a0), (1, .int i1), (2, .int (i2 + (0 : Int32))), (3, .int (i3 + (1 : Int32)))] [] rfl ?_
  exact hk_4 a0 i1 (i2 + (0 : Int32)) (i3 + (1 : Int32))
def fn_28_4 (w : cm_W) : Nat → Nat → Int32 → Int32 → Int32 → Option Int32
  | 0, _, _, _, _ => none
  | n + 1, a0, i1, i2, i3 => (if cm_sh w a0 = some (.inl 6) then (cm_R w a0 1).bind fun r2 => (if cm_sh w r2 = some (.inl 7) then (if (cm_I w r2 2) ≤ i3 then some i2 else (cm_R w a0 1).bind fun r6 => (if cm_sh w r6 = some (.inl 7) then (fn_1 w r6 i3 (5 : Int32)).bind fun v9 => (if ¬ v9 = i1 then fn_28_44 w (fn_28_4 w n) a0 i1 i2 i3 else (cm_R w a0 1).bind fun r12 => (if cm_sh w r12 = some (.inl 7) then (fn_1 w r12 i3 (0 : Int32)).bind fun v15 => (if ¬ v15 = 0 then fn_28_44 w (fn_28_4 w n) a0 i1 i2 i3 else fn_28_4 w n a0 i1 (i2 + (1 : Int32)) (i3 + (1 : Int32))) else none)) else none)) else none) else none)
theorem jt_28_4 (w : cm_W) : ∀ (n : Nat) (a0 : Nat) (i1 : Int32) (i2 : Int32) (i3 : Int32), sm cm_g 28 ck_28 kq_28 4 [(0, .ref a0), (1, .int i1), (2, .int i2), (3, .int i3)] [] w ((fn_28_4 w n a0 i1 i2 i3).map (cm_fI w)) := by
  intro n
  induction n with
  | zero => intro a0 i1 i2 i3; exact sm_no
  | succ n ih =>
    intro a0 i1 i2 i3
    rw [fn_28_4]
    refine sm_seg 2 6 [(0, .ref a0), (1, .int i1), (2, .int i2), (3, .int i3)] [.ref a0, .int i3] rfl ?_
    refine sm_gd fun h1 => ?_
    refine sm_gR rfl h1 rfl rfl fun r2 h3 => ?_
    show sm _ _ _ _ 9 [(0, .ref a0), (1, .int i1), (2, .int i2), (3, .int i3)] [.ref r2, .int i3] _ _
    refine sm_gd fun h4 => ?_
    refine sm_gI rfl h4 rfl ?_
    show sm _ _ _ _ 12 [(0, .ref a0), (1, .int i1), (2, .int i2), (3, .int i3)] [.int (cm_I w r2 2), .int i3] _ _
    refine sm_if (pc1 := 66) (lv1 := [(2, .int i2)]) (pc2 := 15) (lv2 := [(0, .ref a0), (1, .int i1), (2, .int i2), (3, .int i3)]) (st1 := []) rfl rfl rfl (fun h5 => ?_) (fun h5 => ?_)
    · refine sm_seg 1 67 [(2, .int i2)] [.int i2] rfl ?_
      exact sm_rI rfl rfl
    · refine sm_seg 1 16 [(0, .ref a0), (1, .int i1), (2, .int i2), (3, .int i3)] [.ref a0] rfl ?_
      refine sm_gR rfl h1 rfl rfl fun r6 h7 => ?_
      show sm _ _ _ _ 19 [(0, .ref a0), (1, .int i1), (2, .int i2), (3, .int i3)] [.ref r6] _ _
      refine sm_seg 2 21 [(0, .ref a0), (1, .int i1), (2, .int i2), (3, .int i3)] [.int (5 : Int32), .int i3, .ref r6] rfl ?_
      refine sm_gd fun h8 => ?_
      refine sm_cV (as := [.int i3, .int (5 : Int32)]) (rest := []) rfl rfl rfl rfl h8 (Nat.le_of_ble_eq_true rfl) (ca_1 w r6 i3 (5 : Int32)) fun v9 h10 => ?_
      show sm _ _ _ _ 24 [(0, .ref a0), (1, .int i1), (2, .int i2), (3, .int i3)] [.int v9] _ _
      refine sm_seg 1 25 [(0, .ref a0), (1, .int i1), (2, .int i2), (3, .int i3)] [.int i1, .int v9] rfl ?_
      refine sm_if (pc1 := 44) (lv1 := [(0, .ref a0), (1, .int i1), (2, .int i2), (3, .int i3)]) (pc2 := 28) (lv2 := [(0, .ref a0), (1, .int i1), (2, .int i2), (3, .int i3)]) (st1 := []) rfl rfl rfl (fun h11 => ?_) (fun h11 => ?_)
      · exact jt_28_44 w (fn_28_4 w n) ih a0 i1 i2 i3
      · refine sm_seg 1 29 [(0, .ref a0), (1, .int i1), (2, .int i2), (3, .int i3)] [.ref a0] rfl ?_
        refine sm_gR rfl h1 rfl rfl fun r12 h13 => ?_
        show sm _ _ _ _ 32 [(0, .ref a0), (1, .int i1), (2, .int i2), (3, .int i3)] [.ref r12] _ _
        refine sm_seg 2 34 [(0, .ref a0), (1, .int i1), (2, .int i2), (3, .int i3)] [.int (0 : Int32), .int i3, .ref r12] rfl ?_
        refine sm_gd fun h14 => ?_
        refine sm_cV (as := [.int i3, .int (0 : Int32)]) (rest := []) rfl rfl rfl rfl h14 (Nat.le_of_ble_eq_true rfl) (ca_1 w r12 i3 (0 : Int32)) fun v15 h16 => ?_
        show sm _ _ _ _ 37 [(0, .ref a0), (1, .int i1), (2, .int i2), (3, .int i3)] [.int v15] _ _
        refine sm_if (pc1 := 44) (lv1 := [(0, .ref a0), (1, .int i1), (2, .int i2), (3, .int i3)]) (pc2 := 40) (lv2 := [(0, .ref a0), (1, .int i1), (2, .int i2), (3, .int i3)]) (st1 := []) rfl rfl rfl (fun h17 => ?_) (fun h17 => ?_)
        · exact jt_28_44 w (fn_28_4 w n) ih a0 i1 i2 i3
        · refine sm_seg 5 50 [(4, .int (1 : Int32)), (0, .ref a0), (1, .int i1), (2, .int i2), (3, .int i3)] [.int (1 : Int32), .int i2] rfl ?_
          refine sm_iff (c := (1 : Int32) = 0) (pc1 := 57) (pc2 := 53) (lv1 := [(4, .int (1 : Int32)), (0, .ref a0), (1, .int i1), (2, .int i2), (3, .int i3)]) (st1 := [.int i2]) rfl (by decide) rfl ?_
          refine sm_seg 6 4 [(0, .ref a0), (1, .int i1), (2, .int (i2 + (1 : Int32))), (3, .int (i3 + (1 : Int32)))] [] rfl ?_
          exact ih a0 i1 (i2 + (1 : Int32)) (i3 + (1 : Int32))
def fn_28 (w : cm_W) (a0 : Nat) (i1 : Int32) : Option Int32 := fn_28_4 w cm_N a0 i1 (0 : Int32) (0 : Int32)
theorem jt_28_0 (w : cm_W) (a0 : Nat) (i1 : Int32) : sm cm_g 28 ck_28 kq_28 0 [(0, .ref a0), (1, .int i1)] [] w ((fn_28 w a0 i1).map (cm_fI w)) := by
  unfold fn_28
  refine sm_seg 4 4 [(0, .ref a0), (1, .int i1), (2, .int (0 : Int32)), (3, .int (0 : Int32))] [] rfl ?_
  exact jt_28_4 w cm_N a0 i1 (0 : Int32) (0 : Int32)
theorem ca_28 (w : cm_W) (a0 : Nat) (i1 : Int32) : cm_ca cm_g 28 [.ref a0, .int i1] w ((fn_28 w a0 i1).map (cm_fI w)) := cm_ca_of (cm_me_of rfl rfl) rfl (jt_28_0 w a0 i1)
-- NailedBoxes$Hands.meanSoldWorth(LNailedBoxes$Village;LNailedBoxes$State;I)I
def fn_29_67 (w : cm_W) (k_9 : Nat → Nat → Int32 → Int32 → Int32 → Int32 → Option Int32) (a1 : Nat) (a2 : Nat) (i3 : Int32) (i4 : Int32) (i5 : Int32) (i6 : Int32) : Option Int32 := k_9 a1 a2 i3 i4 i5 (i6 + (1 : Int32))
theorem jt_29_67 (w : cm_W) (k_9 : Nat → Nat → Int32 → Int32 → Int32 → Int32 → Option Int32) (hk_9 : ∀ (a1 : Nat) (a2 : Nat) (i3 : Int32) (i4 : Int32) (i5 : Int32) (i6 : Int32), sm cm_g 29 ck_29 kq_29 9 [(1, .ref a1), (2, .ref a2), (3, .int i3), (4, .int i4), (5, .int i5), (6, .int i6)] [] w ((k_9 a1 a2 i3 i4 i5 i6).map (cm_fI w))) (a1 : Nat) (a2 : Nat) (i3 : Int32) (i4 : Int32) (i5 : Int32) (i6 : Int32) : sm cm_g 29 ck_29 kq_29 67 [(1, .ref a1), (2, .ref a2), (3, .int i3), (4, .int i4), (5, .int i5), (6, .int i6)] [] w ((fn_29_67 w k_9 a1 a2 i3 i4 i5 i6).map (cm_fI w)) := by
  unfold fn_29_67
  refine sm_seg 2 9 [(1, .ref a1), (2, .ref a2), (3, .int i3), (4, .int i4), (5, .int i5), (6, .int (i6 + (1 : Int32)))] [] rfl ?_
  exact hk_9 a1 a2 i3 i4 i5 (i6 + (1 : Int32))
def fn_29_82 (w : cm_W) (i4 : Int32) (i5 : Int32) : Option Int32 := (if ¬ i4 = 0 then some ((i5 * (100 : Int32)) / i4) else none)
theorem jt_29_82 (w : cm_W) (i4 : Int32) (i5 : Int32) : sm cm_g 29 ck_29 kq_29 82 [(4, .int i4), (5, .int i5)] [] w ((fn_29_82 w i4 i5).map (cm_fI w)) := by
  unfold fn_29_82
  refine sm_seg 4 89 [(4, .int i4), (5, .int i5)] [.int i4, .int (i5 * (100 : Int32))] rfl ?_
  refine sm_gd fun h1 => ?_
  refine sm_idiv rfl h1 rfl ?_
  show sm _ _ _ _ 90 [] [.int ((i5 * (100 : Int32)) / i4)] _ _
  exact sm_rI rfl rfl
def fn_29_73 (w : cm_W) (i4 : Int32) (i5 : Int32) : Option Int32 := (if ¬ i4 = 0 then fn_29_82 w i4 i5 else some (-1 : Int32))
theorem jt_29_73 (w : cm_W) (i4 : Int32) (i5 : Int32) : sm cm_g 29 ck_29 kq_29 73 [(4, .int i4), (5, .int i5)] [] w ((fn_29_73 w i4 i5).map (cm_fI w)) := by
  unfold fn_29_73
  refine sm_seg 1 75 [(4, .int i4), (5, .int i5)] [.int i4] rfl ?_
  refine sm_if (pc1 := 82) (lv1 := [(4, .int i4), (5, .int i5)]) (pc2 := 78) (lv2 := [(4, .int i4), (5, .int i5)]) (st1 := []) rfl rfl rfl (fun h2 => ?_) (fun h2 => ?_)
  · exact jt_29_82 w i4 i5
  · refine sm_seg 2 90 [] [.int (-1 : Int32)] rfl ?_
    exact sm_rI rfl rfl
def fn_29_9 (w : cm_W) : Nat → Nat → Nat → Int32 → Int32 → Int32 → Int32 → Option Int32
  | 0, _, _, _, _, _, _ => none
  | n + 1, a1, a2, i3, i4, i5, i6 => (if cm_sh w a2 = some (.inl 6) then (cm_R w a2 0).bind fun r4 => (if cm_sh w r4 = some (.inl 7) then (if (cm_I w r4 2) ≤ i6 then fn_29_73 w i4 i5 else (cm_R w a2 0).bind fun r8 => (if cm_sh w r8 = some (.inl 7) then (fn_1 w r8 i6 (0 : Int32)).bind fun v11 => (if ¬ v11 = i3 then fn_29_67 w (fn_29_9 w n) a1 a2 i3 i4 i5 i6 else (fn_28 w a2 i6).bind fun v14 => (if v14 ≤ 0 then fn_29_67 w (fn_29_9 w n) a1 a2 i3 i4 i5 i6 else (cm_R w a2 0).bind fun r17 => (if cm_sh w r17 = some (.inl 7) then (fn_1 w r17 i6 (1 : Int32)).bind fun v20 => (if cm_sh w a1 = some (.inl 9) then (fn_6 w a1 v20 (5 : Int32)).bind fun v23 => fn_29_67 w (fn_29_9 w n) a1 a2 i3 (i4 + (1 : Int32)) (i5 + v23) i6 else none) else none))) else none)) else none) else none)
theorem jt_29_9 (w : cm_W) : ∀ (n : Nat) (a1 : Nat) (a2 : Nat) (i3 : Int32) (i4 : Int32) (i5 : Int32) (i6 : Int32), sm cm_g 29 ck_29 kq_29 9 [(1, .ref a1), (2, .ref a2), (3, .int i3), (4, .int i4), (5, .int i5), (6, .int i6)] [] w ((fn_29_9 w n a1 a2 i3 i4 i5 i6).map (cm_fI w)) := by
  intro n
  induction n with
  | zero => intro a1 a2 i3 i4 i5 i6; exact sm_no
  | succ n ih =>
    intro a1 a2 i3 i4 i5 i6
    rw [fn_29_9]
    refine sm_seg 2 12 [(1, .ref a1), (2, .ref a2), (3, .int i3), (4, .int i4), (5, .int i5), (6, .int i6)] [.ref a2, .int i6] rfl ?_
    refine sm_gd fun h3 => ?_
    refine sm_gR rfl h3 rfl rfl fun r4 h5 => ?_
    show sm _ _ _ _ 15 [(1, .ref a1), (2, .ref a2), (3, .int i3), (4, .int i4), (5, .int i5), (6, .int i6)] [.ref r4, .int i6] _ _
    refine sm_gd fun h6 => ?_
    refine sm_gI rfl h6 rfl ?_
    show sm _ _ _ _ 18 [(1, .ref a1), (2, .ref a2), (3, .int i3), (4, .int i4), (5, .int i5), (6, .int i6)] [.int (cm_I w r4 2), .int i6] _ _
    refine sm_if (pc1 := 73) (lv1 := [(4, .int i4), (5, .int i5)]) (pc2 := 21) (lv2 := [(1, .ref a1), (2, .ref a2), (3, .int i3), (4, .int i4), (5, .int i5), (6, .int i6)]) (st1 := []) rfl rfl rfl (fun h7 => ?_) (fun h7 => ?_)
    · exact jt_29_73 w i4 i5
    · refine sm_seg 1 22 [(1, .ref a1), (2, .ref a2), (3, .int i3), (4, .int i4), (5, .int i5), (6, .int i6)] [.ref a2] rfl ?_
      refine sm_gR rfl h3 rfl rfl fun r8 h9 => ?_
      show sm _ _ _ _ 25 [(1, .ref a1), (2, .ref a2), (3, .int i3), (4, .int i4), (5, .int i5), (6, .int i6)] [.ref r8] _ _
      refine sm_seg 2 28 [(1, .ref a1), (2, .ref a2), (3, .int i3), (4, .int i4), (5, .int i5), (6, .int i6)] [.int (0 : Int32), .int i6, .ref r8] rfl ?_
      refine sm_gd fun h10 => ?_
      refine sm_cV (as := [.int i6, .int (0 : Int32)]) (rest := []) rfl rfl rfl rfl h10 (Nat.le_of_ble_eq_true rfl) (ca_1 w r8 i6 (0 : Int32)) fun v11 h12 => ?_
      show sm _ _ _ _ 31 [(1, .ref a1), (2, .ref a2), (3, .int i3), (4, .int i4), (5, .int i5), (6, .int i6)] [.int v11] _ _
      refine sm_seg 1 32 [(1, .ref a1), (2, .ref a2), (3, .int i3), (4, .int i4), (5, .int i5), (6, .int i6)] [.int i3, .int v11] rfl ?_
      refine sm_if (pc1 := 67) (lv1 := [(1, .ref a1), (2, .ref a2), (3, .int i3), (4, .int i4), (5, .int i5), (6, .int i6)]) (pc2 := 35) (lv2 := [(1, .ref a1), (2, .ref a2), (3, .int i3), (4, .int i4), (5, .int i5), (6, .int i6)]) (st1 := []) rfl rfl rfl (fun h13 => ?_) (fun h13 => ?_)
      · exact jt_29_67 w (fn_29_9 w n) ih a1 a2 i3 i4 i5 i6
      · refine sm_seg 2 38 [(1, .ref a1), (2, .ref a2), (3, .int i3), (4, .int i4), (5, .int i5), (6, .int i6)] [.int i6, .ref a2] rfl ?_
        refine sm_cV (as := [.int i6]) (rest := []) rfl rfl rfl rfl h3 (Nat.le_of_ble_eq_true rfl) (ca_28 w a2 i6) fun v14 h15 => ?_
        show sm _ _ _ _ 41 [(1, .ref a1), (2, .ref a2), (3, .int i3), (4, .int i4), (5, .int i5), (6, .int i6)] [.int v14] _ _
        refine sm_if (pc1 := 67) (lv1 := [(1, .ref a1), (2, .ref a2), (3, .int i3), (4, .int i4), (5, .int i5), (6, .int i6)]) (pc2 := 44) (lv2 := [(1, .ref a1), (2, .ref a2), (3, .int i3), (4, .int i4), (5, .int i5), (6, .int i6)]) (st1 := []) rfl rfl rfl (fun h16 => ?_) (fun h16 => ?_)
        · exact jt_29_67 w (fn_29_9 w n) ih a1 a2 i3 i4 i5 i6
        · refine sm_seg 4 51 [(4, .int (i4 + (1 : Int32))), (1, .ref a1), (2, .ref a2), (3, .int i3), (5, .int i5), (6, .int i6)] [.ref a2, .ref a1, .int i5] rfl ?_
          refine sm_gR rfl h3 rfl rfl fun r17 h18 => ?_
          show sm _ _ _ _ 54 [(4, .int (i4 + (1 : Int32))), (1, .ref a1), (2, .ref a2), (3, .int i3), (5, .int i5), (6, .int i6)] [.ref r17, .ref a1, .int i5] _ _
          refine sm_seg 2 57 [(4, .int (i4 + (1 : Int32))), (1, .ref a1), (2, .ref a2), (3, .int i3), (5, .int i5), (6, .int i6)] [.int (1 : Int32), .int i6, .ref r17, .ref a1, .int i5] rfl ?_
          refine sm_gd fun h19 => ?_
          refine sm_cV (as := [.int i6, .int (1 : Int32)]) (rest := [.ref a1, .int i5]) rfl rfl rfl rfl h19 (Nat.le_of_ble_eq_true rfl) (ca_1 w r17 i6 (1 : Int32)) fun v20 h21 => ?_
          show sm _ _ _ _ 60 [(4, .int (i4 + (1 : Int32))), (1, .ref a1), (2, .ref a2), (3, .int i3), (5, .int i5), (6, .int i6)] [.int v20, .ref a1, .int i5] _ _
          refine sm_seg 1 61 [(4, .int (i4 + (1 : Int32))), (1, .ref a1), (2, .ref a2), (3, .int i3), (5, .int i5), (6, .int i6)] [.int (5 : Int32), .int v20, .ref a1, .int i5] rfl ?_
          refine sm_gd fun h22 => ?_
          refine sm_cV (as := [.int v20, .int (5 : Int32)]) (rest := [.int i5]) rfl rfl rfl rfl h22 (Nat.le_of_ble_eq_true rfl) (ca_6 w a1 v20 (5 : Int32)) fun v23 h24 => ?_
          show sm _ _ _ _ 64 [(4, .int (i4 + (1 : Int32))), (1, .ref a1), (2, .ref a2), (3, .int i3), (5, .int i5), (6, .int i6)] [.int v23, .int i5] _ _
          refine sm_seg 2 67 [(1, .ref a1), (2, .ref a2), (3, .int i3), (4, .int (i4 + (1 : Int32))), (5, .int (i5 + v23)), (6, .int i6)] [] rfl ?_
          exact jt_29_67 w (fn_29_9 w n) ih a1 a2 i3 (i4 + (1 : Int32)) (i5 + v23) i6
def fn_29 (w : cm_W) (a0 : Nat) (a1 : Nat) (a2 : Nat) (i3 : Int32) : Option Int32 := fn_29_9 w cm_N a1 a2 i3 (0 : Int32) (0 : Int32) (0 : Int32)
theorem jt_29_0 (w : cm_W) (a0 : Nat) (a1 : Nat) (a2 : Nat) (i3 : Int32) : sm cm_g 29 ck_29 kq_29 0 [(0, .ref a0), (1, .ref a1), (2, .ref a2), (3, .int i3)] [] w ((fn_29 w a0 a1 a2 i3).map (cm_fI w)) := by
  unfold fn_29
  refine sm_seg 6 9 [(1, .ref a1), (2, .ref a2), (3, .int i3), (4, .int (0 : Int32)), (5, .int (0 : Int32)), (6, .int (0 : Int32))] [] rfl ?_
  exact jt_29_9 w cm_N a1 a2 i3 (0 : Int32) (0 : Int32) (0 : Int32)
theorem ca_29 (w : cm_W) (a0 : Nat) (a1 : Nat) (a2 : Nat) (i3 : Int32) : cm_ca cm_g 29 [.ref a0, .ref a1, .ref a2, .int i3] w ((fn_29 w a0 a1 a2 i3).map (cm_fI w)) := cm_ca_of (cm_me_of rfl rfl) rfl (jt_29_0 w a0 a1 a2 i3)
-- NailedBoxes$Village.keptOf(II)I
def fn_31 (w : cm_W) (a0 : Nat) (i1 : Int32) (i2 : Int32) : Option Int32 := (if cm_sh w a0 = some (.inl 9) then (fn_6 w a0 i1 i2).bind fun v2 => some ((v2 * (cm_I w a0 6)) / (10 : Int32)) else none)
theorem jt_31_0 (w : cm_W) (a0 : Nat) (i1 : Int32) (i2 : Int32) : sm cm_g 31 ck_31 kq_31 0 [(0, .ref a0), (1, .int i1), (2, .int i2)] [] w ((fn_31 w a0 i1 i2).map (cm_fI w)) := by
  unfold fn_31
  refine sm_seg 3 3 [(0, .ref a0), (1, .int i1), (2, .int i2)] [.int i2, .int i1, .ref a0] rfl ?_
  refine sm_gd fun h1 => ?_
  refine sm_cV (as := [.int i1, .int i2]) (rest := []) rfl rfl rfl rfl h1 (Nat.le_of_ble_eq_true rfl) (ca_6 w a0 i1 i2) fun v2 h3 => ?_
  show sm _ _ _ _ 6 [(0, .ref a0), (1, .int i1), (2, .int i2)] [.int v2] _ _
  refine sm_seg 1 7 [(0, .ref a0), (1, .int i1), (2, .int i2)] [.ref a0, .int v2] rfl ?_
  refine sm_gI rfl h1 rfl ?_
  show sm _ _ _ _ 10 [(0, .ref a0), (1, .int i1), (2, .int i2)] [.int (cm_I w a0 6), .int v2] _ _
  refine sm_seg 3 14 [(0, .ref a0), (1, .int i1), (2, .int i2)] [.int ((v2 * (cm_I w a0 6)) / (10 : Int32))] rfl ?_
  exact sm_rI rfl rfl
theorem ca_31 (w : cm_W) (a0 : Nat) (i1 : Int32) (i2 : Int32) : cm_ca cm_g 31 [.ref a0, .int i1, .int i2] w ((fn_31 w a0 i1 i2).map (cm_fI w)) := cm_ca_of (cm_me_of rfl rfl) rfl (jt_31_0 w a0 i1 i2)
-- NailedBoxes$Market.prepare(LNailedBoxes$Village;I)V
def fn_32_2 : Nat → Nat → Nat → Int32 → Int32 → cm_W → Option cm_W
  | 0, _, _, _, _, _ => none
  | n + 1, a0, a1, i2, i3, w => (if (8 : Int32) ≤ i3 then some w else (if cm_sh w a0 = some (.inl 3) then (cm_R w a0 1).bind fun r3 => (if cm_sh w a1 = some (.inl 9) then (fn_6 w a1 i3 i2).bind fun v6 => (if cm_ga w .int r3 i3 = true then (if cm_w2 51 55 r3 = true then (cm_R (cm_sI w r3 i3.toNatClampNeg v6) a0 2).bind fun r10 => (fn_31 (cm_sI w r3 i3.toNatClampNeg v6) a1 i3 i2).bind fun v12 => (if cm_ga w .int r10 i3 = true then (if cm_w2 51 55 r10 = true then fn_32_2 n a0 a1 i2 (i3 + (1 : Int32)) (cm_sI (cm_sI w r3 i3.toNatClampNeg v6) r10 i3.toNatClampNeg v12) else none) else none) else none) else none) else none) else none))
theorem jt_32_2 : ∀ (n : Nat) (a0 : Nat) (a1 : Nat) (i2 : Int32) (i3 : Int32) (w : cm_W), sm cm_g 32 ck_32 kq_32 2 [(0, .ref a0), (1, .ref a1), (2, .int i2), (3, .int i3)] [] w ((fn_32_2 n a0 a1 i2 i3 w).map cm_gV) := by
  intro n
  induction n with
  | zero => intro a0 a1 i2 i3 w; exact sm_no
  | succ n ih =>
    intro a0 a1 i2 i3 w
    rw [fn_32_2]
    refine sm_seg 2 5 [(0, .ref a0), (1, .ref a1), (2, .int i2), (3, .int i3)] [.int (8 : Int32), .int i3] rfl ?_
    refine sm_if (pc1 := 38) (lv1 := []) (pc2 := 8) (lv2 := [(0, .ref a0), (1, .ref a1), (2, .int i2), (3, .int i3)]) (st1 := []) rfl rfl rfl (fun h1 => ?_) (fun h1 => ?_)
    · exact sm_rV rfl rfl
    · refine sm_seg 1 9 [(0, .ref a0), (1, .ref a1), (2, .int i2), (3, .int i3)] [.ref a0] rfl ?_
      refine sm_gd fun h2 => ?_
      refine sm_gR rfl h2 rfl rfl fun r3 h4 => ?_
      show sm _ _ _ _ 12 [(0, .ref a0), (1, .ref a1), (2, .int i2), (3, .int i3)] [.ref r3] _ _
      refine sm_seg 4 16 [(0, .ref a0), (1, .ref a1), (2, .int i2), (3, .int i3)] [.int i2, .int i3, .ref a1, .int i3, .ref r3] rfl ?_
      refine sm_gd fun h5 => ?_
      refine sm_cV (as := [.int i3, .int i2]) (rest := [.int i3, .ref r3]) rfl rfl rfl rfl h5 (Nat.le_of_ble_eq_true rfl) (ca_6 w a1 i3 i2) fun v6 h7 => ?_
      show sm _ _ _ _ 19 [(0, .ref a0), (1, .ref a1), (2, .int i2), (3, .int i3)] [.int v6, .int i3, .ref r3] _ _
      refine sm_gd fun h8 => ?_
      refine sm_gd fun h9 => ?_
      refine sm_si rfl h8 h9 rfl rfl ?_
      show sm _ _ _ _ 20 [(0, .ref a0), (1, .ref a1), (2, .int i2), (3, .int i3)] [] _ _
      refine sm_seg 1 21 [(0, .ref a0), (1, .ref a1), (2, .int i2), (3, .int i3)] [.ref a0] rfl ?_
      refine sm_gR rfl h2 rfl rfl fun r10 h11 => ?_
      show sm _ _ _ _ 24 [(0, .ref a0), (1, .ref a1), (2, .int i2), (3, .int i3)] [.ref r10] _ _
      refine sm_seg 4 28 [(0, .ref a0), (1, .ref a1), (2, .int i2), (3, .int i3)] [.int i2, .int i3, .ref a1, .int i3, .ref r10] rfl ?_
      refine sm_cV (as := [.int i3, .int i2]) (rest := [.int i3, .ref r10]) rfl rfl rfl rfl h5 (Nat.le_of_ble_eq_true rfl) (ca_31 (cm_sI w r3 i3.toNatClampNeg v6) a1 i3 i2) fun v12 h13 => ?_
      show sm _ _ _ _ 31 [(0, .ref a0), (1, .ref a1), (2, .int i2), (3, .int i3)] [.int v12, .int i3, .ref r10] _ _
      refine sm_gd fun h14 => ?_
      refine sm_gd fun h15 => ?_
      refine sm_si rfl h14 h15 rfl rfl ?_
      show sm _ _ _ _ 32 [(0, .ref a0), (1, .ref a1), (2, .int i2), (3, .int i3)] [] _ _
      refine sm_seg 2 2 [(0, .ref a0), (1, .ref a1), (2, .int i2), (3, .int (i3 + (1 : Int32)))] [] rfl ?_
      exact ih a0 a1 i2 (i3 + (1 : Int32)) (cm_sI (cm_sI w r3 i3.toNatClampNeg v6) r10 i3.toNatClampNeg v12)
def fn_32 (a0 : Nat) (a1 : Nat) (i2 : Int32) (w : cm_W) : Option cm_W := fn_32_2  cm_N a0 a1 i2 (0 : Int32) w
theorem jt_32_0 (a0 : Nat) (a1 : Nat) (i2 : Int32) (w : cm_W) : sm cm_g 32 ck_32 kq_32 0 [(0, .ref a0), (1, .ref a1), (2, .int i2)] [] w ((fn_32 a0 a1 i2 w).map cm_gV) := by
  unfold fn_32
  refine sm_seg 2 2 [(0, .ref a0), (1, .ref a1), (2, .int i2), (3, .int (0 : Int32))] [] rfl ?_
  exact jt_32_2  cm_N a0 a1 i2 (0 : Int32) w
theorem ca_32 (a0 : Nat) (a1 : Nat) (i2 : Int32) (w : cm_W) : cm_ca cm_g 32 [.ref a0, .ref a1, .int i2] w ((fn_32 a0 a1 i2 w).map cm_gV) := cm_ca_of (cm_me_of rfl rfl) rfl (jt_32_0 a0 a1 i2 w)
-- java/util/Arrays.fill([JJ)V
def fn_33_6 : Nat → Nat → Int64 → Int32 → Int32 → cm_W → Option cm_W
  | 0, _, _, _, _, _ => none
  | n + 1, a0, j1, i3, i4, w => (if i4 ≤ i3 then some w else (if cm_ga w .long a0 i3 = true then (if cm_w2 51 55 a0 = true then fn_33_6 n a0 j1 (i3 + (1 : Int32)) i4 (cm_sL w a0 i3.toNatClampNeg j1) else none) else none))
theorem jt_33_6 : ∀ (n : Nat) (a0 : Nat) (j1 : Int64) (i3 : Int32) (i4 : Int32) (w : cm_W), sm cm_g 33 ck_33 kq_33 6 [(0, .ref a0), (1, .long j1), (3, .int i3), (4, .int i4)] [] w ((fn_33_6 n a0 j1 i3 i4 w).map cm_gV) := by
  intro n
  induction n with
  | zero => intro a0 j1 i3 i4 w; exact sm_no
  | succ n ih =>
    intro a0 j1 i3 i4 w
    rw [fn_33_6]
    refine sm_seg 2 9 [(0, .ref a0), (1, .long j1), (3, .int i3), (4, .int i4)] [.int i4, .int i3] rfl ?_
    refine sm_if (pc1 := 22) (lv1 := []) (pc2 := 12) (lv2 := [(0, .ref a0), (1, .long j1), (3, .int i3), (4, .int i4)]) (st1 := []) rfl rfl rfl (fun h1 => ?_) (fun h1 => ?_)
    · exact sm_rV rfl rfl
    · refine sm_seg 3 15 [(0, .ref a0), (1, .long j1), (3, .int i3), (4, .int i4)] [.long j1, .int i3, .ref a0] rfl ?_
      refine sm_gd fun h2 => ?_
      refine sm_gd fun h3 => ?_
      refine sm_sl rfl h2 h3 rfl rfl ?_
      show sm _ _ _ _ 16 [(0, .ref a0), (1, .long j1), (3, .int i3), (4, .int i4)] [] _ _
      refine sm_seg 2 6 [(0, .ref a0), (1, .long j1), (3, .int (i3 + (1 : Int32))), (4, .int i4)] [] rfl ?_
      exact ih a0 j1 (i3 + (1 : Int32)) i4 (cm_sL w a0 i3.toNatClampNeg j1)
def fn_33 (a0 : Nat) (j1 : Int64) (w : cm_W) : Option cm_W := (cm_al w a0).bind fun n4 => fn_33_6  cm_N a0 j1 (0 : Int32) (Int32.ofNat n4) w
theorem jt_33_0 (a0 : Nat) (j1 : Int64) (w : cm_W) : sm cm_g 33 ck_33 kq_33 0 [(0, .ref a0), (1, .long j1)] [] w ((fn_33 a0 j1 w).map cm_gV) := by
  unfold fn_33
  refine sm_seg 3 3 [(3, .int (0 : Int32)), (0, .ref a0), (1, .long j1)] [.ref a0] rfl ?_
  refine sm_len rfl rfl fun n4 h5 => ?_
  show sm _ _ _ _ 4 [(3, .int (0 : Int32)), (0, .ref a0), (1, .long j1)] [.int (Int32.ofNat n4)] _ _
  refine sm_seg 1 6 [(0, .ref a0), (1, .long j1), (3, .int (0 : Int32)), (4, .int (Int32.ofNat n4))] [] rfl ?_
  exact jt_33_6  cm_N a0 j1 (0 : Int32) (Int32.ofNat n4) w
theorem ca_33 (a0 : Nat) (j1 : Int64) (w : cm_W) : cm_ca cm_g 33 [.ref a0, .long j1] w ((fn_33 a0 j1 w).map cm_gV) := cm_ca_of (cm_me_of rfl rfl) rfl (jt_33_0 a0 j1 w)
-- NailedBoxes$Market.isTogether(LNailedBoxes$Village;IZII)Z
def fn_34_32 (w : cm_W) (a0 : Nat) (i3 : Int32) (i4 : Int32) : Option Bool := (if cm_sh w a0 = some (.inl 9) then (cm_R w a0 1).bind fun r2 => (if cm_sh w r2 = some (.inl 7) then (fn_1 w r2 i3 (2 : Int32)).bind fun v5 => (cm_R w a0 1).bind fun r7 => (if cm_sh w r7 = some (.inl 7) then (fn_1 w r7 i4 (2 : Int32)).bind fun v10 => (if ¬ v5 = v10 then some false else some true) else none) else none) else none)
theorem jt_34_32 (w : cm_W) (a0 : Nat) (i3 : Int32) (i4 : Int32) : sm cm_g 34 ck_34 kq_34 32 [(0, .ref a0), (3, .int i3), (4, .int i4)] [] w ((fn_34_32 w a0 i3 i4).map (cm_fB w)) := by
  unfold fn_34_32
  refine sm_seg 1 33 [(0, .ref a0), (3, .int i3), (4, .int i4)] [.ref a0] rfl ?_
  refine sm_gd fun h1 => ?_
  refine sm_gR rfl h1 rfl rfl fun r2 h3 => ?_
  show sm _ _ _ _ 36 [(0, .ref a0), (3, .int i3), (4, .int i4)] [.ref r2] _ _
  refine sm_seg 2 38 [(0, .ref a0), (3, .int i3), (4, .int i4)] [.int (2 : Int32), .int i3, .ref r2] rfl ?_
  refine sm_gd fun h4 => ?_
  refine sm_cV (as := [.int i3, .int (2 : Int32)]) (rest := []) rfl rfl rfl rfl h4 (Nat.le_of_ble_eq_true rfl) (ca_1 w r2 i3 (2 : Int32)) fun v5 h6 => ?_
  show sm _ _ _ _ 41 [(0, .ref a0), (3, .int i3), (4, .int i4)] [.int v5] _ _
  refine sm_seg 1 42 [(0, .ref a0), (3, .int i3), (4, .int i4)] [.ref a0, .int v5] rfl ?_
  refine sm_gR rfl h1 rfl rfl fun r7 h8 => ?_
  show sm _ _ _ _ 45 [(0, .ref a0), (3, .int i3), (4, .int i4)] [.ref r7, .int v5] _ _
  refine sm_seg 2 48 [(0, .ref a0), (3, .int i3), (4, .int i4)] [.int (2 : Int32), .int i4, .ref r7, .int v5] rfl ?_
  refine sm_gd fun h9 => ?_
  refine sm_cV (as := [.int i4, .int (2 : Int32)]) (rest := [.int v5]) rfl rfl rfl rfl h9 (Nat.le_of_ble_eq_true rfl) (ca_1 w r7 i4 (2 : Int32)) fun v10 h11 => ?_
  show sm _ _ _ _ 51 [(0, .ref a0), (3, .int i3), (4, .int i4)] [.int v10, .int v5] _ _
  refine sm_if (pc1 := 58) (lv1 := []) (pc2 := 54) (lv2 := [(0, .ref a0), (3, .int i3), (4, .int i4)]) (st1 := []) rfl rfl rfl (fun h12 => ?_) (fun h12 => ?_)
  · refine sm_seg 1 59 [] [.int (0 : Int32)] rfl ?_
    exact sm_rB (b := false) rfl rfl
  · refine sm_seg 2 59 [] [.int (1 : Int32)] rfl ?_
    exact sm_rB (b := true) rfl rfl
def fn_34_60 (w : cm_W) (a0 : Nat) (i3 : Int32) (i4 : Int32) : Option Bool := (if cm_sh w a0 = some (.inl 9) then (cm_R w a0 1).bind fun r14 => (if cm_sh w r14 = some (.inl 7) then (fn_1 w r14 i3 (1 : Int32)).bind fun v17 => (cm_R w a0 1).bind fun r19 => (if cm_sh w r19 = some (.inl 7) then (fn_1 w r19 i4 (1 : Int32)).bind fun v22 => (if ¬ v17 = v22 then some false else some true) else none) else none) else none)
theorem jt_34_60 (w : cm_W) (a0 : Nat) (i3 : Int32) (i4 : Int32) : sm cm_g 34 ck_34 kq_34 60 [(0, .ref a0), (3, .int i3), (4, .int i4)] [] w ((fn_34_60 w a0 i3 i4).map (cm_fB w)) := by
  unfold fn_34_60
  refine sm_seg 1 61 [(0, .ref a0), (3, .int i3), (4, .int i4)] [.ref a0] rfl ?_
  refine sm_gd fun h13 => ?_
  refine sm_gR rfl h13 rfl rfl fun r14 h15 => ?_
  show sm _ _ _ _ 64 [(0, .ref a0), (3, .int i3), (4, .int i4)] [.ref r14] _ _
  refine sm_seg 2 66 [(0, .ref a0), (3, .int i3), (4, .int i4)] [.int (1 : Int32), .int i3, .ref r14] rfl ?_
  refine sm_gd fun h16 => ?_
  refine sm_cV (as := [.int i3, .int (1 : Int32)]) (rest := []) rfl rfl rfl rfl h16 (Nat.le_of_ble_eq_true rfl) (ca_1 w r14 i3 (1 : Int32)) fun v17 h18 => ?_
  show sm _ _ _ _ 69 [(0, .ref a0), (3, .int i3), (4, .int i4)] [.int v17] _ _
  refine sm_seg 1 70 [(0, .ref a0), (3, .int i3), (4, .int i4)] [.ref a0, .int v17] rfl ?_
  refine sm_gR rfl h13 rfl rfl fun r19 h20 => ?_
  show sm _ _ _ _ 73 [(0, .ref a0), (3, .int i3), (4, .int i4)] [.ref r19, .int v17] _ _
  refine sm_seg 2 76 [(0, .ref a0), (3, .int i3), (4, .int i4)] [.int (1 : Int32), .int i4, .ref r19, .int v17] rfl ?_
  refine sm_gd fun h21 => ?_
  refine sm_cV (as := [.int i4, .int (1 : Int32)]) (rest := [.int v17]) rfl rfl rfl rfl h21 (Nat.le_of_ble_eq_true rfl) (ca_1 w r19 i4 (1 : Int32)) fun v22 h23 => ?_
  show sm _ _ _ _ 79 [(0, .ref a0), (3, .int i3), (4, .int i4)] [.int v22, .int v17] _ _
  refine sm_if (pc1 := 86) (lv1 := []) (pc2 := 82) (lv2 := [(0, .ref a0), (3, .int i3), (4, .int i4)]) (st1 := []) rfl rfl rfl (fun h24 => ?_) (fun h24 => ?_)
  · refine sm_seg 1 87 [] [.int (0 : Int32)] rfl ?_
    exact sm_rB (b := false) rfl rfl
  · refine sm_seg 2 87 [] [.int (1 : Int32)] rfl ?_
    exact sm_rB (b := true) rfl rfl
def fn_34 (w : cm_W) (a0 : Nat) (i1 : Int32) (i2 : Int32) (i3 : Int32) (i4 : Int32) : Option Bool := (if i1 = (0 : Int32) then some true else (if i1 = (1 : Int32) then (if i2 = 0 ∨ i2 = 1 then some (decide (i2 = 1)) else none) else (if i1 = (2 : Int32) then fn_34_32 w a0 i3 i4 else fn_34_60 w a0 i3 i4)))
theorem jt_34_0 (w : cm_W) (a0 : Nat) (i1 : Int32) (i2 : Int32) (i3 : Int32) (i4 : Int32) : sm cm_g 34 ck_34 kq_34 0 [(0, .ref a0), (1, .int i1), (2, .int i2), (3, .int i3), (4, .int i4)] [] w ((fn_34 w a0 i1 i2 i3 i4).map (cm_fB w)) := by
  unfold fn_34
  refine sm_seg 1 1 [(0, .ref a0), (1, .int i1), (2, .int i2), (3, .int i3), (4, .int i4)] [.int i1] rfl ?_
  refine sm_br (fun h25 => ?_) (fun h25 => ?_)
  · refine sm_ts (off := (27)) (pc1 := 28) (lv1 := [(0, .ref a0), (1, .int i1), (2, .int i2), (3, .int i3), (4, .int i4)]) rfl (by rw [h25]; rfl) rfl rfl ?_
    refine sm_seg 1 29 [(0, .ref a0), (1, .int i1), (2, .int i2), (3, .int i3), (4, .int i4)] [.int (1 : Int32)] rfl ?_
    exact sm_rB (b := true) rfl rfl
  refine sm_br (fun h26 => ?_) (fun h26 => ?_)
  · refine sm_ts (off := (29)) (pc1 := 30) (lv1 := [(2, .int i2)]) rfl (by rw [h26]; rfl) rfl rfl ?_
    refine sm_seg 1 31 [(2, .int i2)] [.int i2] rfl ?_
    refine sm_gd fun h27 => ?_
    exact sm_rY rfl rfl h27
  refine sm_br (fun h28 => ?_) (fun h28 => ?_)
  · refine sm_ts (off := (31)) (pc1 := 32) (lv1 := [(0, .ref a0), (3, .int i3), (4, .int i4)]) rfl (by rw [h28]; rfl) rfl rfl ?_
    exact jt_34_32 w a0 i3 i4
  refine sm_ts (off := (59)) (pc1 := 60) (lv1 := [(0, .ref a0), (3, .int i3), (4, .int i4)]) rfl (cm_tsd (n := 3) rfl rfl (fun j hj => match j, hj with | 0, _ => .inr (cm_ne h25 rfl) | 1, _ => .inr (cm_ne h26 rfl) | 2, _ => .inr (cm_ne h28 rfl) | _ + 3, h => absurd h (by omega))) rfl rfl ?_
  exact jt_34_60 w a0 i3 i4
theorem ca_34 (w : cm_W) (a0 : Nat) (i1 : Int32) (i2 : Int32) (i3 : Int32) (i4 : Int32) : cm_ca cm_g 34 [.ref a0, .int i1, .int i2, .int i3, .int i4] w ((fn_34 w a0 i1 i2 i3 i4).map (cm_fB w)) := cm_ca_of (cm_me_of rfl rfl) rfl (jt_34_0 w a0 i1 i2 i3 i4)
-- NailedBoxes$Village.millionthsOf(II)J
def fn_35 (w : cm_W) (a0 : Nat) (i1 : Int32) (i2 : Int32) : Option Int64 := (if cm_sh w a0 = some (.inl 9) then (fn_10 w a0 i1).bind fun v2 => (if v2 ≤ 0 then some (0 : Int64) else (fn_8 w a0 i1 i2).bind fun v5 => (if ¬ (Int32.toInt64 v2) = 0 then some (((Int32.toInt64 v5) * (1000000 : Int64)) / (Int32.toInt64 v2)) else none)) else none)
theorem jt_35_0 (w : cm_W) (a0 : Nat) (i1 : Int32) (i2 : Int32) : sm cm_g 35 ck_35 kq_35 0 [(0, .ref a0), (1, .int i1), (2, .int i2)] [] w ((fn_35 w a0 i1 i2).map (cm_fL w)) := by
  unfold fn_35
  refine sm_seg 2 2 [(0, .ref a0), (1, .int i1), (2, .int i2)] [.int i1, .ref a0] rfl ?_
  refine sm_gd fun h1 => ?_
  refine sm_cV (as := [.int i1]) (rest := []) rfl rfl rfl rfl h1 (Nat.le_of_ble_eq_true rfl) (ca_10 w a0 i1) fun v2 h3 => ?_
  show sm _ _ _ _ 5 [(0, .ref a0), (1, .int i1), (2, .int i2)] [.int v2] _ _
  refine sm_seg 2 7 [(3, .int v2), (0, .ref a0), (1, .int i1), (2, .int i2)] [.int v2] rfl ?_
  refine sm_if (pc1 := 27) (lv1 := []) (pc2 := 10) (lv2 := [(3, .int v2), (0, .ref a0), (1, .int i1), (2, .int i2)]) (st1 := []) rfl rfl rfl (fun h4 => ?_) (fun h4 => ?_)
  · refine sm_seg 1 28 [] [.long (0 : Int64)] rfl ?_
    exact sm_rL rfl rfl
  · refine sm_seg 3 13 [(3, .int v2), (0, .ref a0), (1, .int i1), (2, .int i2)] [.int i2, .int i1, .ref a0] rfl ?_
    refine sm_cV (as := [.int i1, .int i2]) (rest := []) rfl rfl rfl rfl h1 (Nat.le_of_ble_eq_true rfl) (ca_8 w a0 i1 i2) fun v5 h6 => ?_
    show sm _ _ _ _ 16 [(3, .int v2), (0, .ref a0), (1, .int i1), (2, .int i2)] [.int v5] _ _
    refine sm_seg 5 23 [(3, .int v2), (0, .ref a0), (1, .int i1), (2, .int i2)] [.long (Int32.toInt64 v2), .long ((Int32.toInt64 v5) * (1000000 : Int64))] rfl ?_
    refine sm_gd fun h7 => ?_
    refine sm_ldiv rfl h7 rfl ?_
    show sm _ _ _ _ 24 [(3, .int v2), (0, .ref a0), (1, .int i1), (2, .int i2)] [.long (((Int32.toInt64 v5) * (1000000 : Int64)) / (Int32.toInt64 v2))] _ _
    refine sm_seg 1 28 [] [.long (((Int32.toInt64 v5) * (1000000 : Int64)) / (Int32.toInt64 v2))] rfl ?_
    exact sm_rL rfl rfl
theorem ca_35 (w : cm_W) (a0 : Nat) (i1 : Int32) (i2 : Int32) : cm_ca cm_g 35 [.ref a0, .int i1, .int i2] w ((fn_35 w a0 i1 i2).map (cm_fL w)) := cm_ca_of (cm_me_of rfl rfl) rfl (jt_35_0 w a0 i1 i2)
-- NailedBoxes$Market.gather(LNailedBoxes$Village;III)V
def fn_36_74 (k_11 : Nat → Nat → Int32 → Int32 → Int32 → Int32 → cm_W → Option cm_W) (k_26 : Nat → Nat → Int32 → Int32 → Int32 → Int32 → Int32 → cm_W → Option cm_W) (a0 : Nat) (a1 : Nat) (i2 : Int32) (i3 : Int32) (i4 : Int32) (i5 : Int32) (i6 : Int32) (w : cm_W) : Option cm_W := k_26 a0 a1 i2 i3 i4 i5 (i6 + (1 : Int32)) w
theorem jt_36_74 (k_11 : Nat → Nat → Int32 → Int32 → Int32 → Int32 → cm_W → Option cm_W) (k_26 : Nat → Nat → Int32 → Int32 → Int32 → Int32 → Int32 → cm_W → Option cm_W) (hk_11 : ∀ (a0 : Nat) (a1 : Nat) (i2 : Int32) (i3 : Int32) (i4 : Int32) (i5 : Int32) (w : cm_W), sm cm_g 36 ck_36 kq_36 11 [(0, .ref a0), (1, .ref a1), (2, .int i2), (3, .int i3), (4, .int i4), (5, .int i5)] [] w ((k_11 a0 a1 i2 i3 i4 i5 w).map cm_gV)) (hk_26 : ∀ (a0 : Nat) (a1 : Nat) (i2 : Int32) (i3 : Int32) (i4 : Int32) (i5 : Int32) (i6 : Int32) (w : cm_W), sm cm_g 36 ck_36 kq_36 26 [(0, .ref a0), (1, .ref a1), (2, .int i2), (3, .int i3), (4, .int i4), (5, .int i5), (6, .int i6)] [] w ((k_26 a0 a1 i2 i3 i4 i5 i6 w).map cm_gV)) (a0 : Nat) (a1 : Nat) (i2 : Int32) (i3 : Int32) (i4 : Int32) (i5 : Int32) (i6 : Int32) (w : cm_W) : sm cm_g 36 ck_36 kq_36 74 [(0, .ref a0), (1, .ref a1), (2, .int i2), (3, .int i3), (4, .int i4), (5, .int i5), (6, .int i6)] [] w ((fn_36_74 k_11 k_26 a0 a1 i2 i3 i4 i5 i6 w).map cm_gV) := by
  unfold fn_36_74
  refine sm_seg 2 26 [(0, .ref a0), (1, .ref a1), (2, .int i2), (3, .int i3), (4, .int i4), (5, .int i5), (6, .int (i6 + (1 : Int32)))] [] rfl ?_
  exact hk_26 a0 a1 i2 i3 i4 i5 (i6 + (1 : Int32)) w
def fn_36_80 (k_11 : Nat → Nat → Int32 → Int32 → Int32 → Int32 → cm_W → Option cm_W) (a0 : Nat) (a1 : Nat) (i2 : Int32) (i3 : Int32) (i4 : Int32) (i5 : Int32) (w : cm_W) : Option cm_W := k_11 a0 a1 i2 i3 i4 (i5 + (1 : Int32)) w
theorem jt_36_80 (k_11 : Nat → Nat → Int32 → Int32 → Int32 → Int32 → cm_W → Option cm_W) (hk_11 : ∀ (a0 : Nat) (a1 : Nat) (i2 : Int32) (i3 : Int32) (i4 : Int32) (i5 : Int32) (w : cm_W), sm cm_g 36 ck_36 kq_36 11 [(0, .ref a0), (1, .ref a1), (2, .int i2), (3, .int i3), (4, .int i4), (5, .int i5)] [] w ((k_11 a0 a1 i2 i3 i4 i5 w).map cm_gV)) (a0 : Nat) (a1 : Nat) (i2 : Int32) (i3 : Int32) (i4 : Int32) (i5 : Int32) (w : cm_W) : sm cm_g 36 ck_36 kq_36 80 [(0, .ref a0), (1, .ref a1), (2, .int i2), (3, .int i3), (4, .int i4), (5, .int i5)] [] w ((fn_36_80 k_11 a0 a1 i2 i3 i4 i5 w).map cm_gV) := by
  unfold fn_36_80
  refine sm_seg 2 11 [(0, .ref a0), (1, .ref a1), (2, .int i2), (3, .int i3), (4, .int i4), (5, .int (i5 + (1 : Int32)))] [] rfl ?_
  exact hk_11 a0 a1 i2 i3 i4 (i5 + (1 : Int32)) w
def fn_36_26 (k_11 : Nat → Nat → Int32 → Int32 → Int32 → Int32 → cm_W → Option cm_W) : Nat → Nat → Nat → Int32 → Int32 → Int32 → Int32 → Int32 → cm_W → Option cm_W
  | 0, _, _, _, _, _, _, _, _ => none
  | n + 1, a0, a1, i2, i3, i4, i5, i6, w => (if (8 : Int32) ≤ i6 then fn_36_80  k_11 a0 a1 i2 i3 i4 i5 w else (if ¬ i3 = i5 then (fn_34 w a1 i2 (0 : Int32) i4 i6).bind fun v3 => (if (cm_b v3) = 0 then fn_36_74  k_11 (fn_36_26 k_11 n) a0 a1 i2 i3 i4 i5 i6 w else (if cm_sh w a0 = some (.inl 3) then (cm_R w a0 0).bind fun r7 => (if cm_ga w .long r7 i6 = true then (if cm_sh w a1 = some (.inl 9) then (fn_35 w a1 i5 i6).bind fun v11 => (if cm_w2 51 55 r7 = true then fn_36_74  k_11 (fn_36_26 k_11 n) a0 a1 i2 i3 i4 i5 i6 (cm_sL w r7 i6.toNatClampNeg ((cm_L w r7 i6.toNatClampNeg) + v11)) else none) else none) else none) else none)) else (fn_34 w a1 i2 (1 : Int32) i4 i6).bind fun v14 => (if (cm_b v14) = 0 then fn_36_74  k_11 (fn_36_26 k_11 n) a0 a1 i2 i3 i4 i5 i6 w else (if cm_sh w a0 = some (.inl 3) then (cm_R w a0 0).bind fun r18 => (if cm_ga w .long r18 i6 = true then (if cm_sh w a1 = some (.inl 9) then (fn_35 w a1 i5 i6).bind fun v22 => (if cm_w2 51 55 r18 = true then fn_36_74  k_11 (fn_36_26 k_11 n) a0 a1 i2 i3 i4 i5 i6 (cm_sL w r18 i6.toNatClampNeg ((cm_L w r18 i6.toNatClampNeg) + v22)) else none) else none) else none) else none))))
theorem jt_36_26 (k_11 : Nat → Nat → Int32 → Int32 → Int32 → Int32 → cm_W → Option cm_W) (hk_11 : ∀ (a0 : Nat) (a1 : Nat) (i2 : Int32) (i3 : Int32) (i4 : Int32) (i5 : Int32) (w : cm_W), sm cm_g 36 ck_36 kq_36 11 [(0, .ref a0), (1, .ref a1), (2, .int i2), (3, .int i3), (4, .int i4), (5, .int i5)] [] w ((k_11 a0 a1 i2 i3 i4 i5 w).map cm_gV)) : ∀ (n : Nat) (a0 : Nat) (a1 : Nat) (i2 : Int32) (i3 : Int32) (i4 : Int32) (i5 : Int32) (i6 : Int32) (w : cm_W), sm cm_g 36 ck_36 kq_36 26 [(0, .ref a0), (1, .ref a1), (2, .int i2), (3, .int i3), (4, .int i4), (5, .int i5), (6, .int i6)] [] w ((fn_36_26 k_11 n a0 a1 i2 i3 i4 i5 i6 w).map cm_gV) := by
  intro n
  induction n with
  | zero => intro a0 a1 i2 i3 i4 i5 i6 w; exact sm_no
  | succ n ih =>
    intro a0 a1 i2 i3 i4 i5 i6 w
    rw [fn_36_26]
    refine sm_seg 2 30 [(0, .ref a0), (1, .ref a1), (2, .int i2), (3, .int i3), (4, .int i4), (5, .int i5), (6, .int i6)] [.int (8 : Int32), .int i6] rfl ?_
    refine sm_if (pc1 := 80) (lv1 := [(0, .ref a0), (1, .ref a1), (2, .int i2), (3, .int i3), (4, .int i4), (5, .int i5)]) (pc2 := 33) (lv2 := [(0, .ref a0), (1, .ref a1), (2, .int i2), (3, .int i3), (4, .int i4), (5, .int i5), (6, .int i6)]) (st1 := []) rfl rfl rfl (fun h1 => ?_) (fun h1 => ?_)
    · exact jt_36_80  k_11 hk_11 a0 a1 i2 i3 i4 i5 w
    · refine sm_seg 4 38 [(0, .ref a0), (1, .ref a1), (2, .int i2), (3, .int i3), (4, .int i4), (5, .int i5), (6, .int i6)] [.int i5, .int i3, .int i2, .ref a1] rfl ?_
      refine sm_if (pc1 := 45) (lv1 := [(0, .ref a0), (1, .ref a1), (2, .int i2), (3, .int i3), (4, .int i4), (5, .int i5), (6, .int i6)]) (pc2 := 41) (lv2 := [(0, .ref a0), (1, .ref a1), (2, .int i2), (3, .int i3), (4, .int i4), (5, .int i5), (6, .int i6)]) (st1 := [.int i2, .ref a1]) rfl rfl rfl (fun h2 => ?_) (fun h2 => ?_)
      · refine sm_seg 3 50 [(0, .ref a0), (1, .ref a1), (2, .int i2), (3, .int i3), (4, .int i4), (5, .int i5), (6, .int i6)] [.int i6, .int i4, .int (0 : Int32), .int i2, .ref a1] rfl ?_
        refine sm_cS (av := [.ref a1, .int i2, .int (0 : Int32), .int i4, .int i6]) (rest := []) rfl rfl rfl rfl (Nat.le_of_ble_eq_true rfl) (ca_34 w a1 i2 (0 : Int32) i4 i6) fun v3 h4 => ?_
        show sm _ _ _ _ 53 [(0, .ref a0), (1, .ref a1), (2, .int i2), (3, .int i3), (4, .int i4), (5, .int i5), (6, .int i6)] [.int (cm_b v3)] _ _
        refine sm_if (pc1 := 74) (lv1 := [(0, .ref a0), (1, .ref a1), (2, .int i2), (3, .int i3), (4, .int i4), (5, .int i5), (6, .int i6)]) (pc2 := 56) (lv2 := [(0, .ref a0), (1, .ref a1), (2, .int i2), (3, .int i3), (4, .int i4), (5, .int i5), (6, .int i6)]) (st1 := []) rfl rfl rfl (fun h5 => ?_) (fun h5 => ?_)
        · exact jt_36_74  k_11 (fn_36_26 k_11 n) hk_11 ih a0 a1 i2 i3 i4 i5 i6 w
        · refine sm_seg 1 57 [(0, .ref a0), (1, .ref a1), (2, .int i2), (3, .int i3), (4, .int i4), (5, .int i5), (6, .int i6)] [.ref a0] rfl ?_
          refine sm_gd fun h6 => ?_
          refine sm_gR rfl h6 rfl rfl fun r7 h8 => ?_
          show sm _ _ _ _ 60 [(0, .ref a0), (1, .ref a1), (2, .int i2), (3, .int i3), (4, .int i4), (5, .int i5), (6, .int i6)] [.ref r7] _ _
          refine sm_seg 2 63 [(0, .ref a0), (1, .ref a1), (2, .int i2), (3, .int i3), (4, .int i4), (5, .int i5), (6, .int i6)] [.int i6, .ref r7, .int i6, .ref r7] rfl ?_
          refine sm_gd fun h9 => ?_
          refine sm_al rfl h9 rfl ?_
          show sm _ _ _ _ 64 [(0, .ref a0), (1, .ref a1), (2, .int i2), (3, .int i3), (4, .int i4), (5, .int i5), (6, .int i6)] [.long (cm_L w r7 i6.toNatClampNeg), .int i6, .ref r7] _ _
          refine sm_seg 3 69 [(0, .ref a0), (1, .ref a1), (2, .int i2), (3, .int i3), (4, .int i4), (5, .int i5), (6, .int i6)] [.int i6, .int i5, .ref a1, .long (cm_L w r7 i6.toNatClampNeg), .int i6, .ref r7] rfl ?_
          refine sm_gd fun h10 => ?_
          refine sm_cV (as := [.int i5, .int i6]) (rest := [.long (cm_L w r7 i6.toNatClampNeg), .int i6, .ref r7]) rfl rfl rfl rfl h10 (Nat.le_of_ble_eq_true rfl) (ca_35 w a1 i5 i6) fun v11 h12 => ?_
          show sm _ _ _ _ 72 [(0, .ref a0), (1, .ref a1), (2, .int i2), (3, .int i3), (4, .int i4), (5, .int i5), (6, .int i6)] [.long v11, .long (cm_L w r7 i6.toNatClampNeg), .int i6, .ref r7] _ _
          refine sm_seg 1 73 [(0, .ref a0), (1, .ref a1), (2, .int i2), (3, .int i3), (4, .int i4), (5, .int i5), (6, .int i6)] [.long ((cm_L w r7 i6.toNatClampNeg) + v11), .int i6, .ref r7] rfl ?_
          refine sm_gd fun h13 => ?_
          refine sm_sl rfl h9 h13 rfl rfl ?_
          show sm _ _ _ _ 74 [(0, .ref a0), (1, .ref a1), (2, .int i2), (3, .int i3), (4, .int i4), (5, .int i5), (6, .int i6)] [] _ _
          exact jt_36_74  k_11 (fn_36_26 k_11 n) hk_11 ih a0 a1 i2 i3 i4 i5 i6 (cm_sL w r7 i6.toNatClampNeg ((cm_L w r7 i6.toNatClampNeg) + v11))
      · refine sm_seg 4 50 [(0, .ref a0), (1, .ref a1), (2, .int i2), (3, .int i3), (4, .int i4), (5, .int i5), (6, .int i6)] [.int i6, .int i4, .int (1 : Int32), .int i2, .ref a1] rfl ?_
        refine sm_cS (av := [.ref a1, .int i2, .int (1 : Int32), .int i4, .int i6]) (rest := []) rfl rfl rfl rfl (Nat.le_of_ble_eq_true rfl) (ca_34 w a1 i2 (1 : Int32) i4 i6) fun v14 h15 => ?_
        show sm _ _ _ _ 53 [(0, .ref a0), (1, .ref a1), (2, .int i2), (3, .int i3), (4, .int i4), (5, .int i5), (6, .int i6)] [.int (cm_b v14)] _ _
        refine sm_if (pc1 := 74) (lv1 := [(0, .ref a0), (1, .ref a1), (2, .int i2), (3, .int i3), (4, .int i4), (5, .int i5), (6, .int i6)]) (pc2 := 56) (lv2 := [(0, .ref a0), (1, .ref a1), (2, .int i2), (3, .int i3), (4, .int i4), (5, .int i5), (6, .int i6)]) (st1 := []) rfl rfl rfl (fun h16 => ?_) (fun h16 => ?_)
        · exact jt_36_74  k_11 (fn_36_26 k_11 n) hk_11 ih a0 a1 i2 i3 i4 i5 i6 w
        · refine sm_seg 1 57 [(0, .ref a0), (1, .ref a1), (2, .int i2), (3, .int i3), (4, .int i4), (5, .int i5), (6, .int i6)] [.ref a0] rfl ?_
          refine sm_gd fun h17 => ?_
          refine sm_gR rfl h17 rfl rfl fun r18 h19 => ?_
          show sm _ _ _ _ 60 [(0, .ref a0), (1, .ref a1), (2, .int i2), (3, .int i3), (4, .int i4), (5, .int i5), (6, .int i6)] [.ref r18] _ _
          refine sm_seg 2 63 [(0, .ref a0), (1, .ref a1), (2, .int i2), (3, .int i3), (4, .int i4), (5, .int i5), (6, .int i6)] [.int i6, .ref r18, .int i6, .ref r18] rfl ?_
          refine sm_gd fun h20 => ?_
          refine sm_al rfl h20 rfl ?_
          show sm _ _ _ _ 64 [(0, .ref a0), (1, .ref a1), (2, .int i2), (3, .int i3), (4, .int i4), (5, .int i5), (6, .int i6)] [.long (cm_L w r18 i6.toNatClampNeg), .int i6, .ref r18] _ _
          refine sm_seg 3 69 [(0, .ref a0), (1, .ref a1), (2, .int i2), (3, .int i3), (4, .int i4), (5, .int i5), (6, .int i6)] [.int i6, .int i5, .ref a1, .long (cm_L w r18 i6.toNatClampNeg), .int i6, .ref r18] rfl ?_
          refine sm_gd fun h21 => ?_
          refine sm_cV (as := [.int i5, .int i6]) (rest := [.long (cm_L w r18 i6.toNatClampNeg), .int i6, .ref r18]) rfl rfl rfl rfl h21 (Nat.le_of_ble_eq_true rfl) (ca_35 w a1 i5 i6) fun v22 h23 => ?_
          show sm _ _ _ _ 72 [(0, .ref a0), (1, .ref a1), (2, .int i2), (3, .int i3), (4, .int i4), (5, .int i5), (6, .int i6)] [.long v22, .long (cm_L w r18 i6.toNatClampNeg), .int i6, .ref r18] _ _
          refine sm_seg 1 73 [(0, .ref a0), (1, .ref a1), (2, .int i2), (3, .int i3), (4, .int i4), (5, .int i5), (6, .int i6)] [.long ((cm_L w r18 i6.toNatClampNeg) + v22), .int i6, .ref r18] rfl ?_
          refine sm_gd fun h24 => ?_
          refine sm_sl rfl h20 h24 rfl rfl ?_
          show sm _ _ _ _ 74 [(0, .ref a0), (1, .ref a1), (2, .int i2), (3, .int i3), (4, .int i4), (5, .int i5), (6, .int i6)] [] _ _
          exact jt_36_74  k_11 (fn_36_26 k_11 n) hk_11 ih a0 a1 i2 i3 i4 i5 i6 (cm_sL w r18 i6.toNatClampNeg ((cm_L w r18 i6.toNatClampNeg) + v22))
def fn_36_11 : Nat → Nat → Nat → Int32 → Int32 → Int32 → Int32 → cm_W → Option cm_W
  | 0, _, _, _, _, _, _, _ => none
  | n + 1, a0, a1, i2, i3, i4, i5, w => (if cm_sh w a1 = some (.inl 9) then (cm_R w a1 3).bind fun r26 => (if cm_sh w r26 = some (.inl 7) then (if (cm_I w r26 2) ≤ i5 then some w else fn_36_26  (fn_36_11 n) cm_N a0 a1 i2 i3 i4 i5 (0 : Int32) w) else none) else none)
theorem jt_36_11 : ∀ (n : Nat) (a0 : Nat) (a1 : Nat) (i2 : Int32) (i3 : Int32) (i4 : Int32) (i5 : Int32) (w : cm_W), sm cm_g 36 ck_36 kq_36 11 [(0, .ref a0), (1, .ref a1), (2, .int i2), (3, .int i3), (4, .int i4), (5, .int i5)] [] w ((fn_36_11 n a0 a1 i2 i3 i4 i5 w).map cm_gV) := by
  intro n
  induction n with
  | zero => intro a0 a1 i2 i3 i4 i5 w; exact sm_no
  | succ n ih =>
    intro a0 a1 i2 i3 i4 i5 w
    rw [fn_36_11]
    refine sm_seg 2 14 [(0, .ref a0), (1, .ref a1), (2, .int i2), (3, .int i3), (4, .int i4), (5, .int i5)] [.ref a1, .int i5] rfl ?_
    refine sm_gd fun h25 => ?_
    refine sm_gR rfl h25 rfl rfl fun r26 h27 => ?_
    show sm _ _ _ _ 17 [(0, .ref a0), (1, .ref a1), (2, .int i2), (3, .int i3), (4, .int i4), (5, .int i5)] [.ref r26, .int i5] _ _
    refine sm_gd fun h28 => ?_
    refine sm_gI rfl h28 rfl ?_
    show sm _ _ _ _ 20 [(0, .ref a0), (1, .ref a1), (2, .int i2), (3, .int i3), (4, .int i4), (5, .int i5)] [.int (cm_I w r26 2), .int i5] _ _
    refine sm_if (pc1 := 86) (lv1 := []) (pc2 := 23) (lv2 := [(0, .ref a0), (1, .ref a1), (2, .int i2), (3, .int i3), (4, .int i4), (5, .int i5)]) (st1 := []) rfl rfl rfl (fun h29 => ?_) (fun h29 => ?_)
    · exact sm_rV rfl rfl
    · refine sm_seg 2 26 [(0, .ref a0), (1, .ref a1), (2, .int i2), (3, .int i3), (4, .int i4), (5, .int i5), (6, .int (0 : Int32))] [] rfl ?_
      exact jt_36_26  (fn_36_11 n) ih cm_N a0 a1 i2 i3 i4 i5 (0 : Int32) w
def fn_36 (a0 : Nat) (a1 : Nat) (i2 : Int32) (i3 : Int32) (i4 : Int32) (w : cm_W) : Option cm_W := (if cm_sh w a0 = some (.inl 3) then (cm_R w a0 0).bind fun r31 => (fn_33 r31 (0 : Int64) w).bind fun w33 => fn_36_11  cm_N a0 a1 i2 i3 i4 (0 : Int32) w33 else none)
theorem jt_36_0 (a0 : Nat) (a1 : Nat) (i2 : Int32) (i3 : Int32) (i4 : Int32) (w : cm_W) : sm cm_g 36 ck_36 kq_36 0 [(0, .ref a0), (1, .ref a1), (2, .int i2), (3, .int i3), (4, .int i4)] [] w ((fn_36 a0 a1 i2 i3 i4 w).map cm_gV) := by
  unfold fn_36
  refine sm_seg 1 1 [(0, .ref a0), (1, .ref a1), (2, .int i2), (3, .int i3), (4, .int i4)] [.ref a0] rfl ?_
  refine sm_gd fun h30 => ?_
  refine sm_gR rfl h30 rfl rfl fun r31 h32 => ?_
  show sm _ _ _ _ 4 [(0, .ref a0), (1, .ref a1), (2, .int i2), (3, .int i3), (4, .int i4)] [.ref r31] _ _
  refine sm_seg 1 5 [(0, .ref a0), (1, .ref a1), (2, .int i2), (3, .int i3), (4, .int i4)] [.long (0 : Int64), .ref r31] rfl ?_
  refine sm_cS (av := [.ref r31, .long (0 : Int64)]) (rest := []) rfl rfl rfl rfl (Nat.le_of_ble_eq_true rfl) (ca_33  r31 (0 : Int64) w) fun w33 h34 => ?_
  show sm _ _ _ _ 8 [(0, .ref a0), (1, .ref a1), (2, .int i2), (3, .int i3), (4, .int i4)] [] _ _
  refine sm_seg 2 11 [(0, .ref a0), (1, .ref a1), (2, .int i2), (3, .int i3), (4, .int i4), (5, .int (0 : Int32))] [] rfl ?_
  exact jt_36_11  cm_N a0 a1 i2 i3 i4 (0 : Int32) w33
theorem ca_36 (a0 : Nat) (a1 : Nat) (i2 : Int32) (i3 : Int32) (i4 : Int32) (w : cm_W) : cm_ca cm_g 36 [.ref a0, .ref a1, .int i2, .int i3, .int i4] w ((fn_36 a0 a1 i2 i3 i4 w).map cm_gV) := cm_ca_of (cm_me_of rfl rfl) rfl (jt_36_0 a0 a1 i2 i3 i4 w)
-- NailedBoxes$Market.gatherOwn(LNailedBoxes$Village;I)V
def fn_37_2 : Nat → Nat → Nat → Int32 → Int32 → cm_W → Option cm_W
  | 0, _, _, _, _, _ => none
  | n + 1, a0, a1, i2, i3, w => (if (8 : Int32) ≤ i3 then some w else (if cm_sh w a0 = some (.inl 3) then (cm_R w a0 0).bind fun r3 => (if cm_sh w a1 = some (.inl 9) then (fn_8 w a1 i2 i3).bind fun v6 => (if cm_ga w .long r3 i3 = true then (if cm_w2 51 55 r3 = true then fn_37_2 n a0 a1 i2 (i3 + (1 : Int32)) (cm_sL w r3 i3.toNatClampNeg (Int32.toInt64 v6)) else none) else none) else none) else none))
theorem jt_37_2 : ∀ (n : Nat) (a0 : Nat) (a1 : Nat) (i2 : Int32) (i3 : Int32) (w : cm_W), sm cm_g 37 ck_37 kq_37 2 [(0, .ref a0), (1, .ref a1), (2, .int i2), (3, .int i3)] [] w ((fn_37_2 n a0 a1 i2 i3 w).map cm_gV) := by
  intro n
  induction n with
  | zero => intro a0 a1 i2 i3 w; exact sm_no
  | succ n ih =>
    intro a0 a1 i2 i3 w
    rw [fn_37_2]
    refine sm_seg 2 5 [(0, .ref a0), (1, .ref a1), (2, .int i2), (3, .int i3)] [.int (8 : Int32), .int i3] rfl ?_
    refine sm_if (pc1 := 27) (lv1 := []) (pc2 := 8) (lv2 := [(0, .ref a0), (1, .ref a1), (2, .int i2), (3, .int i3)]) (st1 := []) rfl rfl rfl (fun h1 => ?_) (fun h1 => ?_)
    · exact sm_rV rfl rfl
    · refine sm_seg 1 9 [(0, .ref a0), (1, .ref a1), (2, .int i2), (3, .int i3)] [.ref a0] rfl ?_
      refine sm_gd fun h2 => ?_
      refine sm_gR rfl h2 rfl rfl fun r3 h4 => ?_
      show sm _ _ _ _ 12 [(0, .ref a0), (1, .ref a1), (2, .int i2), (3, .int i3)] [.ref r3] _ _
      refine sm_seg 4 16 [(0, .ref a0), (1, .ref a1), (2, .int i2), (3, .int i3)] [.int i3, .int i2, .ref a1, .int i3, .ref r3] rfl ?_
      refine sm_gd fun h5 => ?_
      refine sm_cV (as := [.int i2, .int i3]) (rest := [.int i3, .ref r3]) rfl rfl rfl rfl h5 (Nat.le_of_ble_eq_true rfl) (ca_8 w a1 i2 i3) fun v6 h7 => ?_
      show sm _ _ _ _ 19 [(0, .ref a0), (1, .ref a1), (2, .int i2), (3, .int i3)] [.int v6, .int i3, .ref r3] _ _
      refine sm_seg 1 20 [(0, .ref a0), (1, .ref a1), (2, .int i2), (3, .int i3)] [.long (Int32.toInt64 v6), .int i3, .ref r3] rfl ?_
      refine sm_gd fun h8 => ?_
      refine sm_gd fun h9 => ?_
      refine sm_sl rfl h8 h9 rfl rfl ?_
      show sm _ _ _ _ 21 [(0, .ref a0), (1, .ref a1), (2, .int i2), (3, .int i3)] [] _ _
      refine sm_seg 2 2 [(0, .ref a0), (1, .ref a1), (2, .int i2), (3, .int (i3 + (1 : Int32)))] [] rfl ?_
      exact ih a0 a1 i2 (i3 + (1 : Int32)) (cm_sL w r3 i3.toNatClampNeg (Int32.toInt64 v6))
def fn_37 (a0 : Nat) (a1 : Nat) (i2 : Int32) (w : cm_W) : Option cm_W := fn_37_2  cm_N a0 a1 i2 (0 : Int32) w
theorem jt_37_0 (a0 : Nat) (a1 : Nat) (i2 : Int32) (w : cm_W) : sm cm_g 37 ck_37 kq_37 0 [(0, .ref a0), (1, .ref a1), (2, .int i2)] [] w ((fn_37 a0 a1 i2 w).map cm_gV) := by
  unfold fn_37
  refine sm_seg 2 2 [(0, .ref a0), (1, .ref a1), (2, .int i2), (3, .int (0 : Int32))] [] rfl ?_
  exact jt_37_2  cm_N a0 a1 i2 (0 : Int32) w
theorem ca_37 (a0 : Nat) (a1 : Nat) (i2 : Int32) (w : cm_W) : cm_ca cm_g 37 [.ref a0, .ref a1, .int i2] w ((fn_37 a0 a1 i2 w).map cm_gV) := cm_ca_of (cm_me_of rfl rfl) rfl (jt_37_0 a0 a1 i2 w)
-- NailedBoxes$Market.isSold(II)Z
def fn_38 (w : cm_W) (a0 : Nat) (i1 : Int32) (i2 : Int32) : Option Bool := (if cm_sh w a0 = some (.inl 3) then (cm_R w a0 0).bind fun r2 => (if cm_ga w .long r2 i1 = true then (if (lg_cmp (cm_L w r2 i1.toNatClampNeg) (0 : Int64)) ≤ 0 then some false else (cm_R w a0 2).bind fun r6 => (if cm_ga w .int r6 i1 = true then (if i2 < (cm_I w r6 i1.toNatClampNeg) then some false else some true) else none)) else none) else none)
theorem jt_38_0 (w : cm_W) (a0 : Nat) (i1 : Int32) (i2 : Int32) : sm cm_g 38 ck_38 kq_38 0 [(0, .ref a0), (1, .int i1), (2, .int i2)] [] w ((fn_38 w a0 i1 i2).map (cm_fB w)) := by
  unfold fn_38
  refine sm_seg 1 1 [(0, .ref a0), (1, .int i1), (2, .int i2)] [.ref a0] rfl ?_
  refine sm_gd fun h1 => ?_
  refine sm_gR rfl h1 rfl rfl fun r2 h3 => ?_
  show sm _ _ _ _ 4 [(0, .ref a0), (1, .int i1), (2, .int i2)] [.ref r2] _ _
  refine sm_seg 1 5 [(0, .ref a0), (1, .int i1), (2, .int i2)] [.int i1, .ref r2] rfl ?_
  refine sm_gd fun h4 => ?_
  refine sm_al rfl h4 rfl ?_
  show sm _ _ _ _ 6 [(0, .ref a0), (1, .int i1), (2, .int i2)] [.long (cm_L w r2 i1.toNatClampNeg)] _ _
  refine sm_seg 2 8 [(0, .ref a0), (1, .int i1), (2, .int i2)] [.int (lg_cmp (cm_L w r2 i1.toNatClampNeg) (0 : Int64))] rfl ?_
  refine sm_if (pc1 := 25) (lv1 := []) (pc2 := 11) (lv2 := [(0, .ref a0), (1, .int i1), (2, .int i2)]) (st1 := []) rfl rfl rfl (fun h5 => ?_) (fun h5 => ?_)
  · refine sm_seg 1 26 [] [.int (0 : Int32)] rfl ?_
    exact sm_rB (b := false) rfl rfl
  · refine sm_seg 1 12 [(0, .ref a0), (1, .int i1), (2, .int i2)] [.ref a0] rfl ?_
    refine sm_gR rfl h1 rfl rfl fun r6 h7 => ?_
    show sm _ _ _ _ 15 [(0, .ref a0), (1, .int i1), (2, .int i2)] [.ref r6] _ _
    refine sm_seg 1 16 [(0, .ref a0), (1, .int i1), (2, .int i2)] [.int i1, .ref r6] rfl ?_
    refine sm_gd fun h8 => ?_
    refine sm_ai rfl h8 rfl ?_
    show sm _ _ _ _ 17 [(0, .ref a0), (1, .int i1), (2, .int i2)] [.int (cm_I w r6 i1.toNatClampNeg)] _ _
    refine sm_seg 1 18 [(0, .ref a0), (1, .int i1), (2, .int i2)] [.int i2, .int (cm_I w r6 i1.toNatClampNeg)] rfl ?_
    refine sm_if (pc1 := 25) (lv1 := []) (pc2 := 21) (lv2 := [(0, .ref a0), (1, .int i1), (2, .int i2)]) (st1 := []) rfl rfl rfl (fun h9 => ?_) (fun h9 => ?_)
    · refine sm_seg 1 26 [] [.int (0 : Int32)] rfl ?_
      exact sm_rB (b := false) rfl rfl
    · refine sm_seg 2 26 [] [.int (1 : Int32)] rfl ?_
      exact sm_rB (b := true) rfl rfl
theorem ca_38 (w : cm_W) (a0 : Nat) (i1 : Int32) (i2 : Int32) : cm_ca cm_g 38 [.ref a0, .int i1, .int i2] w ((fn_38 w a0 i1 i2).map (cm_fB w)) := cm_ca_of (cm_me_of rfl rfl) rfl (jt_38_0 w a0 i1 i2)
-- NailedBoxes$Market.meanOfSold(I)I
def fn_39_56 (w : cm_W) (k_8 : Nat → Int32 → Int64 → Int64 → Int32 → Option Int32) (a0 : Nat) (i1 : Int32) (j2 : Int64) (j4 : Int64) (i6 : Int32) : Option Int32 := k_8 a0 i1 j2 j4 (i6 + (1 : Int32))
theorem jt_39_56 (w : cm_W) (k_8 : Nat → Int32 → Int64 → Int64 → Int32 → Option Int32) (hk_8 : ∀ (a0 : Nat) (i1 : Int32) (j2 : Int64) (j4 : Int64) (i6 : Int32), sm cm_g 39 ck_39 kq_39 8 [(0, .ref a0), (1, .int i1), (2, .long j2), (4, .long j4), (6, .int i6)] [] w ((k_8 a0 i1 j2 j4 i6).map (cm_fI w))) (a0 : Nat) (i1 : Int32) (j2 : Int64) (j4 : Int64) (i6 : Int32) : sm cm_g 39 ck_39 kq_39 56 [(0, .ref a0), (1, .int i1), (2, .long j2), (4, .long j4), (6, .int i6)] [] w ((fn_39_56 w k_8 a0 i1 j2 j4 i6).map (cm_fI w)) := by
  unfold fn_39_56
  refine sm_seg 2 8 [(0, .ref a0), (1, .int i1), (2, .long j2), (4, .long j4), (6, .int (i6 + (1 : Int32)))] [] rfl ?_
  exact hk_8 a0 i1 j2 j4 (i6 + (1 : Int32))
def fn_39_62 (w : cm_W) (j2 : Int64) (j4 : Int64) : Option Int32 := (if (lg_cmp j2 (0 : Int64)) ≤ 0 then some (-1 : Int32) else (if ¬ j2 = 0 then some (Int64.toInt32 (j4 / j2)) else none))
theorem jt_39_62 (w : cm_W) (j2 : Int64) (j4 : Int64) : sm cm_g 39 ck_39 kq_39 62 [(2, .long j2), (4, .long j4)] [] w ((fn_39_62 w j2 j4).map (cm_fI w)) := by
  unfold fn_39_62
  refine sm_seg 3 65 [(2, .long j2), (4, .long j4)] [.int (lg_cmp j2 (0 : Int64))] rfl ?_
  refine sm_if (pc1 := 76) (lv1 := []) (pc2 := 68) (lv2 := [(2, .long j2), (4, .long j4)]) (st1 := []) rfl rfl rfl (fun h1 => ?_) (fun h1 => ?_)
  · refine sm_seg 1 77 [] [.int (-1 : Int32)] rfl ?_
    exact sm_rI rfl rfl
  · refine sm_seg 2 71 [(2, .long j2), (4, .long j4)] [.long j2, .long j4] rfl ?_
    refine sm_gd fun h2 => ?_
    refine sm_ldiv rfl h2 rfl ?_
    show sm _ _ _ _ 72 [(2, .long j2), (4, .long j4)] [.long (j4 / j2)] _ _
    refine sm_seg 2 77 [] [.int (Int64.toInt32 (j4 / j2))] rfl ?_
    exact sm_rI rfl rfl
def fn_39_8 (w : cm_W) : Nat → Nat → Int32 → Int64 → Int64 → Int32 → Option Int32
  | 0, _, _, _, _, _ => none
  | n + 1, a0, i1, j2, j4, i6 => (if (8 : Int32) ≤ i6 then fn_39_62 w j2 j4 else (if cm_sh w a0 = some (.inl 3) then (fn_38 w a0 i6 i1).bind fun v5 => (if (cm_b v5) = 0 then fn_39_56 w (fn_39_8 w n) a0 i1 j2 j4 i6 else (cm_R w a0 0).bind fun r8 => (if cm_ga w .long r8 i6 = true then (cm_R w a0 0).bind fun r11 => (if cm_ga w .long r11 i6 = true then (cm_R w a0 1).bind fun r14 => (if cm_ga w .int r14 i6 = true then fn_39_56 w (fn_39_8 w n) a0 i1 (j2 + (cm_L w r8 i6.toNatClampNeg)) (j4 + ((cm_L w r11 i6.toNatClampNeg) * (Int32.toInt64 (cm_I w r14 i6.toNatClampNeg)))) i6 else none) else none) else none)) else none))
theorem jt_39_8 (w : cm_W) : ∀ (n : Nat) (a0 : Nat) (i1 : Int32) (j2 : Int64) (j4 : Int64) (i6 : Int32), sm cm_g 39 ck_39 kq_39 8 [(0, .ref a0), (1, .int i1), (2, .long j2), (4, .long j4), (6, .int i6)] [] w ((fn_39_8 w n a0 i1 j2 j4 i6).map (cm_fI w)) := by
  intro n
  induction n with
  | zero => intro a0 i1 j2 j4 i6; exact sm_no
  | succ n ih =>
    intro a0 i1 j2 j4 i6
    rw [fn_39_8]
    refine sm_seg 2 12 [(0, .ref a0), (1, .int i1), (2, .long j2), (4, .long j4), (6, .int i6)] [.int (8 : Int32), .int i6] rfl ?_
    refine sm_if (pc1 := 62) (lv1 := [(2, .long j2), (4, .long j4)]) (pc2 := 15) (lv2 := [(0, .ref a0), (1, .int i1), (2, .long j2), (4, .long j4), (6, .int i6)]) (st1 := []) rfl rfl rfl (fun h3 => ?_) (fun h3 => ?_)
    · exact jt_39_62 w j2 j4
    · refine sm_seg 3 19 [(0, .ref a0), (1, .int i1), (2, .long j2), (4, .long j4), (6, .int i6)] [.int i1, .int i6, .ref a0] rfl ?_
      refine sm_gd fun h4 => ?_
      refine sm_cV (as := [.int i6, .int i1]) (rest := []) rfl rfl rfl rfl h4 (Nat.le_of_ble_eq_true rfl) (ca_38 w a0 i6 i1) fun v5 h6 => ?_
      show sm _ _ _ _ 22 [(0, .ref a0), (1, .int i1), (2, .long j2), (4, .long j4), (6, .int i6)] [.int (cm_b v5)] _ _
      refine sm_if (pc1 := 56) (lv1 := [(0, .ref a0), (1, .int i1), (2, .long j2), (4, .long j4), (6, .int i6)]) (pc2 := 25) (lv2 := [(0, .ref a0), (1, .int i1), (2, .long j2), (4, .long j4), (6, .int i6)]) (st1 := []) rfl rfl rfl (fun h7 => ?_) (fun h7 => ?_)
      · exact jt_39_56 w (fn_39_8 w n) ih a0 i1 j2 j4 i6
      · refine sm_seg 2 27 [(0, .ref a0), (1, .int i1), (2, .long j2), (4, .long j4), (6, .int i6)] [.ref a0, .long j2] rfl ?_
        refine sm_gR rfl h4 rfl rfl fun r8 h9 => ?_
        show sm _ _ _ _ 30 [(0, .ref a0), (1, .int i1), (2, .long j2), (4, .long j4), (6, .int i6)] [.ref r8, .long j2] _ _
        refine sm_seg 1 32 [(0, .ref a0), (1, .int i1), (2, .long j2), (4, .long j4), (6, .int i6)] [.int i6, .ref r8, .long j2] rfl ?_
        refine sm_gd fun h10 => ?_
        refine sm_al rfl h10 rfl ?_
        show sm _ _ _ _ 33 [(0, .ref a0), (1, .int i1), (2, .long j2), (4, .long j4), (6, .int i6)] [.long (cm_L w r8 i6.toNatClampNeg), .long j2] _ _
        refine sm_seg 4 38 [(2, .long (j2 + (cm_L w r8 i6.toNatClampNeg))), (0, .ref a0), (1, .int i1), (4, .long j4), (6, .int i6)] [.ref a0, .long j4] rfl ?_
        refine sm_gR rfl h4 rfl rfl fun r11 h12 => ?_
        show sm _ _ _ _ 41 [(2, .long (j2 + (cm_L w r8 i6.toNatClampNeg))), (0, .ref a0), (1, .int i1), (4, .long j4), (6, .int i6)] [.ref r11, .long j4] _ _
        refine sm_seg 1 43 [(2, .long (j2 + (cm_L w r8 i6.toNatClampNeg))), (0, .ref a0), (1, .int i1), (4, .long j4), (6, .int i6)] [.int i6, .ref r11, .long j4] rfl ?_
        refine sm_gd fun h13 => ?_
        refine sm_al rfl h13 rfl ?_
        show sm _ _ _ _ 44 [(2, .long (j2 + (cm_L w r8 i6.toNatClampNeg))), (0, .ref a0), (1, .int i1), (4, .long j4), (6, .int i6)] [.long (cm_L w r11 i6.toNatClampNeg), .long j4] _ _
        refine sm_seg 1 45 [(2, .long (j2 + (cm_L w r8 i6.toNatClampNeg))), (0, .ref a0), (1, .int i1), (4, .long j4), (6, .int i6)] [.ref a0, .long (cm_L w r11 i6.toNatClampNeg), .long j4] rfl ?_
        refine sm_gR rfl h4 rfl rfl fun r14 h15 => ?_
        show sm _ _ _ _ 48 [(2, .long (j2 + (cm_L w r8 i6.toNatClampNeg))), (0, .ref a0), (1, .int i1), (4, .long j4), (6, .int i6)] [.ref r14, .long (cm_L w r11 i6.toNatClampNeg), .long j4] _ _
        refine sm_seg 1 50 [(2, .long (j2 + (cm_L w r8 i6.toNatClampNeg))), (0, .ref a0), (1, .int i1), (4, .long j4), (6, .int i6)] [.int i6, .ref r14, .long (cm_L w r11 i6.toNatClampNeg), .long j4] rfl ?_
        refine sm_gd fun h16 => ?_
        refine sm_ai rfl h16 rfl ?_
        show sm _ _ _ _ 51 [(2, .long (j2 + (cm_L w r8 i6.toNatClampNeg))), (0, .ref a0), (1, .int i1), (4, .long j4), (6, .int i6)] [.int (cm_I w r14 i6.toNatClampNeg), .long (cm_L w r11 i6.toNatClampNeg), .long j4] _ _
        refine sm_seg 4 56 [(0, .ref a0), (1, .int i1), (2, .long (j2 + (cm_L w r8 i6.toNatClampNeg))), (4, .long (j4 + ((cm_L w r11 i6.toNatClampNeg) * (Int32.toInt64 (cm_I w r14 i6.toNatClampNeg))))), (6, .int i6)] [] rfl ?_
        exact jt_39_56 w (fn_39_8 w n) ih a0 i1 (j2 + (cm_L w r8 i6.toNatClampNeg)) (j4 + ((cm_L w r11 i6.toNatClampNeg) * (Int32.toInt64 (cm_I w r14 i6.toNatClampNeg)))) i6
def fn_39 (w : cm_W) (a0 : Nat) (i1 : Int32) : Option Int32 := fn_39_8 w cm_N a0 i1 (0 : Int64) (0 : Int64) (0 : Int32)
theorem jt_39_0 (w : cm_W) (a0 : Nat) (i1 : Int32) : sm cm_g 39 ck_39 kq_39 0 [(0, .ref a0), (1, .int i1)] [] w ((fn_39 w a0 i1).map (cm_fI w)) := by
  unfold fn_39
  refine sm_seg 6 8 [(0, .ref a0), (1, .int i1), (2, .long (0 : Int64)), (4, .long (0 : Int64)), (6, .int (0 : Int32))] [] rfl ?_
  exact jt_39_8 w cm_N a0 i1 (0 : Int64) (0 : Int64) (0 : Int32)
theorem ca_39 (w : cm_W) (a0 : Nat) (i1 : Int32) : cm_ca cm_g 39 [.ref a0, .int i1] w ((fn_39 w a0 i1).map (cm_fI w)) := cm_ca_of (cm_me_of rfl rfl) rfl (jt_39_0 w a0 i1)
-- NailedBoxes$Market.restPrice()I
def fn_40_52 (w : cm_W) (k_4 : Nat → Int32 → Int32 → Option Int32) (a0 : Nat) (i1 : Int32) (i2 : Int32) : Option Int32 := k_4 a0 i1 (i2 + (1 : Int32))
theorem jt_40_52 (w : cm_W) (k_4 : Nat → Int32 → Int32 → Option Int32) (hk_4 : ∀ (a0 : Nat) (i1 : Int32) (i2 : Int32), sm cm_g 40 ck_40 kq_40 4 [(0, .ref a0), (1, .int i1), (2, .int i2)] [] w ((k_4 a0 i1 i2).map (cm_fI w))) (a0 : Nat) (i1 : Int32) (i2 : Int32) : sm cm_g 40 ck_40 kq_40 52 [(0, .ref a0), (1, .int i1), (2, .int i2)] [] w ((fn_40_52 w k_4 a0 i1 i2).map (cm_fI w)) := by
  unfold fn_40_52
  refine sm_seg 2 4 [(0, .ref a0), (1, .int i1), (2, .int (i2 + (1 : Int32)))] [] rfl ?_
  exact hk_4 a0 i1 (i2 + (1 : Int32))
def fn_40_50 (w : cm_W) (k_4 : Nat → Int32 → Int32 → Option Int32) (a0 : Nat) (i1 : Int32) (i2 : Int32) : Option Int32 := fn_40_52 w k_4 a0 i1 i2
theorem jt_40_50 (w : cm_W) (k_4 : Nat → Int32 → Int32 → Option Int32) (hk_4 : ∀ (a0 : Nat) (i1 : Int32) (i2 : Int32), sm cm_g 40 ck_40 kq_40 4 [(0, .ref a0), (1, .int i1), (2, .int i2)] [] w ((k_4 a0 i1 i2).map (cm_fI w))) (a0 : Nat) (i1 : Int32) (i2 : Int32) : sm cm_g 40 ck_40 kq_40 50 [(0, .ref a0), (1, .int i1), (2, .int i2)] [] w ((fn_40_50 w k_4 a0 i1 i2).map (cm_fI w)) := by
  unfold fn_40_50
  refine sm_seg 2 52 [(0, .ref a0), (1, .int i1), (2, .int i2)] [] rfl ?_
  exact jt_40_52 w k_4 hk_4 a0 i1 i2
def fn_40_4 (w : cm_W) : Nat → Nat → Int32 → Int32 → Option Int32
  | 0, _, _, _ => none
  | n + 1, a0, i1, i2 => (if (8 : Int32) ≤ i2 then some i1 else (if cm_sh w a0 = some (.inl 3) then (cm_R w a0 0).bind fun r3 => (if cm_ga w .long r3 i2 = true then (if (lg_cmp (cm_L w r3 i2.toNatClampNeg) (0 : Int64)) ≤ 0 then fn_40_52 w (fn_40_4 w n) a0 i1 i2 else (cm_R w a0 2).bind fun r7 => (if cm_ga w .int r7 i2 = true then (fn_39 w a0 (cm_I w r7 i2.toNatClampNeg)).bind fun v10 => (cm_R w a0 2).bind fun r12 => (if cm_ga w .int r12 i2 = true then (if v10 < (cm_I w r12 i2.toNatClampNeg) then fn_40_50 w (fn_40_4 w n) a0 i1 i2 else fn_40_52 w (fn_40_4 w n) a0 (if i1 < v10 then v10 else i1) i2) else none) else none)) else none) else none))
theorem jt_40_4 (w : cm_W) : ∀ (n : Nat) (a0 : Nat) (i1 : Int32) (i2 : Int32), sm cm_g 40 ck_40 kq_40 4 [(0, .ref a0), (1, .int i1), (2, .int i2)] [] w ((fn_40_4 w n a0 i1 i2).map (cm_fI w)) := by
  intro n
  induction n with
  | zero => intro a0 i1 i2; exact sm_no
  | succ n ih =>
    intro a0 i1 i2
    rw [fn_40_4]
    refine sm_seg 2 7 [(0, .ref a0), (1, .int i1), (2, .int i2)] [.int (8 : Int32), .int i2] rfl ?_
    refine sm_if (pc1 := 58) (lv1 := [(1, .int i1)]) (pc2 := 10) (lv2 := [(0, .ref a0), (1, .int i1), (2, .int i2)]) (st1 := []) rfl rfl rfl (fun h1 => ?_) (fun h1 => ?_)
    · refine sm_seg 1 59 [(1, .int i1)] [.int i1] rfl ?_
      exact sm_rI rfl rfl
    · refine sm_seg 1 11 [(0, .ref a0), (1, .int i1), (2, .int i2)] [.ref a0] rfl ?_
      refine sm_gd fun h2 => ?_
      refine sm_gR rfl h2 rfl rfl fun r3 h4 => ?_
      show sm _ _ _ _ 14 [(0, .ref a0), (1, .int i1), (2, .int i2)] [.ref r3] _ _
      refine sm_seg 1 15 [(0, .ref a0), (1, .int i1), (2, .int i2)] [.int i2, .ref r3] rfl ?_
      refine sm_gd fun h5 => ?_
      refine sm_al rfl h5 rfl ?_
      show sm _ _ _ _ 16 [(0, .ref a0), (1, .int i1), (2, .int i2)] [.long (cm_L w r3 i2.toNatClampNeg)] _ _
      refine sm_seg 2 18 [(0, .ref a0), (1, .int i1), (2, .int i2)] [.int (lg_cmp (cm_L w r3 i2.toNatClampNeg) (0 : Int64))] rfl ?_
      refine sm_if (pc1 := 52) (lv1 := [(0, .ref a0), (1, .int i1), (2, .int i2)]) (pc2 := 21) (lv2 := [(0, .ref a0), (1, .int i1), (2, .int i2)]) (st1 := []) rfl rfl rfl (fun h6 => ?_) (fun h6 => ?_)
      · exact jt_40_52 w (fn_40_4 w n) ih a0 i1 i2
      · refine sm_seg 2 23 [(0, .ref a0), (1, .int i1), (2, .int i2)] [.ref a0, .ref a0] rfl ?_
        refine sm_gR rfl h2 rfl rfl fun r7 h8 => ?_
        show sm _ _ _ _ 26 [(0, .ref a0), (1, .int i1), (2, .int i2)] [.ref r7, .ref a0] _ _
        refine sm_seg 1 27 [(0, .ref a0), (1, .int i1), (2, .int i2)] [.int i2, .ref r7, .ref a0] rfl ?_
        refine sm_gd fun h9 => ?_
        refine sm_ai rfl h9 rfl ?_
        show sm _ _ _ _ 28 [(0, .ref a0), (1, .int i1), (2, .int i2)] [.int (cm_I w r7 i2.toNatClampNeg), .ref a0] _ _
        refine sm_cV (as := [.int (cm_I w r7 i2.toNatClampNeg)]) (rest := []) rfl rfl rfl rfl h2 (Nat.le_of_ble_eq_true rfl) (ca_39 w a0 (cm_I w r7 i2.toNatClampNeg)) fun v10 h11 => ?_
        show sm _ _ _ _ 31 [(0, .ref a0), (1, .int i1), (2, .int i2)] [.int v10] _ _
        refine sm_seg 3 34 [(3, .int v10), (0, .ref a0), (1, .int i1), (2, .int i2)] [.ref a0, .int v10] rfl ?_
        refine sm_gR rfl h2 rfl rfl fun r12 h13 => ?_
        show sm _ _ _ _ 37 [(3, .int v10), (0, .ref a0), (1, .int i1), (2, .int i2)] [.ref r12, .int v10] _ _
        refine sm_seg 1 38 [(3, .int v10), (0, .ref a0), (1, .int i1), (2, .int i2)] [.int i2, .ref r12, .int v10] rfl ?_
        refine sm_gd fun h14 => ?_
        refine sm_ai rfl h14 rfl ?_
        show sm _ _ _ _ 39 [(3, .int v10), (0, .ref a0), (1, .int i1), (2, .int i2)] [.int (cm_I w r12 i2.toNatClampNeg), .int v10] _ _
        refine sm_if (pc1 := 50) (lv1 := [(0, .ref a0), (1, .int i1), (2, .int i2)]) (pc2 := 42) (lv2 := [(3, .int v10), (0, .ref a0), (1, .int i1), (2, .int i2)]) (st1 := []) rfl rfl rfl (fun h15 => ?_) (fun h15 => ?_)
        · exact jt_40_50 w (fn_40_4 w n) ih a0 i1 i2
        · refine sm_seg 2 44 [(3, .int v10), (0, .ref a0), (1, .int i1), (2, .int i2)] [.int v10, .int i1] rfl ?_
          refine sm_at rfl rfl rfl ?_
          show sm _ _ _ _ 47 [(3, .int v10), (0, .ref a0), (1, .int i1), (2, .int i2)] [.int (if i1 < v10 then v10 else i1)] _ _
          refine sm_seg 2 52 [(0, .ref a0), (1, .int (if i1 < v10 then v10 else i1)), (2, .int i2)] [] rfl ?_
          exact jt_40_52 w (fn_40_4 w n) ih a0 (if i1 < v10 then v10 else i1) i2
def fn_40 (w : cm_W) (a0 : Nat) : Option Int32 := fn_40_4 w cm_N a0 (-1 : Int32) (0 : Int32)
theorem jt_40_0 (w : cm_W) (a0 : Nat) : sm cm_g 40 ck_40 kq_40 0 [(0, .ref a0)] [] w ((fn_40 w a0).map (cm_fI w)) := by
  unfold fn_40
  refine sm_seg 4 4 [(0, .ref a0), (1, .int (-1 : Int32)), (2, .int (0 : Int32))] [] rfl ?_
  exact jt_40_4 w cm_N a0 (-1 : Int32) (0 : Int32)
theorem ca_40 (w : cm_W) (a0 : Nat) : cm_ca cm_g 40 [.ref a0] w ((fn_40 w a0).map (cm_fI w)) := cm_ca_of (cm_me_of rfl rfl) rfl (jt_40_0 w a0)
-- NailedBoxes$Market.soldAt(I)I
def fn_41_4 (w : cm_W) : Nat → Nat → Int32 → Int32 → Int32 → Option Int32
  | 0, _, _, _, _ => none
  | n + 1, a0, i1, i2, i3 => (if (8 : Int32) ≤ i3 then some i2 else (if cm_sh w a0 = some (.inl 3) then (fn_38 w a0 i3 i1).bind fun v3 => (if (cm_b v3) = 0 then fn_41_4 w n a0 i1 (i2 ||| (0 : Int32)) (i3 + (1 : Int32)) else fn_41_4 w n a0 i1 (i2 ||| ((1 : Int32) <<< (i3 &&& 31))) (i3 + (1 : Int32))) else none))
theorem jt_41_4 (w : cm_W) : ∀ (n : Nat) (a0 : Nat) (i1 : Int32) (i2 : Int32) (i3 : Int32), sm cm_g 41 ck_41 kq_41 4 [(0, .ref a0), (1, .int i1), (2, .int i2), (3, .int i3)] [] w ((fn_41_4 w n a0 i1 i2 i3).map (cm_fI w)) := by
  intro n
  induction n with
  | zero => intro a0 i1 i2 i3; exact sm_no
  | succ n ih =>
    intro a0 i1 i2 i3
    rw [fn_41_4]
    refine sm_seg 2 7 [(0, .ref a0), (1, .int i1), (2, .int i2), (3, .int i3)] [.int (8 : Int32), .int i3] rfl ?_
    refine sm_if (pc1 := 35) (lv1 := [(2, .int i2)]) (pc2 := 10) (lv2 := [(0, .ref a0), (1, .int i1), (2, .int i2), (3, .int i3)]) (st1 := []) rfl rfl rfl (fun h1 => ?_) (fun h1 => ?_)
    · refine sm_seg 1 36 [(2, .int i2)] [.int i2] rfl ?_
      exact sm_rI rfl rfl
    · refine sm_seg 4 14 [(0, .ref a0), (1, .int i1), (2, .int i2), (3, .int i3)] [.int i1, .int i3, .ref a0, .int i2] rfl ?_
      refine sm_gd fun h2 => ?_
      refine sm_cV (as := [.int i3, .int i1]) (rest := [.int i2]) rfl rfl rfl rfl h2 (Nat.le_of_ble_eq_true rfl) (ca_38 w a0 i3 i1) fun v3 h4 => ?_
      show sm _ _ _ _ 17 [(0, .ref a0), (1, .int i1), (2, .int i2), (3, .int i3)] [.int (cm_b v3), .int i2] _ _
      refine sm_if (pc1 := 26) (lv1 := [(0, .ref a0), (1, .int i1), (3, .int i3)]) (pc2 := 20) (lv2 := [(0, .ref a0), (1, .int i1), (2, .int i2), (3, .int i3)]) (st1 := [.int i2]) rfl rfl rfl (fun h5 => ?_) (fun h5 => ?_)
      · refine sm_seg 5 4 [(0, .ref a0), (1, .int i1), (2, .int (i2 ||| (0 : Int32))), (3, .int (i3 + (1 : Int32)))] [] rfl ?_
        exact ih a0 i1 (i2 ||| (0 : Int32)) (i3 + (1 : Int32))
      · refine sm_seg 8 4 [(0, .ref a0), (1, .int i1), (2, .int (i2 ||| ((1 : Int32) <<< (i3 &&& 31)))), (3, .int (i3 + (1 : Int32)))] [] rfl ?_
        exact ih a0 i1 (i2 ||| ((1 : Int32) <<< (i3 &&& 31))) (i3 + (1 : Int32))
def fn_41 (w : cm_W) (a0 : Nat) (i1 : Int32) : Option Int32 := fn_41_4 w cm_N a0 i1 (0 : Int32) (0 : Int32)
theorem jt_41_0 (w : cm_W) (a0 : Nat) (i1 : Int32) : sm cm_g 41 ck_41 kq_41 0 [(0, .ref a0), (1, .int i1)] [] w ((fn_41 w a0 i1).map (cm_fI w)) := by
  unfold fn_41
  refine sm_seg 4 4 [(0, .ref a0), (1, .int i1), (2, .int (0 : Int32)), (3, .int (0 : Int32))] [] rfl ?_
  exact jt_41_4 w cm_N a0 i1 (0 : Int32) (0 : Int32)
theorem ca_41 (w : cm_W) (a0 : Nat) (i1 : Int32) : cm_ca cm_g 41 [.ref a0, .int i1] w ((fn_41 w a0 i1).map (cm_fI w)) := cm_ca_of (cm_me_of rfl rfl) rfl (jt_41_0 w a0 i1)
-- NailedBoxes$Market.priceByName(LNailedBoxes$Village;II)I
def fn_42 (a0 : Nat) (a1 : Nat) (i2 : Int32) (i3 : Int32) (w : cm_W) : Option (Int32 × cm_W) := (if cm_sh w a0 = some (.inl 3) then (fn_32 a0 a1 i3 w).bind fun w2 => (if cm_sh w2 a0 = some (.inl 3) then (fn_36 a0 a1 (1 : Int32) i2 (-1 : Int32) w2).bind fun w5 => (if cm_sh w5 a0 = some (.inl 3) then (fn_40 w5 a0).bind fun v8 => some (v8, w5) else none) else none) else none)
theorem jt_42_0 (a0 : Nat) (a1 : Nat) (i2 : Int32) (i3 : Int32) (w : cm_W) : sm cm_g 42 ck_42 kq_42 0 [(0, .ref a0), (1, .ref a1), (2, .int i2), (3, .int i3)] [] w ((fn_42 a0 a1 i2 i3 w).map cm_gI) := by
  unfold fn_42
  refine sm_seg 3 3 [(0, .ref a0), (1, .ref a1), (2, .int i2), (3, .int i3)] [.int i3, .ref a1, .ref a0] rfl ?_
  refine sm_gd fun h1 => ?_
  refine sm_cV (as := [.ref a1, .int i3]) (rest := []) rfl rfl rfl rfl h1 (Nat.le_of_ble_eq_true rfl) (ca_32  a0 a1 i3 w) fun w2 h3 => ?_
  show sm _ _ _ _ 6 [(0, .ref a0), (1, .ref a1), (2, .int i2), (3, .int i3)] [] _ _
  refine sm_seg 5 11 [(0, .ref a0), (1, .ref a1), (2, .int i2), (3, .int i3)] [.int (-1 : Int32), .int i2, .int (1 : Int32), .ref a1, .ref a0] rfl ?_
  refine sm_gd fun h4 => ?_
  refine sm_cV (as := [.ref a1, .int (1 : Int32), .int i2, .int (-1 : Int32)]) (rest := []) rfl rfl rfl rfl h4 (Nat.le_of_ble_eq_true rfl) (ca_36  a0 a1 (1 : Int32) i2 (-1 : Int32) w2) fun w5 h6 => ?_
  show sm _ _ _ _ 14 [(0, .ref a0), (1, .ref a1), (2, .int i2), (3, .int i3)] [] _ _
  refine sm_seg 1 15 [(0, .ref a0), (1, .ref a1), (2, .int i2), (3, .int i3)] [.ref a0] rfl ?_
  refine sm_gd fun h7 => ?_
  refine sm_cV (as := []) (rest := []) rfl rfl rfl rfl h7 (Nat.le_of_ble_eq_true rfl) (ca_40 w5 a0) fun v8 h9 => ?_
  show sm _ _ _ _ 18 [(0, .ref a0), (1, .ref a1), (2, .int i2), (3, .int i3)] [.int v8] _ _
  exact sm_rIW rfl rfl
theorem ca_42 (a0 : Nat) (a1 : Nat) (i2 : Int32) (i3 : Int32) (w : cm_W) : cm_ca cm_g 42 [.ref a0, .ref a1, .int i2, .int i3] w ((fn_42 a0 a1 i2 i3 w).map cm_gI) := cm_ca_of (cm_me_of rfl rfl) rfl (jt_42_0 a0 a1 i2 i3 w)
-- NailedBoxes$Market.priceSealed(LNailedBoxes$Village;I)I
def fn_43 (a0 : Nat) (a1 : Nat) (i2 : Int32) (w : cm_W) : Option (Int32 × cm_W) := (if cm_sh w a0 = some (.inl 3) then (fn_32 a0 a1 i2 w).bind fun w2 => (if cm_sh w2 a0 = some (.inl 3) then (fn_36 a0 a1 (0 : Int32) (-1 : Int32) (-1 : Int32) w2).bind fun w5 => (if cm_sh w5 a0 = some (.inl 3) then (fn_40 w5 a0).bind fun v8 => some (v8, w5) else none) else none) else none)
theorem jt_43_0 (a0 : Nat) (a1 : Nat) (i2 : Int32) (w : cm_W) : sm cm_g 43 ck_43 kq_43 0 [(0, .ref a0), (1, .ref a1), (2, .int i2)] [] w ((fn_43 a0 a1 i2 w).map cm_gI) := by
  unfold fn_43
  refine sm_seg 3 3 [(0, .ref a0), (1, .ref a1), (2, .int i2)] [.int i2, .ref a1, .ref a0] rfl ?_
  refine sm_gd fun h1 => ?_
  refine sm_cV (as := [.ref a1, .int i2]) (rest := []) rfl rfl rfl rfl h1 (Nat.le_of_ble_eq_true rfl) (ca_32  a0 a1 i2 w) fun w2 h3 => ?_
  show sm _ _ _ _ 6 [(0, .ref a0), (1, .ref a1), (2, .int i2)] [] _ _
  refine sm_seg 5 11 [(0, .ref a0), (1, .ref a1), (2, .int i2)] [.int (-1 : Int32), .int (-1 : Int32), .int (0 : Int32), .ref a1, .ref a0] rfl ?_
  refine sm_gd fun h4 => ?_
  refine sm_cV (as := [.ref a1, .int (0 : Int32), .int (-1 : Int32), .int (-1 : Int32)]) (rest := []) rfl rfl rfl rfl h4 (Nat.le_of_ble_eq_true rfl) (ca_36  a0 a1 (0 : Int32) (-1 : Int32) (-1 : Int32) w2) fun w5 h6 => ?_
  show sm _ _ _ _ 14 [(0, .ref a0), (1, .ref a1), (2, .int i2)] [] _ _
  refine sm_seg 1 15 [(0, .ref a0), (1, .ref a1), (2, .int i2)] [.ref a0] rfl ?_
  refine sm_gd fun h7 => ?_
  refine sm_cV (as := []) (rest := []) rfl rfl rfl rfl h7 (Nat.le_of_ble_eq_true rfl) (ca_40 w5 a0) fun v8 h9 => ?_
  show sm _ _ _ _ 18 [(0, .ref a0), (1, .ref a1), (2, .int i2)] [.int v8] _ _
  exact sm_rIW rfl rfl
theorem ca_43 (a0 : Nat) (a1 : Nat) (i2 : Int32) (w : cm_W) : cm_ca cm_g 43 [.ref a0, .ref a1, .int i2] w ((fn_43 a0 a1 i2 w).map cm_gI) := cm_ca_of (cm_me_of rfl rfl) rfl (jt_43_0 a0 a1 i2 w)
-- NailedBoxes$Market.beginsPool(LNailedBoxes$Village;II)Z
def fn_44_48 (w : cm_W) (k_30 : Nat → Int32 → Int32 → Int32 → Option Bool) (a0 : Nat) (i1 : Int32) (i2 : Int32) (i3 : Int32) : Option Bool := k_30 a0 i1 i2 (i3 + (1 : Int32))
theorem jt_44_48 (w : cm_W) (k_30 : Nat → Int32 → Int32 → Int32 → Option Bool) (hk_30 : ∀ (a0 : Nat) (i1 : Int32) (i2 : Int32) (i3 : Int32), sm cm_g 44 ck_44 kq_44 30 [(0, .ref a0), (1, .int i1), (2, .int i2), (3, .int i3)] [] w ((k_30 a0 i1 i2 i3).map (cm_fB w))) (a0 : Nat) (i1 : Int32) (i2 : Int32) (i3 : Int32) : sm cm_g 44 ck_44 kq_44 48 [(0, .ref a0), (1, .int i1), (2, .int i2), (3, .int i3)] [] w ((fn_44_48 w k_30 a0 i1 i2 i3).map (cm_fB w)) := by
  unfold fn_44_48
  refine sm_seg 2 30 [(0, .ref a0), (1, .int i1), (2, .int i2), (3, .int (i3 + (1 : Int32)))] [] rfl ?_
  exact hk_30 a0 i1 i2 (i3 + (1 : Int32))
def fn_44_54 (w : cm_W) (a0 : Nat) (i2 : Int32) : Option Bool := (if cm_sh w a0 = some (.inl 9) then (cm_R w a0 1).bind fun r2 => (if cm_sh w r2 = some (.inl 7) then (fn_7 w r2 i2).bind fun v5 => some v5 else none) else none)
theorem jt_44_54 (w : cm_W) (a0 : Nat) (i2 : Int32) : sm cm_g 44 ck_44 kq_44 54 [(0, .ref a0), (2, .int i2)] [] w ((fn_44_54 w a0 i2).map (cm_fB w)) := by
  unfold fn_44_54
  refine sm_seg 1 55 [(0, .ref a0), (2, .int i2)] [.ref a0] rfl ?_
  refine sm_gd fun h1 => ?_
  refine sm_gR rfl h1 rfl rfl fun r2 h3 => ?_
  show sm _ _ _ _ 58 [(0, .ref a0), (2, .int i2)] [.ref r2] _ _
  refine sm_seg 1 59 [(0, .ref a0), (2, .int i2)] [.int i2, .ref r2] rfl ?_
  refine sm_gd fun h4 => ?_
  refine sm_cV (as := [.int i2]) (rest := []) rfl rfl rfl rfl h4 (Nat.le_of_ble_eq_true rfl) (ca_7 w r2 i2) fun v5 h6 => ?_
  show sm _ _ _ _ 62 [(0, .ref a0), (2, .int i2)] [.int (cm_b v5)] _ _
  exact sm_rB (b := v5) rfl rfl
def fn_44_30 (w : cm_W) : Nat → Nat → Int32 → Int32 → Int32 → Option Bool
  | 0, _, _, _, _ => none
  | n + 1, a0, i1, i2, i3 => (if i2 ≤ i3 then fn_44_54 w a0 i2 else (fn_34 w a0 i1 (0 : Int32) i3 i2).bind fun v8 => (if (cm_b v8) = 0 then fn_44_48 w (fn_44_30 w n) a0 i1 i2 i3 else some false))
theorem jt_44_30 (w : cm_W) : ∀ (n : Nat) (a0 : Nat) (i1 : Int32) (i2 : Int32) (i3 : Int32), sm cm_g 44 ck_44 kq_44 30 [(0, .ref a0), (1, .int i1), (2, .int i2), (3, .int i3)] [] w ((fn_44_30 w n a0 i1 i2 i3).map (cm_fB w)) := by
  intro n
  induction n with
  | zero => intro a0 i1 i2 i3; exact sm_no
  | succ n ih =>
    intro a0 i1 i2 i3
    rw [fn_44_30]
    refine sm_seg 2 32 [(0, .ref a0), (1, .int i1), (2, .int i2), (3, .int i3)] [.int i2, .int i3] rfl ?_
    refine sm_if (pc1 := 54) (lv1 := [(0, .ref a0), (2, .int i2)]) (pc2 := 35) (lv2 := [(0, .ref a0), (1, .int i1), (2, .int i2), (3, .int i3)]) (st1 := []) rfl rfl rfl (fun h7 => ?_) (fun h7 => ?_)
    · exact jt_44_54 w a0 i2
    · refine sm_seg 5 40 [(0, .ref a0), (1, .int i1), (2, .int i2), (3, .int i3)] [.int i2, .int i3, .int (0 : Int32), .int i1, .ref a0] rfl ?_
      refine sm_cS (av := [.ref a0, .int i1, .int (0 : Int32), .int i3, .int i2]) (rest := []) rfl rfl rfl rfl (Nat.le_of_ble_eq_true rfl) (ca_34 w a0 i1 (0 : Int32) i3 i2) fun v8 h9 => ?_
      show sm _ _ _ _ 43 [(0, .ref a0), (1, .int i1), (2, .int i2), (3, .int i3)] [.int (cm_b v8)] _ _
      refine sm_if (pc1 := 48) (lv1 := [(0, .ref a0), (1, .int i1), (2, .int i2), (3, .int i3)]) (pc2 := 46) (lv2 := [(0, .ref a0), (1, .int i1), (2, .int i2), (3, .int i3)]) (st1 := []) rfl rfl rfl (fun h10 => ?_) (fun h10 => ?_)
      · exact jt_44_48 w (fn_44_30 w n) ih a0 i1 i2 i3
      · refine sm_seg 1 47 [(0, .ref a0), (1, .int i1), (2, .int i2), (3, .int i3)] [.int (0 : Int32)] rfl ?_
        exact sm_rB (b := false) rfl rfl
def fn_44_28 (w : cm_W) (a0 : Nat) (i1 : Int32) (i2 : Int32) : Option Bool := fn_44_30 w cm_N a0 i1 i2 (0 : Int32)
theorem jt_44_28 (w : cm_W) (a0 : Nat) (i1 : Int32) (i2 : Int32) : sm cm_g 44 ck_44 kq_44 28 [(0, .ref a0), (1, .int i1), (2, .int i2)] [] w ((fn_44_28 w a0 i1 i2).map (cm_fB w)) := by
  unfold fn_44_28
  refine sm_seg 2 30 [(0, .ref a0), (1, .int i1), (2, .int i2), (3, .int (0 : Int32))] [] rfl ?_
  exact jt_44_30 w cm_N a0 i1 i2 (0 : Int32)
def fn_44_14 (w : cm_W) (a0 : Nat) (i1 : Int32) (i2 : Int32) : Option Bool := (if ¬ i1 = (1 : Int32) then fn_44_28 w a0 i1 i2 else (if cm_sh w a0 = some (.inl 9) then (cm_R w a0 3).bind fun r13 => (if cm_sh w r13 = some (.inl 7) then (fn_7 w r13 i2).bind fun v16 => some v16 else none) else none))
theorem jt_44_14 (w : cm_W) (a0 : Nat) (i1 : Int32) (i2 : Int32) : sm cm_g 44 ck_44 kq_44 14 [(0, .ref a0), (1, .int i1), (2, .int i2)] [] w ((fn_44_14 w a0 i1 i2).map (cm_fB w)) := by
  unfold fn_44_14
  refine sm_seg 2 16 [(0, .ref a0), (1, .int i1), (2, .int i2)] [.int (1 : Int32), .int i1] rfl ?_
  refine sm_if (pc1 := 28) (lv1 := [(0, .ref a0), (1, .int i1), (2, .int i2)]) (pc2 := 19) (lv2 := [(0, .ref a0), (1, .int i1), (2, .int i2)]) (st1 := []) rfl rfl rfl (fun h11 => ?_) (fun h11 => ?_)
  · exact jt_44_28 w a0 i1 i2
  · refine sm_seg 1 20 [(0, .ref a0), (1, .int i1), (2, .int i2)] [.ref a0] rfl ?_
    refine sm_gd fun h12 => ?_
    refine sm_gR rfl h12 rfl rfl fun r13 h14 => ?_
    show sm _ _ _ _ 23 [(0, .ref a0), (1, .int i1), (2, .int i2)] [.ref r13] _ _
    refine sm_seg 1 24 [(0, .ref a0), (1, .int i1), (2, .int i2)] [.int i2, .ref r13] rfl ?_
    refine sm_gd fun h15 => ?_
    refine sm_cV (as := [.int i2]) (rest := []) rfl rfl rfl rfl h15 (Nat.le_of_ble_eq_true rfl) (ca_7 w r13 i2) fun v16 h17 => ?_
    show sm _ _ _ _ 27 [(0, .ref a0), (1, .int i1), (2, .int i2)] [.int (cm_b v16)] _ _
    exact sm_rB (b := v16) rfl rfl
def fn_44 (w : cm_W) (a0 : Nat) (i1 : Int32) (i2 : Int32) : Option Bool := (if ¬ i1 = 0 then fn_44_14 w a0 i1 i2 else (if ¬ i2 = 0 then some false else some true))
theorem jt_44_0 (w : cm_W) (a0 : Nat) (i1 : Int32) (i2 : Int32) : sm cm_g 44 ck_44 kq_44 0 [(0, .ref a0), (1, .int i1), (2, .int i2)] [] w ((fn_44 w a0 i1 i2).map (cm_fB w)) := by
  unfold fn_44
  refine sm_seg 1 1 [(0, .ref a0), (1, .int i1), (2, .int i2)] [.int i1] rfl ?_
  refine sm_if (pc1 := 14) (lv1 := [(0, .ref a0), (1, .int i1), (2, .int i2)]) (pc2 := 4) (lv2 := [(0, .ref a0), (1, .int i1), (2, .int i2)]) (st1 := []) rfl rfl rfl (fun h18 => ?_) (fun h18 => ?_)
  · exact jt_44_14 w a0 i1 i2
  · refine sm_seg 1 5 [(0, .ref a0), (1, .int i1), (2, .int i2)] [.int i2] rfl ?_
    refine sm_if (pc1 := 12) (lv1 := []) (pc2 := 8) (lv2 := [(0, .ref a0), (1, .int i1), (2, .int i2)]) (st1 := []) rfl rfl rfl (fun h19 => ?_) (fun h19 => ?_)
    · refine sm_seg 1 13 [] [.int (0 : Int32)] rfl ?_
      exact sm_rB (b := false) rfl rfl
    · refine sm_seg 2 13 [] [.int (1 : Int32)] rfl ?_
      exact sm_rB (b := true) rfl rfl
theorem ca_44 (w : cm_W) (a0 : Nat) (i1 : Int32) (i2 : Int32) : cm_ca cm_g 44 [.ref a0, .int i1, .int i2] w ((fn_44 w a0 i1 i2).map (cm_fB w)) := cm_ca_of (cm_me_of rfl rfl) rfl (jt_44_0 w a0 i1 i2)
-- NailedBoxes$Market.lostOfPool()J
def fn_45_10 (w : cm_W) : Nat → Nat → Int32 → Int64 → Int32 → Option Int64
  | 0, _, _, _, _ => none
  | n + 1, a0, i1, j2, i4 => (if (8 : Int32) ≤ i4 then some j2 else (if cm_sh w a0 = some (.inl 3) then (fn_38 w a0 i4 i1).bind fun v3 => (if (cm_b v3) = 0 then (cm_R w a0 0).bind fun r6 => (if cm_ga w .long r6 i4 = true then (cm_R w a0 1).bind fun r9 => (if cm_ga w .int r9 i4 = true then (cm_R w a0 2).bind fun r12 => (if cm_ga w .int r12 i4 = true then fn_45_10 w n a0 i1 (j2 + ((cm_L w r6 i4.toNatClampNeg) * (Int32.toInt64 ((cm_I w r9 i4.toNatClampNeg) - (cm_I w r12 i4.toNatClampNeg))))) (i4 + (1 : Int32)) else none) else none) else none) else fn_45_10 w n a0 i1 (j2 + (0 : Int64)) (i4 + (1 : Int32))) else none))
theorem jt_45_10 (w : cm_W) : ∀ (n : Nat) (a0 : Nat) (i1 : Int32) (j2 : Int64) (i4 : Int32), sm cm_g 45 ck_45 kq_45 10 [(0, .ref a0), (1, .int i1), (2, .long j2), (4, .int i4)] [] w ((fn_45_10 w n a0 i1 j2 i4).map (cm_fL w)) := by
  intro n
  induction n with
  | zero => intro a0 i1 j2 i4; exact sm_no
  | succ n ih =>
    intro a0 i1 j2 i4
    rw [fn_45_10]
    refine sm_seg 2 14 [(0, .ref a0), (1, .int i1), (2, .long j2), (4, .int i4)] [.int (8 : Int32), .int i4] rfl ?_
    refine sm_if (pc1 := 64) (lv1 := [(2, .long j2)]) (pc2 := 17) (lv2 := [(0, .ref a0), (1, .int i1), (2, .long j2), (4, .int i4)]) (st1 := []) rfl rfl rfl (fun h1 => ?_) (fun h1 => ?_)
    · refine sm_seg 1 65 [(2, .long j2)] [.long j2] rfl ?_
      exact sm_rL rfl rfl
    · refine sm_seg 4 22 [(0, .ref a0), (1, .int i1), (2, .long j2), (4, .int i4)] [.int i1, .int i4, .ref a0, .long j2] rfl ?_
      refine sm_gd fun h2 => ?_
      refine sm_cV (as := [.int i4, .int i1]) (rest := [.long j2]) rfl rfl rfl rfl h2 (Nat.le_of_ble_eq_true rfl) (ca_38 w a0 i4 i1) fun v3 h4 => ?_
      show sm _ _ _ _ 25 [(0, .ref a0), (1, .int i1), (2, .long j2), (4, .int i4)] [.int (cm_b v3), .long j2] _ _
      refine sm_if (pc1 := 32) (lv1 := [(0, .ref a0), (1, .int i1), (4, .int i4)]) (pc2 := 28) (lv2 := [(0, .ref a0), (1, .int i1), (2, .long j2), (4, .int i4)]) (st1 := [.long j2]) rfl rfl rfl (fun h5 => ?_) (fun h5 => ?_)
      · refine sm_seg 1 33 [(0, .ref a0), (1, .int i1), (4, .int i4)] [.ref a0, .long j2] rfl ?_
        refine sm_gR rfl h2 rfl rfl fun r6 h7 => ?_
        show sm _ _ _ _ 36 [(0, .ref a0), (1, .int i1), (4, .int i4)] [.ref r6, .long j2] _ _
        refine sm_seg 1 38 [(0, .ref a0), (1, .int i1), (4, .int i4)] [.int i4, .ref r6, .long j2] rfl ?_
        refine sm_gd fun h8 => ?_
        refine sm_al rfl h8 rfl ?_
        show sm _ _ _ _ 39 [(0, .ref a0), (1, .int i1), (4, .int i4)] [.long (cm_L w r6 i4.toNatClampNeg), .long j2] _ _
        refine sm_seg 1 40 [(0, .ref a0), (1, .int i1), (4, .int i4)] [.ref a0, .long (cm_L w r6 i4.toNatClampNeg), .long j2] rfl ?_
        refine sm_gR rfl h2 rfl rfl fun r9 h10 => ?_
        show sm _ _ _ _ 43 [(0, .ref a0), (1, .int i1), (4, .int i4)] [.ref r9, .long (cm_L w r6 i4.toNatClampNeg), .long j2] _ _
        refine sm_seg 1 45 [(0, .ref a0), (1, .int i1), (4, .int i4)] [.int i4, .ref r9, .long (cm_L w r6 i4.toNatClampNeg), .long j2] rfl ?_
        refine sm_gd fun h11 => ?_
        refine sm_ai rfl h11 rfl ?_
        show sm _ _ _ _ 46 [(0, .ref a0), (1, .int i1), (4, .int i4)] [.int (cm_I w r9 i4.toNatClampNeg), .long (cm_L w r6 i4.toNatClampNeg), .long j2] _ _
        refine sm_seg 1 47 [(0, .ref a0), (1, .int i1), (4, .int i4)] [.ref a0, .int (cm_I w r9 i4.toNatClampNeg), .long (cm_L w r6 i4.toNatClampNeg), .long j2] rfl ?_
        refine sm_gR rfl h2 rfl rfl fun r12 h13 => ?_
        show sm _ _ _ _ 50 [(0, .ref a0), (1, .int i1), (4, .int i4)] [.ref r12, .int (cm_I w r9 i4.toNatClampNeg), .long (cm_L w r6 i4.toNatClampNeg), .long j2] _ _
        refine sm_seg 1 52 [(0, .ref a0), (1, .int i1), (4, .int i4)] [.int i4, .ref r12, .int (cm_I w r9 i4.toNatClampNeg), .long (cm_L w r6 i4.toNatClampNeg), .long j2] rfl ?_
        refine sm_gd fun h14 => ?_
        refine sm_ai rfl h14 rfl ?_
        show sm _ _ _ _ 53 [(0, .ref a0), (1, .int i1), (4, .int i4)] [.int (cm_I w r12 i4.toNatClampNeg), .int (cm_I w r9 i4.toNatClampNeg), .long (cm_L w r6 i4.toNatClampNeg), .long j2] _ _
        refine sm_seg 7 10 [(0, .ref a0), (1, .int i1), (2, .long (j2 + ((cm_L w r6 i4.toNatClampNeg) * (Int32.toInt64 ((cm_I w r9 i4.toNatClampNeg) - (cm_I w r12 i4.toNatClampNeg)))))), (4, .int (i4 + (1 : Int32)))] [] rfl ?_
        exact ih a0 i1 (j2 + ((cm_L w r6 i4.toNatClampNeg) * (Int32.toInt64 ((cm_I w r9 i4.toNatClampNeg) - (cm_I w r12 i4.toNatClampNeg))))) (i4 + (1 : Int32))
      · refine sm_seg 6 10 [(0, .ref a0), (1, .int i1), (2, .long (j2 + (0 : Int64))), (4, .int (i4 + (1 : Int32)))] [] rfl ?_
        exact ih a0 i1 (j2 + (0 : Int64)) (i4 + (1 : Int32))
def fn_45 (w : cm_W) (a0 : Nat) : Option Int64 := (if cm_sh w a0 = some (.inl 3) then (fn_40 w a0).bind fun v16 => fn_45_10 w cm_N a0 v16 (0 : Int64) (0 : Int32) else none)
theorem jt_45_0 (w : cm_W) (a0 : Nat) : sm cm_g 45 ck_45 kq_45 0 [(0, .ref a0)] [] w ((fn_45 w a0).map (cm_fL w)) := by
  unfold fn_45
  refine sm_seg 1 1 [(0, .ref a0)] [.ref a0] rfl ?_
  refine sm_gd fun h15 => ?_
  refine sm_cV (as := []) (rest := []) rfl rfl rfl rfl h15 (Nat.le_of_ble_eq_true rfl) (ca_40 w a0) fun v16 h17 => ?_
  show sm _ _ _ _ 4 [(0, .ref a0)] [.int v16] _ _
  refine sm_seg 5 10 [(0, .ref a0), (1, .int v16), (2, .long (0 : Int64)), (4, .int (0 : Int32))] [] rfl ?_
  exact jt_45_10 w cm_N a0 v16 (0 : Int64) (0 : Int32)
theorem ca_45 (w : cm_W) (a0 : Nat) : cm_ca cm_g 45 [.ref a0] w ((fn_45 w a0).map (cm_fL w)) := cm_ca_of (cm_me_of rfl rfl) rfl (jt_45_0 w a0)
-- NailedBoxes$Market.sharesOfPool()J
def fn_46_4 (w : cm_W) : Nat → Nat → Int64 → Int32 → Option Int64
  | 0, _, _, _ => none
  | n + 1, a0, j1, i3 => (if (8 : Int32) ≤ i3 then some j1 else (if cm_sh w a0 = some (.inl 3) then (cm_R w a0 0).bind fun r3 => (if cm_ga w .long r3 i3 = true then fn_46_4 w n a0 (j1 + (cm_L w r3 i3.toNatClampNeg)) (i3 + (1 : Int32)) else none) else none))
theorem jt_46_4 (w : cm_W) : ∀ (n : Nat) (a0 : Nat) (j1 : Int64) (i3 : Int32), sm cm_g 46 ck_46 kq_46 4 [(0, .ref a0), (1, .long j1), (3, .int i3)] [] w ((fn_46_4 w n a0 j1 i3).map (cm_fL w)) := by
  intro n
  induction n with
  | zero => intro a0 j1 i3; exact sm_no
  | succ n ih =>
    intro a0 j1 i3
    rw [fn_46_4]
    refine sm_seg 2 7 [(0, .ref a0), (1, .long j1), (3, .int i3)] [.int (8 : Int32), .int i3] rfl ?_
    refine sm_if (pc1 := 25) (lv1 := [(1, .long j1)]) (pc2 := 10) (lv2 := [(0, .ref a0), (1, .long j1), (3, .int i3)]) (st1 := []) rfl rfl rfl (fun h1 => ?_) (fun h1 => ?_)
    · refine sm_seg 1 26 [(1, .long j1)] [.long j1] rfl ?_
      exact sm_rL rfl rfl
    · refine sm_seg 2 12 [(0, .ref a0), (1, .long j1), (3, .int i3)] [.ref a0, .long j1] rfl ?_
      refine sm_gd fun h2 => ?_
      refine sm_gR rfl h2 rfl rfl fun r3 h4 => ?_
      show sm _ _ _ _ 15 [(0, .ref a0), (1, .long j1), (3, .int i3)] [.ref r3, .long j1] _ _
      refine sm_seg 1 16 [(0, .ref a0), (1, .long j1), (3, .int i3)] [.int i3, .ref r3, .long j1] rfl ?_
      refine sm_gd fun h5 => ?_
      refine sm_al rfl h5 rfl ?_
      show sm _ _ _ _ 17 [(0, .ref a0), (1, .long j1), (3, .int i3)] [.long (cm_L w r3 i3.toNatClampNeg), .long j1] _ _
      refine sm_seg 4 4 [(0, .ref a0), (1, .long (j1 + (cm_L w r3 i3.toNatClampNeg))), (3, .int (i3 + (1 : Int32)))] [] rfl ?_
      exact ih a0 (j1 + (cm_L w r3 i3.toNatClampNeg)) (i3 + (1 : Int32))
def fn_46 (w : cm_W) (a0 : Nat) : Option Int64 := fn_46_4 w cm_N a0 (0 : Int64) (0 : Int32)
theorem jt_46_0 (w : cm_W) (a0 : Nat) : sm cm_g 46 ck_46 kq_46 0 [(0, .ref a0)] [] w ((fn_46 w a0).map (cm_fL w)) := by
  unfold fn_46
  refine sm_seg 4 4 [(0, .ref a0), (1, .long (0 : Int64)), (3, .int (0 : Int32))] [] rfl ?_
  exact jt_46_4 w cm_N a0 (0 : Int64) (0 : Int32)
theorem ca_46 (w : cm_W) (a0 : Nat) : cm_ca cm_g 46 [.ref a0] w ((fn_46 w a0).map (cm_fL w)) := cm_ca_of (cm_me_of rfl rfl) rfl (jt_46_0 w a0)
-- NailedBoxes$Market.lostBy(LNailedBoxes$Village;II)I
def fn_47_60 (k_15 : Nat → Nat → Int32 → Int64 → Int64 → Int32 → cm_W → Option (Int32 × cm_W)) (a0 : Nat) (a1 : Nat) (i2 : Int32) (j4 : Int64) (j6 : Int64) (i8 : Int32) (w : cm_W) : Option (Int32 × cm_W) := k_15 a0 a1 i2 j4 j6 (i8 + (1 : Int32)) w
theorem jt_47_60 (k_15 : Nat → Nat → Int32 → Int64 → Int64 → Int32 → cm_W → Option (Int32 × cm_W)) (hk_15 : ∀ (a0 : Nat) (a1 : Nat) (i2 : Int32) (j4 : Int64) (j6 : Int64) (i8 : Int32) (w : cm_W), sm cm_g 47 ck_47 kq_47 15 [(0, .ref a0), (1, .ref a1), (2, .int i2), (4, .long j4), (6, .long j6), (8, .int i8)] [] w ((k_15 a0 a1 i2 j4 j6 i8 w).map cm_gI)) (a0 : Nat) (a1 : Nat) (i2 : Int32) (j4 : Int64) (j6 : Int64) (i8 : Int32) (w : cm_W) : sm cm_g 47 ck_47 kq_47 60 [(0, .ref a0), (1, .ref a1), (2, .int i2), (4, .long j4), (6, .long j6), (8, .int i8)] [] w ((fn_47_60 k_15 a0 a1 i2 j4 j6 i8 w).map cm_gI) := by
  unfold fn_47_60
  refine sm_seg 2 15 [(0, .ref a0), (1, .ref a1), (2, .int i2), (4, .long j4), (6, .long j6), (8, .int (i8 + (1 : Int32)))] [] rfl ?_
  exact hk_15 a0 a1 i2 j4 j6 (i8 + (1 : Int32)) w
def fn_47_66 (j4 : Int64) (j6 : Int64) (w : cm_W) : Option (Int32 × cm_W) := (if (lg_cmp j6 (0 : Int64)) ≤ 0 then some ((-1 : Int32), w) else (if ¬ j6 = 0 then some ((Int64.toInt32 ((j4 * (100 : Int64)) / j6)), w) else none))
theorem jt_47_66 (j4 : Int64) (j6 : Int64) (w : cm_W) : sm cm_g 47 ck_47 kq_47 66 [(4, .long j4), (6, .long j6)] [] w ((fn_47_66 j4 j6 w).map cm_gI) := by
  unfold fn_47_66
  refine sm_seg 3 70 [(4, .long j4), (6, .long j6)] [.int (lg_cmp j6 (0 : Int64))] rfl ?_
  refine sm_if (pc1 := 86) (lv1 := []) (pc2 := 73) (lv2 := [(4, .long j4), (6, .long j6)]) (st1 := []) rfl rfl rfl (fun h1 => ?_) (fun h1 => ?_)
  · refine sm_seg 1 87 [] [.int (-1 : Int32)] rfl ?_
    exact sm_rIW rfl rfl
  · refine sm_seg 4 81 [(4, .long j4), (6, .long j6)] [.long j6, .long (j4 * (100 : Int64))] rfl ?_
    refine sm_gd fun h2 => ?_
    refine sm_ldiv rfl h2 rfl ?_
    show sm _ _ _ _ 82 [(4, .long j4), (6, .long j6)] [.long ((j4 * (100 : Int64)) / j6)] _ _
    refine sm_seg 2 87 [] [.int (Int64.toInt32 ((j4 * (100 : Int64)) / j6))] rfl ?_
    exact sm_rIW rfl rfl
def fn_47_15 : Nat → Nat → Nat → Int32 → Int64 → Int64 → Int32 → cm_W → Option (Int32 × cm_W)
  | 0, _, _, _, _, _, _, _ => none
  | n + 1, a0, a1, i2, j4, j6, i8, w => (if (12 : Int32) ≤ i8 then fn_47_66  j4 j6 w else (fn_44 w a1 i2 i8).bind fun v4 => (if (cm_b v4) = 0 then fn_47_60  (fn_47_15 n) a0 a1 i2 j4 j6 i8 w else (if cm_sh w a0 = some (.inl 3) then (fn_36 a0 a1 i2 i8 i8 w).bind fun w8 => (if cm_sh w8 a0 = some (.inl 3) then (fn_45 w8 a0).bind fun v11 => (fn_46 w8 a0).bind fun v13 => fn_47_60  (fn_47_15 n) a0 a1 i2 (j4 + v11) (j6 + v13) i8 w8 else none) else none)))
theorem jt_47_15 : ∀ (n : Nat) (a0 : Nat) (a1 : Nat) (i2 : Int32) (j4 : Int64) (j6 : Int64) (i8 : Int32) (w : cm_W), sm cm_g 47 ck_47 kq_47 15 [(0, .ref a0), (1, .ref a1), (2, .int i2), (4, .long j4), (6, .long j6), (8, .int i8)] [] w ((fn_47_15 n a0 a1 i2 j4 j6 i8 w).map cm_gI) := by
  intro n
  induction n with
  | zero => intro a0 a1 i2 j4 j6 i8 w; exact sm_no
  | succ n ih =>
    intro a0 a1 i2 j4 j6 i8 w
    rw [fn_47_15]
    refine sm_seg 2 19 [(0, .ref a0), (1, .ref a1), (2, .int i2), (4, .long j4), (6, .long j6), (8, .int i8)] [.int (12 : Int32), .int i8] rfl ?_
    refine sm_if (pc1 := 66) (lv1 := [(4, .long j4), (6, .long j6)]) (pc2 := 22) (lv2 := [(0, .ref a0), (1, .ref a1), (2, .int i2), (4, .long j4), (6, .long j6), (8, .int i8)]) (st1 := []) rfl rfl rfl (fun h3 => ?_) (fun h3 => ?_)
    · exact jt_47_66  j4 j6 w
    · refine sm_seg 3 26 [(0, .ref a0), (1, .ref a1), (2, .int i2), (4, .long j4), (6, .long j6), (8, .int i8)] [.int i8, .int i2, .ref a1] rfl ?_
      refine sm_cS (av := [.ref a1, .int i2, .int i8]) (rest := []) rfl rfl rfl rfl (Nat.le_of_ble_eq_true rfl) (ca_44 w a1 i2 i8) fun v4 h5 => ?_
      show sm _ _ _ _ 29 [(0, .ref a0), (1, .ref a1), (2, .int i2), (4, .long j4), (6, .long j6), (8, .int i8)] [.int (cm_b v4)] _ _
      refine sm_if (pc1 := 60) (lv1 := [(0, .ref a0), (1, .ref a1), (2, .int i2), (4, .long j4), (6, .long j6), (8, .int i8)]) (pc2 := 32) (lv2 := [(0, .ref a0), (1, .ref a1), (2, .int i2), (4, .long j4), (6, .long j6), (8, .int i8)]) (st1 := []) rfl rfl rfl (fun h6 => ?_) (fun h6 => ?_)
      · exact jt_47_60  (fn_47_15 n) ih a0 a1 i2 j4 j6 i8 w
      · refine sm_seg 5 39 [(0, .ref a0), (1, .ref a1), (2, .int i2), (4, .long j4), (6, .long j6), (8, .int i8)] [.int i8, .int i8, .int i2, .ref a1, .ref a0] rfl ?_
        refine sm_gd fun h7 => ?_
        refine sm_cV (as := [.ref a1, .int i2, .int i8, .int i8]) (rest := []) rfl rfl rfl rfl h7 (Nat.le_of_ble_eq_true rfl) (ca_36  a0 a1 i2 i8 i8 w) fun w8 h9 => ?_
        show sm _ _ _ _ 42 [(0, .ref a0), (1, .ref a1), (2, .int i2), (4, .long j4), (6, .long j6), (8, .int i8)] [] _ _
        refine sm_seg 2 45 [(0, .ref a0), (1, .ref a1), (2, .int i2), (4, .long j4), (6, .long j6), (8, .int i8)] [.ref a0, .long j4] rfl ?_
        refine sm_gd fun h10 => ?_
        refine sm_cV (as := []) (rest := [.long j4]) rfl rfl rfl rfl h10 (Nat.le_of_ble_eq_true rfl) (ca_45 w8 a0) fun v11 h12 => ?_
        show sm _ _ _ _ 48 [(0, .ref a0), (1, .ref a1), (2, .int i2), (4, .long j4), (6, .long j6), (8, .int i8)] [.long v11, .long j4] _ _
        refine sm_seg 4 54 [(4, .long (j4 + v11)), (0, .ref a0), (1, .ref a1), (2, .int i2), (6, .long j6), (8, .int i8)] [.ref a0, .long j6] rfl ?_
        refine sm_cV (as := []) (rest := [.long j6]) rfl rfl rfl rfl h10 (Nat.le_of_ble_eq_true rfl) (ca_46 w8 a0) fun v13 h14 => ?_
        show sm _ _ _ _ 57 [(4, .long (j4 + v11)), (0, .ref a0), (1, .ref a1), (2, .int i2), (6, .long j6), (8, .int i8)] [.long v13, .long j6] _ _
        refine sm_seg 2 60 [(0, .ref a0), (1, .ref a1), (2, .int i2), (4, .long (j4 + v11)), (6, .long (j6 + v13)), (8, .int i8)] [] rfl ?_
        exact jt_47_60  (fn_47_15 n) ih a0 a1 i2 (j4 + v11) (j6 + v13) i8 w8
def fn_47 (a0 : Nat) (a1 : Nat) (i2 : Int32) (i3 : Int32) (w : cm_W) : Option (Int32 × cm_W) := (if cm_sh w a0 = some (.inl 3) then (fn_32 a0 a1 i3 w).bind fun w16 => fn_47_15  cm_N a0 a1 i2 (0 : Int64) (0 : Int64) (0 : Int32) w16 else none)
theorem jt_47_0 (a0 : Nat) (a1 : Nat) (i2 : Int32) (i3 : Int32) (w : cm_W) : sm cm_g 47 ck_47 kq_47 0 [(0, .ref a0), (1, .ref a1), (2, .int i2), (3, .int i3)] [] w ((fn_47 a0 a1 i2 i3 w).map cm_gI) := by
  unfold fn_47
  refine sm_seg 3 3 [(0, .ref a0), (1, .ref a1), (2, .int i2), (3, .int i3)] [.int i3, .ref a1, .ref a0] rfl ?_
  refine sm_gd fun h15 => ?_
  refine sm_cV (as := [.ref a1, .int i3]) (rest := []) rfl rfl rfl rfl h15 (Nat.le_of_ble_eq_true rfl) (ca_32  a0 a1 i3 w) fun w16 h17 => ?_
  show sm _ _ _ _ 6 [(0, .ref a0), (1, .ref a1), (2, .int i2), (3, .int i3)] [] _ _
  refine sm_seg 6 15 [(0, .ref a0), (1, .ref a1), (2, .int i2), (4, .long (0 : Int64)), (6, .long (0 : Int64)), (8, .int (0 : Int32))] [] rfl ?_
  exact jt_47_15  cm_N a0 a1 i2 (0 : Int64) (0 : Int64) (0 : Int32) w16
theorem ca_47 (a0 : Nat) (a1 : Nat) (i2 : Int32) (i3 : Int32) (w : cm_W) : cm_ca cm_g 47 [.ref a0, .ref a1, .int i2, .int i3] w ((fn_47 a0 a1 i2 i3 w).map cm_gI) := cm_ca_of (cm_me_of rfl rfl) rfl (jt_47_0 a0 a1 i2 i3 w)
-- NailedBoxes$Market.hundredthsAbove(I)I
def fn_48_51 (w : cm_W) (j2 : Int64) (j4 : Int64) : Option Int32 := (if (lg_cmp j2 (0 : Int64)) ≤ 0 then some (-1 : Int32) else (if ¬ j2 = 0 then some (Int64.toInt32 ((j4 * (100 : Int64)) / j2)) else none))
theorem jt_48_51 (w : cm_W) (j2 : Int64) (j4 : Int64) : sm cm_g 48 ck_48 kq_48 51 [(2, .long j2), (4, .long j4)] [] w ((fn_48_51 w j2 j4).map (cm_fI w)) := by
  unfold fn_48_51
  refine sm_seg 3 54 [(2, .long j2), (4, .long j4)] [.int (lg_cmp j2 (0 : Int64))] rfl ?_
  refine sm_if (pc1 := 69) (lv1 := []) (pc2 := 57) (lv2 := [(2, .long j2), (4, .long j4)]) (st1 := []) rfl rfl rfl (fun h1 => ?_) (fun h1 => ?_)
  · refine sm_seg 1 70 [] [.int (-1 : Int32)] rfl ?_
    exact sm_rI rfl rfl
  · refine sm_seg 4 64 [(2, .long j2), (4, .long j4)] [.long j2, .long (j4 * (100 : Int64))] rfl ?_
    refine sm_gd fun h2 => ?_
    refine sm_ldiv rfl h2 rfl ?_
    show sm _ _ _ _ 65 [(2, .long j2), (4, .long j4)] [.long ((j4 * (100 : Int64)) / j2)] _ _
    refine sm_seg 2 70 [] [.int (Int64.toInt32 ((j4 * (100 : Int64)) / j2))] rfl ?_
    exact sm_rI rfl rfl
def fn_48_11 (w : cm_W) : Nat → Nat → Int32 → Int64 → Int64 → Int32 → Option Int32
  | 0, _, _, _, _, _ => none
  | n + 1, a0, i1, j2, j4, i6 => (if (8 : Int32) ≤ i6 then fn_48_51 w j2 j4 else (if cm_sh w a0 = some (.inl 3) then (cm_R w a0 0).bind fun r5 => (if cm_ga w .long r5 i6 = true then (cm_R w a0 1).bind fun r8 => (if cm_ga w .int r8 i6 = true then fn_48_11 w n a0 i1 j2 (j4 + ((cm_L w r5 i6.toNatClampNeg) * (Int32.toInt64 (if (0 : Int32) < ((cm_I w r8 i6.toNatClampNeg) - i1) then ((cm_I w r8 i6.toNatClampNeg) - i1) else (0 : Int32))))) (i6 + (1 : Int32)) else none) else none) else none))
theorem jt_48_11 (w : cm_W) : ∀ (n : Nat) (a0 : Nat) (i1 : Int32) (j2 : Int64) (j4 : Int64) (i6 : Int32), sm cm_g 48 ck_48 kq_48 11 [(0, .ref a0), (1, .int i1), (2, .long j2), (4, .long j4), (6, .int i6)] [] w ((fn_48_11 w n a0 i1 j2 j4 i6).map (cm_fI w)) := by
  intro n
  induction n with
  | zero => intro a0 i1 j2 j4 i6; exact sm_no
  | succ n ih =>
    intro a0 i1 j2 j4 i6
    rw [fn_48_11]
    refine sm_seg 2 15 [(0, .ref a0), (1, .int i1), (2, .long j2), (4, .long j4), (6, .int i6)] [.int (8 : Int32), .int i6] rfl ?_
    refine sm_if (pc1 := 51) (lv1 := [(2, .long j2), (4, .long j4)]) (pc2 := 18) (lv2 := [(0, .ref a0), (1, .int i1), (2, .long j2), (4, .long j4), (6, .int i6)]) (st1 := []) rfl rfl rfl (fun h3 => ?_) (fun h3 => ?_)
    · exact jt_48_51 w j2 j4
    · refine sm_seg 2 21 [(0, .ref a0), (1, .int i1), (2, .long j2), (4, .long j4), (6, .int i6)] [.ref a0, .long j4] rfl ?_
      refine sm_gd fun h4 => ?_
      refine sm_gR rfl h4 rfl rfl fun r5 h6 => ?_
      show sm _ _ _ _ 24 [(0, .ref a0), (1, .int i1), (2, .long j2), (4, .long j4), (6, .int i6)] [.ref r5, .long j4] _ _
      refine sm_seg 1 26 [(0, .ref a0), (1, .int i1), (2, .long j2), (4, .long j4), (6, .int i6)] [.int i6, .ref r5, .long j4] rfl ?_
      refine sm_gd fun h7 => ?_
      refine sm_al rfl h7 rfl ?_
      show sm _ _ _ _ 27 [(0, .ref a0), (1, .int i1), (2, .long j2), (4, .long j4), (6, .int i6)] [.long (cm_L w r5 i6.toNatClampNeg), .long j4] _ _
      refine sm_seg 2 29 [(0, .ref a0), (1, .int i1), (2, .long j2), (4, .long j4), (6, .int i6)] [.ref a0, .int (0 : Int32), .long (cm_L w r5 i6.toNatClampNeg), .long j4] rfl ?_
      refine sm_gR rfl h4 rfl rfl fun r8 h9 => ?_
      show sm _ _ _ _ 32 [(0, .ref a0), (1, .int i1), (2, .long j2), (4, .long j4), (6, .int i6)] [.ref r8, .int (0 : Int32), .long (cm_L w r5 i6.toNatClampNeg), .long j4] _ _
      refine sm_seg 1 34 [(0, .ref a0), (1, .int i1), (2, .long j2), (4, .long j4), (6, .int i6)] [.int i6, .ref r8, .int (0 : Int32), .long (cm_L w r5 i6.toNatClampNeg), .long j4] rfl ?_
      refine sm_gd fun h10 => ?_
      refine sm_ai rfl h10 rfl ?_
      show sm _ _ _ _ 35 [(0, .ref a0), (1, .int i1), (2, .long j2), (4, .long j4), (6, .int i6)] [.int (cm_I w r8 i6.toNatClampNeg), .int (0 : Int32), .long (cm_L w r5 i6.toNatClampNeg), .long j4] _ _
      refine sm_seg 2 37 [(0, .ref a0), (1, .int i1), (2, .long j2), (4, .long j4), (6, .int i6)] [.int ((cm_I w r8 i6.toNatClampNeg) - i1), .int (0 : Int32), .long (cm_L w r5 i6.toNatClampNeg), .long j4] rfl ?_
      refine sm_at rfl rfl rfl ?_
      show sm _ _ _ _ 40 [(0, .ref a0), (1, .int i1), (2, .long j2), (4, .long j4), (6, .int i6)] [.int (if (0 : Int32) < ((cm_I w r8 i6.toNatClampNeg) - i1) then ((cm_I w r8 i6.toNatClampNeg) - i1) else (0 : Int32)), .long (cm_L w r5 i6.toNatClampNeg), .long j4] _ _
      refine sm_seg 6 11 [(0, .ref a0), (1, .int i1), (2, .long j2), (4, .long (j4 + ((cm_L w r5 i6.toNatClampNeg) * (Int32.toInt64 (if (0 : Int32) < ((cm_I w r8 i6.toNatClampNeg) - i1) then ((cm_I w r8 i6.toNatClampNeg) - i1) else (0 : Int32)))))), (6, .int (i6 + (1 : Int32)))] [] rfl ?_
      exact ih a0 i1 j2 (j4 + ((cm_L w r5 i6.toNatClampNeg) * (Int32.toInt64 (if (0 : Int32) < ((cm_I w r8 i6.toNatClampNeg) - i1) then ((cm_I w r8 i6.toNatClampNeg) - i1) else (0 : Int32))))) (i6 + (1 : Int32))
def fn_48 (w : cm_W) (a0 : Nat) (i1 : Int32) : Option Int32 := (if cm_sh w a0 = some (.inl 3) then (fn_46 w a0).bind fun v12 => fn_48_11 w cm_N a0 i1 v12 (0 : Int64) (0 : Int32) else none)
theorem jt_48_0 (w : cm_W) (a0 : Nat) (i1 : Int32) : sm cm_g 48 ck_48 kq_48 0 [(0, .ref a0), (1, .int i1)] [] w ((fn_48 w a0 i1).map (cm_fI w)) := by
  unfold fn_48
  refine sm_seg 1 1 [(0, .ref a0), (1, .int i1)] [.ref a0] rfl ?_
  refine sm_gd fun h11 => ?_
  refine sm_cV (as := []) (rest := []) rfl rfl rfl rfl h11 (Nat.le_of_ble_eq_true rfl) (ca_46 w a0) fun v12 h13 => ?_
  show sm _ _ _ _ 4 [(0, .ref a0), (1, .int i1)] [.long v12] _ _
  refine sm_seg 5 11 [(0, .ref a0), (1, .int i1), (2, .long v12), (4, .long (0 : Int64)), (6, .int (0 : Int32))] [] rfl ?_
  exact jt_48_11 w cm_N a0 i1 v12 (0 : Int64) (0 : Int32)
theorem ca_48 (w : cm_W) (a0 : Nat) (i1 : Int32) : cm_ca cm_g 48 [.ref a0, .int i1] w ((fn_48 w a0 i1).map (cm_fI w)) := cm_ca_of (cm_me_of rfl rfl) rfl (jt_48_0 w a0 i1)
-- NailedBoxes$Market.isWorthItsWeight(LNailedBoxes$Village;I)Z
def fn_49_91 (w : cm_W) (k_8 : Nat → Nat → Int32 → Int32 → Int64 → Int32 → Option Bool) (a0 : Nat) (a1 : Nat) (i2 : Int32) (i3 : Int32) (j4 : Int64) (i6 : Int32) : Option Bool := k_8 a0 a1 i2 i3 j4 (i6 + (1 : Int32))
theorem jt_49_91 (w : cm_W) (k_8 : Nat → Nat → Int32 → Int32 → Int64 → Int32 → Option Bool) (hk_8 : ∀ (a0 : Nat) (a1 : Nat) (i2 : Int32) (i3 : Int32) (j4 : Int64) (i6 : Int32), sm cm_g 49 ck_49 kq_49 8 [(0, .ref a0), (1, .ref a1), (2, .int i2), (3, .int i3), (4, .long j4), (6, .int i6)] [] w ((k_8 a0 a1 i2 i3 j4 i6).map (cm_fB w))) (a0 : Nat) (a1 : Nat) (i2 : Int32) (i3 : Int32) (j4 : Int64) (i6 : Int32) : sm cm_g 49 ck_49 kq_49 91 [(0, .ref a0), (1, .ref a1), (2, .int i2), (3, .int i3), (4, .long j4), (6, .int i6)] [] w ((fn_49_91 w k_8 a0 a1 i2 i3 j4 i6).map (cm_fB w)) := by
  unfold fn_49_91
  refine sm_seg 2 8 [(0, .ref a0), (1, .ref a1), (2, .int i2), (3, .int i3), (4, .long j4), (6, .int (i6 + (1 : Int32)))] [] rfl ?_
  exact hk_8 a0 a1 i2 i3 j4 (i6 + (1 : Int32))
def fn_49_97 (w : cm_W) (i3 : Int32) (j4 : Int64) : Option Bool := (if i3 = 0 then some false else (if (lg_cmp j4 (0 : Int64)) < 0 then some false else some true))
theorem jt_49_97 (w : cm_W) (i3 : Int32) (j4 : Int64) : sm cm_g 49 ck_49 kq_49 97 [(3, .int i3), (4, .long j4)] [] w ((fn_49_97 w i3 j4).map (cm_fB w)) := by
  unfold fn_49_97
  refine sm_seg 1 98 [(3, .int i3), (4, .long j4)] [.int i3] rfl ?_
  refine sm_if (pc1 := 112) (lv1 := []) (pc2 := 101) (lv2 := [(3, .int i3), (4, .long j4)]) (st1 := []) rfl rfl rfl (fun h1 => ?_) (fun h1 => ?_)
  · refine sm_seg 1 113 [] [.int (0 : Int32)] rfl ?_
    exact sm_rB (b := false) rfl rfl
  · refine sm_seg 3 105 [(3, .int i3), (4, .long j4)] [.int (lg_cmp j4 (0 : Int64))] rfl ?_
    refine sm_if (pc1 := 112) (lv1 := []) (pc2 := 108) (lv2 := [(3, .int i3), (4, .long j4)]) (st1 := []) rfl rfl rfl (fun h2 => ?_) (fun h2 => ?_)
    · refine sm_seg 1 113 [] [.int (0 : Int32)] rfl ?_
      exact sm_rB (b := false) rfl rfl
    · refine sm_seg 2 113 [] [.int (1 : Int32)] rfl ?_
      exact sm_rB (b := true) rfl rfl
def fn_49_8 (w : cm_W) : Nat → Nat → Nat → Int32 → Int32 → Int64 → Int32 → Option Bool
  | 0, _, _, _, _, _, _ => none
  | n + 1, a0, a1, i2, i3, j4, i6 => (if cm_sh w a1 = some (.inl 9) then (cm_R w a1 1).bind fun r4 => (if cm_sh w r4 = some (.inl 7) then (if (cm_I w r4 2) ≤ i6 then fn_49_97 w i3 j4 else (if (8 : Int32) ≤ i6 then fn_49_97 w i3 j4 else (cm_R w a1 1).bind fun r9 => (if cm_sh w r9 = some (.inl 7) then (fn_1 w r9 i6 (1 : Int32)).bind fun v12 => (if cm_sh w a0 = some (.inl 3) then (cm_R w a0 0).bind fun r15 => (if cm_ga w .long r15 i6 = true then (if (lg_cmp (cm_L w r15 i6.toNatClampNeg) (0 : Int64)) ≤ 0 then fn_49_91 w (fn_49_8 w n) a0 a1 i2 i3 j4 i6 else (cm_R w a0 2).bind fun r19 => (if cm_ga w .int r19 i6 = true then (if (i2 * v12) < (cm_I w r19 i6.toNatClampNeg) then fn_49_91 w (fn_49_8 w n) a0 a1 i2 i3 j4 i6 else (cm_R w a0 0).bind fun r23 => (if cm_ga w .long r23 i6 = true then (cm_R w a0 1).bind fun r26 => (if cm_ga w .int r26 i6 = true then fn_49_91 w (fn_49_8 w n) a0 a1 i2 (1 : Int32) (j4 + ((cm_L w r23 i6.toNatClampNeg) * (Int32.toInt64 ((cm_I w r26 i6.toNatClampNeg) - (i2 * v12))))) i6 else none) else none)) else none)) else none) else none) else none))) else none) else none)
theorem jt_49_8 (w : cm_W) : ∀ (n : Nat) (a0 : Nat) (a1 : Nat) (i2 : Int32) (i3 : Int32) (j4 : Int64) (i6 : Int32), sm cm_g 49 ck_49 kq_49 8 [(0, .ref a0), (1, .ref a1), (2, .int i2), (3, .int i3), (4, .long j4), (6, .int i6)] [] w ((fn_49_8 w n a0 a1 i2 i3 j4 i6).map (cm_fB w)) := by
  intro n
  induction n with
  | zero => intro a0 a1 i2 i3 j4 i6; exact sm_no
  | succ n ih =>
    intro a0 a1 i2 i3 j4 i6
    rw [fn_49_8]
    refine sm_seg 2 11 [(0, .ref a0), (1, .ref a1), (2, .int i2), (3, .int i3), (4, .long j4), (6, .int i6)] [.ref a1, .int i6] rfl ?_
    refine sm_gd fun h3 => ?_
    refine sm_gR rfl h3 rfl rfl fun r4 h5 => ?_
    show sm _ _ _ _ 14 [(0, .ref a0), (1, .ref a1), (2, .int i2), (3, .int i3), (4, .long j4), (6, .int i6)] [.ref r4, .int i6] _ _
    refine sm_gd fun h6 => ?_
    refine sm_gI rfl h6 rfl ?_
    show sm _ _ _ _ 17 [(0, .ref a0), (1, .ref a1), (2, .int i2), (3, .int i3), (4, .long j4), (6, .int i6)] [.int (cm_I w r4 2), .int i6] _ _
    refine sm_if (pc1 := 97) (lv1 := [(3, .int i3), (4, .long j4)]) (pc2 := 20) (lv2 := [(0, .ref a0), (1, .ref a1), (2, .int i2), (3, .int i3), (4, .long j4), (6, .int i6)]) (st1 := []) rfl rfl rfl (fun h7 => ?_) (fun h7 => ?_)
    · exact jt_49_97 w i3 j4
    · refine sm_seg 2 24 [(0, .ref a0), (1, .ref a1), (2, .int i2), (3, .int i3), (4, .long j4), (6, .int i6)] [.int (8 : Int32), .int i6] rfl ?_
      refine sm_if (pc1 := 97) (lv1 := [(3, .int i3), (4, .long j4)]) (pc2 := 27) (lv2 := [(0, .ref a0), (1, .ref a1), (2, .int i2), (3, .int i3), (4, .long j4), (6, .int i6)]) (st1 := []) rfl rfl rfl (fun h8 => ?_) (fun h8 => ?_)
      · exact jt_49_97 w i3 j4
      · refine sm_seg 2 29 [(0, .ref a0), (1, .ref a1), (2, .int i2), (3, .int i3), (4, .long j4), (6, .int i6)] [.ref a1, .int i2] rfl ?_
        refine sm_gR rfl h3 rfl rfl fun r9 h10 => ?_
        show sm _ _ _ _ 32 [(0, .ref a0), (1, .ref a1), (2, .int i2), (3, .int i3), (4, .long j4), (6, .int i6)] [.ref r9, .int i2] _ _
        refine sm_seg 2 35 [(0, .ref a0), (1, .ref a1), (2, .int i2), (3, .int i3), (4, .long j4), (6, .int i6)] [.int (1 : Int32), .int i6, .ref r9, .int i2] rfl ?_
        refine sm_gd fun h11 => ?_
        refine sm_cV (as := [.int i6, .int (1 : Int32)]) (rest := [.int i2]) rfl rfl rfl rfl h11 (Nat.le_of_ble_eq_true rfl) (ca_1 w r9 i6 (1 : Int32)) fun v12 h13 => ?_
        show sm _ _ _ _ 38 [(0, .ref a0), (1, .ref a1), (2, .int i2), (3, .int i3), (4, .long j4), (6, .int i6)] [.int v12, .int i2] _ _
        refine sm_seg 3 42 [(7, .int (i2 * v12)), (0, .ref a0), (1, .ref a1), (2, .int i2), (3, .int i3), (4, .long j4), (6, .int i6)] [.ref a0] rfl ?_
        refine sm_gd fun h14 => ?_
        refine sm_gR rfl h14 rfl rfl fun r15 h16 => ?_
        show sm _ _ _ _ 45 [(7, .int (i2 * v12)), (0, .ref a0), (1, .ref a1), (2, .int i2), (3, .int i3), (4, .long j4), (6, .int i6)] [.ref r15] _ _
        refine sm_seg 1 47 [(7, .int (i2 * v12)), (0, .ref a0), (1, .ref a1), (2, .int i2), (3, .int i3), (4, .long j4), (6, .int i6)] [.int i6, .ref r15] rfl ?_
        refine sm_gd fun h17 => ?_
        refine sm_al rfl h17 rfl ?_
        show sm _ _ _ _ 48 [(7, .int (i2 * v12)), (0, .ref a0), (1, .ref a1), (2, .int i2), (3, .int i3), (4, .long j4), (6, .int i6)] [.long (cm_L w r15 i6.toNatClampNeg)] _ _
        refine sm_seg 2 50 [(7, .int (i2 * v12)), (0, .ref a0), (1, .ref a1), (2, .int i2), (3, .int i3), (4, .long j4), (6, .int i6)] [.int (lg_cmp (cm_L w r15 i6.toNatClampNeg) (0 : Int64))] rfl ?_
        refine sm_if (pc1 := 91) (lv1 := [(0, .ref a0), (1, .ref a1), (2, .int i2), (3, .int i3), (4, .long j4), (6, .int i6)]) (pc2 := 53) (lv2 := [(7, .int (i2 * v12)), (0, .ref a0), (1, .ref a1), (2, .int i2), (3, .int i3), (4, .long j4), (6, .int i6)]) (st1 := []) rfl rfl rfl (fun h18 => ?_) (fun h18 => ?_)
        · exact jt_49_91 w (fn_49_8 w n) ih a0 a1 i2 i3 j4 i6
        · refine sm_seg 1 54 [(7, .int (i2 * v12)), (0, .ref a0), (1, .ref a1), (2, .int i2), (3, .int i3), (4, .long j4), (6, .int i6)] [.ref a0] rfl ?_
          refine sm_gR rfl h14 rfl rfl fun r19 h20 => ?_
          show sm _ _ _ _ 57 [(7, .int (i2 * v12)), (0, .ref a0), (1, .ref a1), (2, .int i2), (3, .int i3), (4, .long j4), (6, .int i6)] [.ref r19] _ _
          refine sm_seg 1 59 [(7, .int (i2 * v12)), (0, .ref a0), (1, .ref a1), (2, .int i2), (3, .int i3), (4, .long j4), (6, .int i6)] [.int i6, .ref r19] rfl ?_
          refine sm_gd fun h21 => ?_
          refine sm_ai rfl h21 rfl ?_
          show sm _ _ _ _ 60 [(7, .int (i2 * v12)), (0, .ref a0), (1, .ref a1), (2, .int i2), (3, .int i3), (4, .long j4), (6, .int i6)] [.int (cm_I w r19 i6.toNatClampNeg)] _ _
          refine sm_seg 1 62 [(7, .int (i2 * v12)), (0, .ref a0), (1, .ref a1), (2, .int i2), (3, .int i3), (4, .long j4), (6, .int i6)] [.int (i2 * v12), .int (cm_I w r19 i6.toNatClampNeg)] rfl ?_
          refine sm_if (pc1 := 91) (lv1 := [(0, .ref a0), (1, .ref a1), (2, .int i2), (3, .int i3), (4, .long j4), (6, .int i6)]) (pc2 := 65) (lv2 := [(7, .int (i2 * v12)), (0, .ref a0), (1, .ref a1), (2, .int i2), (3, .int i3), (4, .long j4), (6, .int i6)]) (st1 := []) rfl rfl rfl (fun h22 => ?_) (fun h22 => ?_)
          · exact jt_49_91 w (fn_49_8 w n) ih a0 a1 i2 i3 j4 i6
          · refine sm_seg 4 70 [(3, .int (1 : Int32)), (7, .int (i2 * v12)), (0, .ref a0), (1, .ref a1), (2, .int i2), (4, .long j4), (6, .int i6)] [.ref a0, .long j4] rfl ?_
            refine sm_gR rfl h14 rfl rfl fun r23 h24 => ?_
            show sm _ _ _ _ 73 [(3, .int (1 : Int32)), (7, .int (i2 * v12)), (0, .ref a0), (1, .ref a1), (2, .int i2), (4, .long j4), (6, .int i6)] [.ref r23, .long j4] _ _
            refine sm_seg 1 75 [(3, .int (1 : Int32)), (7, .int (i2 * v12)), (0, .ref a0), (1, .ref a1), (2, .int i2), (4, .long j4), (6, .int i6)] [.int i6, .ref r23, .long j4] rfl ?_
            refine sm_gd fun h25 => ?_
            refine sm_al rfl h25 rfl ?_
            show sm _ _ _ _ 76 [(3, .int (1 : Int32)), (7, .int (i2 * v12)), (0, .ref a0), (1, .ref a1), (2, .int i2), (4, .long j4), (6, .int i6)] [.long (cm_L w r23 i6.toNatClampNeg), .long j4] _ _
            refine sm_seg 1 77 [(3, .int (1 : Int32)), (7, .int (i2 * v12)), (0, .ref a0), (1, .ref a1), (2, .int i2), (4, .long j4), (6, .int i6)] [.ref a0, .long (cm_L w r23 i6.toNatClampNeg), .long j4] rfl ?_
            refine sm_gR rfl h14 rfl rfl fun r26 h27 => ?_
            show sm _ _ _ _ 80 [(3, .int (1 : Int32)), (7, .int (i2 * v12)), (0, .ref a0), (1, .ref a1), (2, .int i2), (4, .long j4), (6, .int i6)] [.ref r26, .long (cm_L w r23 i6.toNatClampNeg), .long j4] _ _
            refine sm_seg 1 82 [(3, .int (1 : Int32)), (7, .int (i2 * v12)), (0, .ref a0), (1, .ref a1), (2, .int i2), (4, .long j4), (6, .int i6)] [.int i6, .ref r26, .long (cm_L w r23 i6.toNatClampNeg), .long j4] rfl ?_
            refine sm_gd fun h28 => ?_
            refine sm_ai rfl h28 rfl ?_
            show sm _ _ _ _ 83 [(3, .int (1 : Int32)), (7, .int (i2 * v12)), (0, .ref a0), (1, .ref a1), (2, .int i2), (4, .long j4), (6, .int i6)] [.int (cm_I w r26 i6.toNatClampNeg), .long (cm_L w r23 i6.toNatClampNeg), .long j4] _ _
            refine sm_seg 6 91 [(0, .ref a0), (1, .ref a1), (2, .int i2), (3, .int (1 : Int32)), (4, .long (j4 + ((cm_L w r23 i6.toNatClampNeg) * (Int32.toInt64 ((cm_I w r26 i6.toNatClampNeg) - (i2 * v12)))))), (6, .int i6)] [] rfl ?_
            exact jt_49_91 w (fn_49_8 w n) ih a0 a1 i2 (1 : Int32) (j4 + ((cm_L w r23 i6.toNatClampNeg) * (Int32.toInt64 ((cm_I w r26 i6.toNatClampNeg) - (i2 * v12))))) i6
def fn_49 (w : cm_W) (a0 : Nat) (a1 : Nat) (i2 : Int32) : Option Bool := fn_49_8 w cm_N a0 a1 i2 (0 : Int32) (0 : Int64) (0 : Int32)
theorem jt_49_0 (w : cm_W) (a0 : Nat) (a1 : Nat) (i2 : Int32) : sm cm_g 49 ck_49 kq_49 0 [(0, .ref a0), (1, .ref a1), (2, .int i2)] [] w ((fn_49 w a0 a1 i2).map (cm_fB w)) := by
  unfold fn_49
  refine sm_seg 6 8 [(0, .ref a0), (1, .ref a1), (2, .int i2), (3, .int (0 : Int32)), (4, .long (0 : Int64)), (6, .int (0 : Int32))] [] rfl ?_
  exact jt_49_8 w cm_N a0 a1 i2 (0 : Int32) (0 : Int64) (0 : Int32)
theorem ca_49 (w : cm_W) (a0 : Nat) (a1 : Nat) (i2 : Int32) : cm_ca cm_g 49 [.ref a0, .ref a1, .int i2] w ((fn_49 w a0 a1 i2).map (cm_fB w)) := cm_ca_of (cm_me_of rfl rfl) rfl (jt_49_0 w a0 a1 i2)
-- NailedBoxes$Market.priceByWeight(LNailedBoxes$Village;)I
def fn_50_19 (w : cm_W) (k_4 : Nat → Nat → Int32 → Option Int32) (a0 : Nat) (a1 : Nat) (i2 : Int32) : Option Int32 := k_4 a0 a1 (i2 + (-1 : Int32))
theorem jt_50_19 (w : cm_W) (k_4 : Nat → Nat → Int32 → Option Int32) (hk_4 : ∀ (a0 : Nat) (a1 : Nat) (i2 : Int32), sm cm_g 50 ck_50 kq_50 4 [(0, .ref a0), (1, .ref a1), (2, .int i2)] [] w ((k_4 a0 a1 i2).map (cm_fI w))) (a0 : Nat) (a1 : Nat) (i2 : Int32) : sm cm_g 50 ck_50 kq_50 19 [(0, .ref a0), (1, .ref a1), (2, .int i2)] [] w ((fn_50_19 w k_4 a0 a1 i2).map (cm_fI w)) := by
  unfold fn_50_19
  refine sm_seg 2 4 [(0, .ref a0), (1, .ref a1), (2, .int (i2 + (-1 : Int32)))] [] rfl ?_
  exact hk_4 a0 a1 (i2 + (-1 : Int32))
def fn_50_4 (w : cm_W) : Nat → Nat → Nat → Int32 → Option Int32
  | 0, _, _, _ => none
  | n + 1, a0, a1, i2 => (if i2 < 0 then some (-1 : Int32) else (if cm_sh w a0 = some (.inl 3) then (fn_49 w a0 a1 i2).bind fun v3 => (if (cm_b v3) = 0 then fn_50_19 w (fn_50_4 w n) a0 a1 i2 else some i2) else none))
theorem jt_50_4 (w : cm_W) : ∀ (n : Nat) (a0 : Nat) (a1 : Nat) (i2 : Int32), sm cm_g 50 ck_50 kq_50 4 [(0, .ref a0), (1, .ref a1), (2, .int i2)] [] w ((fn_50_4 w n a0 a1 i2).map (cm_fI w)) := by
  intro n
  induction n with
  | zero => intro a0 a1 i2; exact sm_no
  | succ n ih =>
    intro a0 a1 i2
    rw [fn_50_4]
    refine sm_seg 1 5 [(0, .ref a0), (1, .ref a1), (2, .int i2)] [.int i2] rfl ?_
    refine sm_if (pc1 := 25) (lv1 := []) (pc2 := 8) (lv2 := [(0, .ref a0), (1, .ref a1), (2, .int i2)]) (st1 := []) rfl rfl rfl (fun h1 => ?_) (fun h1 => ?_)
    · refine sm_seg 1 26 [] [.int (-1 : Int32)] rfl ?_
      exact sm_rI rfl rfl
    · refine sm_seg 3 11 [(0, .ref a0), (1, .ref a1), (2, .int i2)] [.int i2, .ref a1, .ref a0] rfl ?_
      refine sm_gd fun h2 => ?_
      refine sm_cV (as := [.ref a1, .int i2]) (rest := []) rfl rfl rfl rfl h2 (Nat.le_of_ble_eq_true rfl) (ca_49 w a0 a1 i2) fun v3 h4 => ?_
      show sm _ _ _ _ 14 [(0, .ref a0), (1, .ref a1), (2, .int i2)] [.int (cm_b v3)] _ _
      refine sm_if (pc1 := 19) (lv1 := [(0, .ref a0), (1, .ref a1), (2, .int i2)]) (pc2 := 17) (lv2 := [(0, .ref a0), (1, .ref a1), (2, .int i2)]) (st1 := []) rfl rfl rfl (fun h5 => ?_) (fun h5 => ?_)
      · exact jt_50_19 w (fn_50_4 w n) ih a0 a1 i2
      · refine sm_seg 1 18 [(0, .ref a0), (1, .ref a1), (2, .int i2)] [.int i2] rfl ?_
        exact sm_rI rfl rfl
def fn_50 (w : cm_W) (a0 : Nat) (a1 : Nat) : Option Int32 := fn_50_4 w cm_N a0 a1 (999 : Int32)
theorem jt_50_0 (w : cm_W) (a0 : Nat) (a1 : Nat) : sm cm_g 50 ck_50 kq_50 0 [(0, .ref a0), (1, .ref a1)] [] w ((fn_50 w a0 a1).map (cm_fI w)) := by
  unfold fn_50
  refine sm_seg 2 4 [(0, .ref a0), (1, .ref a1), (2, .int (999 : Int32))] [] rfl ?_
  exact jt_50_4 w cm_N a0 a1 (999 : Int32)
theorem ca_50 (w : cm_W) (a0 : Nat) (a1 : Nat) : cm_ca cm_g 50 [.ref a0, .ref a1] w ((fn_50 w a0 a1).map (cm_fI w)) := cm_ca_of (cm_me_of rfl rfl) rfl (jt_50_0 w a0 a1)
-- NailedBoxes$Market.takeSold(I)V
def fn_51_2 : Nat → Nat → Int32 → Int32 → cm_W → Option cm_W
  | 0, _, _, _, _ => none
  | n + 1, a0, i1, i2, w => (if (8 : Int32) ≤ i2 then some w else (if cm_sh w a0 = some (.inl 3) then (cm_R w a0 0).bind fun r3 => (fn_38 w a0 i2 i1).bind fun v5 => (if (cm_b v5) = 0 then (cm_R w a0 0).bind fun r8 => (if cm_ga w .long r8 i2 = true then (if cm_ga w .long r3 i2 = true then (if cm_w2 51 55 r3 = true then fn_51_2 n a0 i1 (i2 + (1 : Int32)) (cm_sL w r3 i2.toNatClampNeg (cm_L w r8 i2.toNatClampNeg)) else none) else none) else none) else (if cm_ga w .long r3 i2 = true then (if cm_w2 51 55 r3 = true then fn_51_2 n a0 i1 (i2 + (1 : Int32)) (cm_sL w r3 i2.toNatClampNeg (0 : Int64)) else none) else none)) else none))
theorem jt_51_2 : ∀ (n : Nat) (a0 : Nat) (i1 : Int32) (i2 : Int32) (w : cm_W), sm cm_g 51 ck_51 kq_51 2 [(0, .ref a0), (1, .int i1), (2, .int i2)] [] w ((fn_51_2 n a0 i1 i2 w).map cm_gV) := by
  intro n
  induction n with
  | zero => intro a0 i1 i2 w; exact sm_no
  | succ n ih =>
    intro a0 i1 i2 w
    rw [fn_51_2]
    refine sm_seg 2 5 [(0, .ref a0), (1, .int i1), (2, .int i2)] [.int (8 : Int32), .int i2] rfl ?_
    refine sm_if (pc1 := 39) (lv1 := []) (pc2 := 8) (lv2 := [(0, .ref a0), (1, .int i1), (2, .int i2)]) (st1 := []) rfl rfl rfl (fun h1 => ?_) (fun h1 => ?_)
    · exact sm_rV rfl rfl
    · refine sm_seg 1 9 [(0, .ref a0), (1, .int i1), (2, .int i2)] [.ref a0] rfl ?_
      refine sm_gd fun h2 => ?_
      refine sm_gR rfl h2 rfl rfl fun r3 h4 => ?_
      show sm _ _ _ _ 12 [(0, .ref a0), (1, .int i1), (2, .int i2)] [.ref r3] _ _
      refine sm_seg 4 16 [(0, .ref a0), (1, .int i1), (2, .int i2)] [.int i1, .int i2, .ref a0, .int i2, .ref r3] rfl ?_
      refine sm_cV (as := [.int i2, .int i1]) (rest := [.int i2, .ref r3]) rfl rfl rfl rfl h2 (Nat.le_of_ble_eq_true rfl) (ca_38 w a0 i2 i1) fun v5 h6 => ?_
      show sm _ _ _ _ 19 [(0, .ref a0), (1, .int i1), (2, .int i2)] [.int (cm_b v5), .int i2, .ref r3] _ _
      refine sm_if (pc1 := 26) (lv1 := [(0, .ref a0), (1, .int i1), (2, .int i2)]) (pc2 := 22) (lv2 := [(0, .ref a0), (1, .int i1), (2, .int i2)]) (st1 := [.int i2, .ref r3]) rfl rfl rfl (fun h7 => ?_) (fun h7 => ?_)
      · refine sm_seg 1 27 [(0, .ref a0), (1, .int i1), (2, .int i2)] [.ref a0, .int i2, .ref r3] rfl ?_
        refine sm_gR rfl h2 rfl rfl fun r8 h9 => ?_
        show sm _ _ _ _ 30 [(0, .ref a0), (1, .int i1), (2, .int i2)] [.ref r8, .int i2, .ref r3] _ _
        refine sm_seg 1 31 [(0, .ref a0), (1, .int i1), (2, .int i2)] [.int i2, .ref r8, .int i2, .ref r3] rfl ?_
        refine sm_gd fun h10 => ?_
        refine sm_al rfl h10 rfl ?_
        show sm _ _ _ _ 32 [(0, .ref a0), (1, .int i1), (2, .int i2)] [.long (cm_L w r8 i2.toNatClampNeg), .int i2, .ref r3] _ _
        refine sm_gd fun h11 => ?_
        refine sm_gd fun h12 => ?_
        refine sm_sl rfl h11 h12 rfl rfl ?_
        show sm _ _ _ _ 33 [(0, .ref a0), (1, .int i1), (2, .int i2)] [] _ _
        refine sm_seg 2 2 [(0, .ref a0), (1, .int i1), (2, .int (i2 + (1 : Int32)))] [] rfl ?_
        exact ih a0 i1 (i2 + (1 : Int32)) (cm_sL w r3 i2.toNatClampNeg (cm_L w r8 i2.toNatClampNeg))
      · refine sm_seg 2 32 [(0, .ref a0), (1, .int i1), (2, .int i2)] [.long (0 : Int64), .int i2, .ref r3] rfl ?_
        refine sm_gd fun h13 => ?_
        refine sm_gd fun h14 => ?_
        refine sm_sl rfl h13 h14 rfl rfl ?_
        show sm _ _ _ _ 33 [(0, .ref a0), (1, .int i1), (2, .int i2)] [] _ _
        refine sm_seg 2 2 [(0, .ref a0), (1, .int i1), (2, .int (i2 + (1 : Int32)))] [] rfl ?_
        exact ih a0 i1 (i2 + (1 : Int32)) (cm_sL w r3 i2.toNatClampNeg (0 : Int64))
def fn_51 (a0 : Nat) (i1 : Int32) (w : cm_W) : Option cm_W := fn_51_2  cm_N a0 i1 (0 : Int32) w
theorem jt_51_0 (a0 : Nat) (i1 : Int32) (w : cm_W) : sm cm_g 51 ck_51 kq_51 0 [(0, .ref a0), (1, .int i1)] [] w ((fn_51 a0 i1 w).map cm_gV) := by
  unfold fn_51
  refine sm_seg 2 2 [(0, .ref a0), (1, .int i1), (2, .int (0 : Int32))] [] rfl ?_
  exact jt_51_2  cm_N a0 i1 (0 : Int32) w
theorem ca_51 (a0 : Nat) (i1 : Int32) (w : cm_W) : cm_ca cm_g 51 [.ref a0, .int i1] w ((fn_51 a0 i1 w).map cm_gV) := cm_ca_of (cm_me_of rfl rfl) rfl (jt_51_0 a0 i1 w)
-- NailedBoxes$Market.hoursOf(LNailedBoxes$Village;IIII)I
def fn_52_56 (a0 : Nat) (i7 : Int32) (w : cm_W) : Option (Int32 × cm_W) := (if cm_sh w a0 = some (.inl 3) then (fn_41 w a0 i7).bind fun v2 => some (v2, w) else none)
theorem jt_52_56 (a0 : Nat) (i7 : Int32) (w : cm_W) : sm cm_g 52 ck_52 kq_52 56 [(0, .ref a0), (7, .int i7)] [] w ((fn_52_56 a0 i7 w).map cm_gI) := by
  unfold fn_52_56
  refine sm_seg 2 59 [(0, .ref a0), (7, .int i7)] [.int i7, .ref a0] rfl ?_
  refine sm_gd fun h1 => ?_
  refine sm_cV (as := [.int i7]) (rest := []) rfl rfl rfl rfl h1 (Nat.le_of_ble_eq_true rfl) (ca_41 w a0 i7) fun v2 h3 => ?_
  show sm _ _ _ _ 62 [] [.int v2] _ _
  exact sm_rIW rfl rfl
def fn_52_63 (k_17 : Nat → Int32 → Int32 → Int32 → cm_W → Option (Int32 × cm_W)) (a0 : Nat) (i4 : Int32) (i5 : Int32) (i6 : Int32) (i7 : Int32) (w : cm_W) : Option (Int32 × cm_W) := (if cm_sh w a0 = some (.inl 3) then (fn_51 a0 i7 w).bind fun w5 => k_17 a0 i4 i5 (i6 + (1 : Int32)) w5 else none)
theorem jt_52_63 (k_17 : Nat → Int32 → Int32 → Int32 → cm_W → Option (Int32 × cm_W)) (hk_17 : ∀ (a0 : Nat) (i4 : Int32) (i5 : Int32) (i6 : Int32) (w : cm_W), sm cm_g 52 ck_52 kq_52 17 [(0, .ref a0), (4, .int i4), (5, .int i5), (6, .int i6)] [] w ((k_17 a0 i4 i5 i6 w).map cm_gI)) (a0 : Nat) (i4 : Int32) (i5 : Int32) (i6 : Int32) (i7 : Int32) (w : cm_W) : sm cm_g 52 ck_52 kq_52 63 [(0, .ref a0), (4, .int i4), (5, .int i5), (6, .int i6), (7, .int i7)] [] w ((fn_52_63 k_17 a0 i4 i5 i6 i7 w).map cm_gI) := by
  unfold fn_52_63
  refine sm_seg 2 66 [(0, .ref a0), (4, .int i4), (5, .int i5), (6, .int i6), (7, .int i7)] [.int i7, .ref a0] rfl ?_
  refine sm_gd fun h4 => ?_
  refine sm_cV (as := [.int i7]) (rest := []) rfl rfl rfl rfl h4 (Nat.le_of_ble_eq_true rfl) (ca_51  a0 i7 w) fun w5 h6 => ?_
  show sm _ _ _ _ 69 [(0, .ref a0), (4, .int i4), (5, .int i5), (6, .int i6), (7, .int i7)] [] _ _
  refine sm_seg 2 17 [(0, .ref a0), (4, .int i4), (5, .int i5), (6, .int (i6 + (1 : Int32)))] [] rfl ?_
  exact hk_17 a0 i4 i5 (i6 + (1 : Int32)) w5
def fn_52_75 (i4 : Int32) (i6 : Int32) (w : cm_W) : Option (Int32 × cm_W) := (if ¬ i4 = (-1 : Int32) then some ((-1 : Int32), w) else some (i6, w))
theorem jt_52_75 (i4 : Int32) (i6 : Int32) (w : cm_W) : sm cm_g 52 ck_52 kq_52 75 [(4, .int i4), (6, .int i6)] [] w ((fn_52_75 i4 i6 w).map cm_gI) := by
  unfold fn_52_75
  refine sm_seg 2 78 [(4, .int i4), (6, .int i6)] [.int (-1 : Int32), .int i4] rfl ?_
  refine sm_if (pc1 := 86) (lv1 := []) (pc2 := 81) (lv2 := [(4, .int i4), (6, .int i6)]) (st1 := []) rfl rfl rfl (fun h7 => ?_) (fun h7 => ?_)
  · refine sm_seg 1 87 [] [.int (-1 : Int32)] rfl ?_
    exact sm_rIW rfl rfl
  · refine sm_seg 2 87 [] [.int i6] rfl ?_
    exact sm_rIW rfl rfl
def fn_52_17 : Nat → Nat → Int32 → Int32 → Int32 → cm_W → Option (Int32 × cm_W)
  | 0, _, _, _, _, _ => none
  | n + 1, a0, i4, i5, i6, w => (if (8 : Int32) ≤ i6 then fn_52_75  i4 i6 w else (if cm_sh w a0 = some (.inl 3) then (fn_46 w a0).bind fun v10 => (if (lg_cmp v10 (0 : Int64)) ≤ 0 then fn_52_75  i4 i6 w else (fn_40 w a0).bind fun v13 => (if ¬ i6 = i4 then fn_52_63  (fn_52_17 n) a0 i4 i5 i6 v13 w else (if ¬ i5 = 0 then fn_52_56  a0 v13 w else some (v13, w)))) else none))
theorem jt_52_17 : ∀ (n : Nat) (a0 : Nat) (i4 : Int32) (i5 : Int32) (i6 : Int32) (w : cm_W), sm cm_g 52 ck_52 kq_52 17 [(0, .ref a0), (4, .int i4), (5, .int i5), (6, .int i6)] [] w ((fn_52_17 n a0 i4 i5 i6 w).map cm_gI) := by
  intro n
  induction n with
  | zero => intro a0 i4 i5 i6 w; exact sm_no
  | succ n ih =>
    intro a0 i4 i5 i6 w
    rw [fn_52_17]
    refine sm_seg 2 21 [(0, .ref a0), (4, .int i4), (5, .int i5), (6, .int i6)] [.int (8 : Int32), .int i6] rfl ?_
    refine sm_if (pc1 := 75) (lv1 := [(4, .int i4), (6, .int i6)]) (pc2 := 24) (lv2 := [(0, .ref a0), (4, .int i4), (5, .int i5), (6, .int i6)]) (st1 := []) rfl rfl rfl (fun h8 => ?_) (fun h8 => ?_)
    · exact jt_52_75  i4 i6 w
    · refine sm_seg 1 25 [(0, .ref a0), (4, .int i4), (5, .int i5), (6, .int i6)] [.ref a0] rfl ?_
      refine sm_gd fun h9 => ?_
      refine sm_cV (as := []) (rest := []) rfl rfl rfl rfl h9 (Nat.le_of_ble_eq_true rfl) (ca_46 w a0) fun v10 h11 => ?_
      show sm _ _ _ _ 28 [(0, .ref a0), (4, .int i4), (5, .int i5), (6, .int i6)] [.long v10] _ _
      refine sm_seg 2 30 [(0, .ref a0), (4, .int i4), (5, .int i5), (6, .int i6)] [.int (lg_cmp v10 (0 : Int64))] rfl ?_
      refine sm_if (pc1 := 75) (lv1 := [(4, .int i4), (6, .int i6)]) (pc2 := 33) (lv2 := [(0, .ref a0), (4, .int i4), (5, .int i5), (6, .int i6)]) (st1 := []) rfl rfl rfl (fun h12 => ?_) (fun h12 => ?_)
      · exact jt_52_75  i4 i6 w
      · refine sm_seg 1 34 [(0, .ref a0), (4, .int i4), (5, .int i5), (6, .int i6)] [.ref a0] rfl ?_
        refine sm_cV (as := []) (rest := []) rfl rfl rfl rfl h9 (Nat.le_of_ble_eq_true rfl) (ca_40 w a0) fun v13 h14 => ?_
        show sm _ _ _ _ 37 [(0, .ref a0), (4, .int i4), (5, .int i5), (6, .int i6)] [.int v13] _ _
        refine sm_seg 3 43 [(7, .int v13), (0, .ref a0), (4, .int i4), (5, .int i5), (6, .int i6)] [.int i4, .int i6] rfl ?_
        refine sm_if (pc1 := 63) (lv1 := [(0, .ref a0), (4, .int i4), (5, .int i5), (6, .int i6), (7, .int v13)]) (pc2 := 46) (lv2 := [(7, .int v13), (0, .ref a0), (4, .int i4), (5, .int i5), (6, .int i6)]) (st1 := []) rfl rfl rfl (fun h15 => ?_) (fun h15 => ?_)
        · exact jt_52_63  (fn_52_17 n) ih a0 i4 i5 i6 v13 w
        · refine sm_seg 1 48 [(7, .int v13), (0, .ref a0), (4, .int i4), (5, .int i5), (6, .int i6)] [.int i5] rfl ?_
          refine sm_if (pc1 := 56) (lv1 := [(0, .ref a0), (7, .int v13)]) (pc2 := 51) (lv2 := [(7, .int v13), (0, .ref a0), (4, .int i4), (5, .int i5), (6, .int i6)]) (st1 := []) rfl rfl rfl (fun h16 => ?_) (fun h16 => ?_)
          · exact jt_52_56  a0 v13 w
          · refine sm_seg 2 62 [] [.int v13] rfl ?_
            exact sm_rIW rfl rfl
def fn_52 (a0 : Nat) (a1 : Nat) (i2 : Int32) (i3 : Int32) (i4 : Int32) (i5 : Int32) (w : cm_W) : Option (Int32 × cm_W) := (if cm_sh w a0 = some (.inl 3) then (fn_32 a0 a1 i3 w).bind fun w18 => (if cm_sh w18 a0 = some (.inl 3) then (fn_36 a0 a1 (1 : Int32) i2 (-1 : Int32) w18).bind fun w21 => fn_52_17  cm_N a0 i4 i5 (0 : Int32) w21 else none) else none)
theorem jt_52_0 (a0 : Nat) (a1 : Nat) (i2 : Int32) (i3 : Int32) (i4 : Int32) (i5 : Int32) (w : cm_W) : sm cm_g 52 ck_52 kq_52 0 [(0, .ref a0), (1, .ref a1), (2, .int i2), (3, .int i3), (4, .int i4), (5, .int i5)] [] w ((fn_52 a0 a1 i2 i3 i4 i5 w).map cm_gI) := by
  unfold fn_52
  refine sm_seg 3 3 [(0, .ref a0), (1, .ref a1), (2, .int i2), (3, .int i3), (4, .int i4), (5, .int i5)] [.int i3, .ref a1, .ref a0] rfl ?_
  refine sm_gd fun h17 => ?_
  refine sm_cV (as := [.ref a1, .int i3]) (rest := []) rfl rfl rfl rfl h17 (Nat.le_of_ble_eq_true rfl) (ca_32  a0 a1 i3 w) fun w18 h19 => ?_
  show sm _ _ _ _ 6 [(0, .ref a0), (1, .ref a1), (2, .int i2), (3, .int i3), (4, .int i4), (5, .int i5)] [] _ _
  refine sm_seg 5 11 [(0, .ref a0), (1, .ref a1), (2, .int i2), (3, .int i3), (4, .int i4), (5, .int i5)] [.int (-1 : Int32), .int i2, .int (1 : Int32), .ref a1, .ref a0] rfl ?_
  refine sm_gd fun h20 => ?_
  refine sm_cV (as := [.ref a1, .int (1 : Int32), .int i2, .int (-1 : Int32)]) (rest := []) rfl rfl rfl rfl h20 (Nat.le_of_ble_eq_true rfl) (ca_36  a0 a1 (1 : Int32) i2 (-1 : Int32) w18) fun w21 h22 => ?_
  show sm _ _ _ _ 14 [(0, .ref a0), (1, .ref a1), (2, .int i2), (3, .int i3), (4, .int i4), (5, .int i5)] [] _ _
  refine sm_seg 2 17 [(0, .ref a0), (4, .int i4), (5, .int i5), (6, .int (0 : Int32))] [] rfl ?_
  exact jt_52_17  cm_N a0 i4 i5 (0 : Int32) w21
theorem ca_52 (a0 : Nat) (a1 : Nat) (i2 : Int32) (i3 : Int32) (i4 : Int32) (i5 : Int32) (w : cm_W) : cm_ca cm_g 52 [.ref a0, .ref a1, .int i2, .int i3, .int i4, .int i5] w ((fn_52 a0 a1 i2 i3 i4 i5 w).map cm_gI) := cm_ca_of (cm_me_of rfl rfl) rfl (jt_52_0 a0 a1 i2 i3 i4 i5 w)
-- NailedBoxes$Market.bringsBy(LNailedBoxes$Village;IIII)I
def fn_53_21 (a0 : Nat) (a1 : Nat) (i2 : Int32) (i3 : Int32) (i4 : Int32) (i5 : Int32) (w : cm_W) : Option (Int32 × cm_W) := (if cm_sh w a0 = some (.inl 3) then (fn_32 a0 a1 i5 w).bind fun w2 => (if cm_sh w2 a0 = some (.inl 3) then (fn_36 a0 a1 i2 i3 i4 w2).bind fun w5 => (if cm_sh w5 a0 = some (.inl 3) then (fn_40 w5 a0).bind fun v8 => (fn_38 w5 a0 i4 v8).bind fun v10 => (if (cm_b v10) = 0 then some ((0 : Int32), w5) else (cm_R w5 a0 2).bind fun r13 => (if cm_ga w5 .int r13 i4 = true then some ((v8 - (cm_I w5 r13 i4.toNatClampNeg)), w5) else none)) else none) else none) else none)
theorem jt_53_21 (a0 : Nat) (a1 : Nat) (i2 : Int32) (i3 : Int32) (i4 : Int32) (i5 : Int32) (w : cm_W) : sm cm_g 53 ck_53 kq_53 21 [(0, .ref a0), (1, .ref a1), (2, .int i2), (3, .int i3), (4, .int i4), (5, .int i5)] [] w ((fn_53_21 a0 a1 i2 i3 i4 i5 w).map cm_gI) := by
  unfold fn_53_21
  refine sm_seg 3 25 [(0, .ref a0), (1, .ref a1), (2, .int i2), (3, .int i3), (4, .int i4), (5, .int i5)] [.int i5, .ref a1, .ref a0] rfl ?_
  refine sm_gd fun h1 => ?_
  refine sm_cV (as := [.ref a1, .int i5]) (rest := []) rfl rfl rfl rfl h1 (Nat.le_of_ble_eq_true rfl) (ca_32  a0 a1 i5 w) fun w2 h3 => ?_
  show sm _ _ _ _ 28 [(0, .ref a0), (1, .ref a1), (2, .int i2), (3, .int i3), (4, .int i4), (5, .int i5)] [] _ _
  refine sm_seg 5 34 [(0, .ref a0), (1, .ref a1), (2, .int i2), (3, .int i3), (4, .int i4), (5, .int i5)] [.int i4, .int i3, .int i2, .ref a1, .ref a0] rfl ?_
  refine sm_gd fun h4 => ?_
  refine sm_cV (as := [.ref a1, .int i2, .int i3, .int i4]) (rest := []) rfl rfl rfl rfl h4 (Nat.le_of_ble_eq_true rfl) (ca_36  a0 a1 i2 i3 i4 w2) fun w5 h6 => ?_
  show sm _ _ _ _ 37 [(0, .ref a0), (1, .ref a1), (2, .int i2), (3, .int i3), (4, .int i4), (5, .int i5)] [] _ _
  refine sm_seg 1 38 [(0, .ref a0), (1, .ref a1), (2, .int i2), (3, .int i3), (4, .int i4), (5, .int i5)] [.ref a0] rfl ?_
  refine sm_gd fun h7 => ?_
  refine sm_cV (as := []) (rest := []) rfl rfl rfl rfl h7 (Nat.le_of_ble_eq_true rfl) (ca_40 w5 a0) fun v8 h9 => ?_
  show sm _ _ _ _ 41 [(0, .ref a0), (1, .ref a1), (2, .int i2), (3, .int i3), (4, .int i4), (5, .int i5)] [.int v8] _ _
  refine sm_seg 4 48 [(6, .int v8), (0, .ref a0), (1, .ref a1), (2, .int i2), (3, .int i3), (4, .int i4), (5, .int i5)] [.int v8, .int i4, .ref a0] rfl ?_
  refine sm_cV (as := [.int i4, .int v8]) (rest := []) rfl rfl rfl rfl h7 (Nat.le_of_ble_eq_true rfl) (ca_38 w5 a0 i4 v8) fun v10 h11 => ?_
  show sm _ _ _ _ 51 [(6, .int v8), (0, .ref a0), (1, .ref a1), (2, .int i2), (3, .int i3), (4, .int i4), (5, .int i5)] [.int (cm_b v10)] _ _
  refine sm_if (pc1 := 67) (lv1 := []) (pc2 := 54) (lv2 := [(6, .int v8), (0, .ref a0), (1, .ref a1), (2, .int i2), (3, .int i3), (4, .int i4), (5, .int i5)]) (st1 := []) rfl rfl rfl (fun h12 => ?_) (fun h12 => ?_)
  · refine sm_seg 1 68 [] [.int (0 : Int32)] rfl ?_
    exact sm_rIW rfl rfl
  · refine sm_seg 2 57 [(6, .int v8), (0, .ref a0), (1, .ref a1), (2, .int i2), (3, .int i3), (4, .int i4), (5, .int i5)] [.ref a0, .int v8] rfl ?_
    refine sm_gR rfl h7 rfl rfl fun r13 h14 => ?_
    show sm _ _ _ _ 60 [(6, .int v8), (0, .ref a0), (1, .ref a1), (2, .int i2), (3, .int i3), (4, .int i4), (5, .int i5)] [.ref r13, .int v8] _ _
    refine sm_seg 1 62 [(6, .int v8), (0, .ref a0), (1, .ref a1), (2, .int i2), (3, .int i3), (4, .int i4), (5, .int i5)] [.int i4, .ref r13, .int v8] rfl ?_
    refine sm_gd fun h15 => ?_
    refine sm_ai rfl h15 rfl ?_
    show sm _ _ _ _ 63 [(6, .int v8), (0, .ref a0), (1, .ref a1), (2, .int i2), (3, .int i3), (4, .int i4), (5, .int i5)] [.int (cm_I w5 r13 i4.toNatClampNeg), .int v8] _ _
    refine sm_seg 2 68 [] [.int (v8 - (cm_I w5 r13 i4.toNatClampNeg))] rfl ?_
    exact sm_rIW rfl rfl
def fn_53 (a0 : Nat) (a1 : Nat) (i2 : Int32) (i3 : Int32) (i4 : Int32) (i5 : Int32) (w : cm_W) : Option (Int32 × cm_W) := (if cm_sh w a1 = some (.inl 9) then (cm_R w a1 1).bind fun r17 => (if cm_sh w r17 = some (.inl 7) then (fn_7 w r17 i4).bind fun v20 => (if (cm_b v20) = 0 then some ((-1 : Int32), w) else (if i4 < (8 : Int32) then fn_53_21  a0 a1 i2 i3 i4 i5 w else some ((-1 : Int32), w))) else none) else none)
theorem jt_53_0 (a0 : Nat) (a1 : Nat) (i2 : Int32) (i3 : Int32) (i4 : Int32) (i5 : Int32) (w : cm_W) : sm cm_g 53 ck_53 kq_53 0 [(0, .ref a0), (1, .ref a1), (2, .int i2), (3, .int i3), (4, .int i4), (5, .int i5)] [] w ((fn_53 a0 a1 i2 i3 i4 i5 w).map cm_gI) := by
  unfold fn_53
  refine sm_seg 1 1 [(0, .ref a0), (1, .ref a1), (2, .int i2), (3, .int i3), (4, .int i4), (5, .int i5)] [.ref a1] rfl ?_
  refine sm_gd fun h16 => ?_
  refine sm_gR rfl h16 rfl rfl fun r17 h18 => ?_
  show sm _ _ _ _ 4 [(0, .ref a0), (1, .ref a1), (2, .int i2), (3, .int i3), (4, .int i4), (5, .int i5)] [.ref r17] _ _
  refine sm_seg 1 6 [(0, .ref a0), (1, .ref a1), (2, .int i2), (3, .int i3), (4, .int i4), (5, .int i5)] [.int i4, .ref r17] rfl ?_
  refine sm_gd fun h19 => ?_
  refine sm_cV (as := [.int i4]) (rest := []) rfl rfl rfl rfl h19 (Nat.le_of_ble_eq_true rfl) (ca_7 w r17 i4) fun v20 h21 => ?_
  show sm _ _ _ _ 9 [(0, .ref a0), (1, .ref a1), (2, .int i2), (3, .int i3), (4, .int i4), (5, .int i5)] [.int (cm_b v20)] _ _
  refine sm_if (pc1 := 19) (lv1 := []) (pc2 := 12) (lv2 := [(0, .ref a0), (1, .ref a1), (2, .int i2), (3, .int i3), (4, .int i4), (5, .int i5)]) (st1 := []) rfl rfl rfl (fun h22 => ?_) (fun h22 => ?_)
  · refine sm_seg 1 20 [] [.int (-1 : Int32)] rfl ?_
    exact sm_rIW rfl rfl
  · refine sm_seg 2 16 [(0, .ref a0), (1, .ref a1), (2, .int i2), (3, .int i3), (4, .int i4), (5, .int i5)] [.int (8 : Int32), .int i4] rfl ?_
    refine sm_if (pc1 := 21) (lv1 := [(0, .ref a0), (1, .ref a1), (2, .int i2), (3, .int i3), (4, .int i4), (5, .int i5)]) (pc2 := 19) (lv2 := []) (st1 := []) rfl rfl rfl (fun h23 => ?_) (fun h23 => ?_)
    · exact jt_53_21  a0 a1 i2 i3 i4 i5 w
    · refine sm_seg 1 20 [] [.int (-1 : Int32)] rfl ?_
      exact sm_rIW rfl rfl
theorem ca_53 (a0 : Nat) (a1 : Nat) (i2 : Int32) (i3 : Int32) (i4 : Int32) (i5 : Int32) (w : cm_W) : cm_ca cm_g 53 [.ref a0, .ref a1, .int i2, .int i3, .int i4, .int i5] w ((fn_53 a0 a1 i2 i3 i4 i5 w).map cm_gI) := cm_ca_of (cm_me_of rfl rfl) rfl (jt_53_0 a0 a1 i2 i3 i4 i5 w)
-- NailedBoxes$Reader.kindOf(I)I
def fn_57_28 (w : cm_W) (i0 : Int32) : Option Int32 := (if i0 < (48 : Int32) then some (3 : Int32) else (if (57 : Int32) < i0 then some (3 : Int32) else some (2 : Int32)))
theorem jt_57_28 (w : cm_W) (i0 : Int32) : sm cm_g 57 ck_57 kq_57 28 [(0, .int i0)] [] w ((fn_57_28 w i0).map (cm_fI w)) := by
  unfold fn_57_28
  refine sm_seg 2 31 [(0, .int i0)] [.int (48 : Int32), .int i0] rfl ?_
  refine sm_if (pc1 := 44) (lv1 := []) (pc2 := 34) (lv2 := [(0, .int i0)]) (st1 := []) rfl rfl rfl (fun h1 => ?_) (fun h1 => ?_)
  · refine sm_seg 1 45 [] [.int (3 : Int32)] rfl ?_
    exact sm_rI rfl rfl
  · refine sm_seg 2 37 [(0, .int i0)] [.int (57 : Int32), .int i0] rfl ?_
    refine sm_if (pc1 := 44) (lv1 := []) (pc2 := 40) (lv2 := [(0, .int i0)]) (st1 := []) rfl rfl rfl (fun h2 => ?_) (fun h2 => ?_)
    · refine sm_seg 1 45 [] [.int (3 : Int32)] rfl ?_
      exact sm_rI rfl rfl
    · refine sm_seg 2 45 [] [.int (2 : Int32)] rfl ?_
      exact sm_rI rfl rfl
def fn_57_14 (w : cm_W) (i0 : Int32) : Option Int32 := (if i0 < (97 : Int32) then fn_57_28 w i0 else (if (122 : Int32) < i0 then fn_57_28 w i0 else some (1 : Int32)))
theorem jt_57_14 (w : cm_W) (i0 : Int32) : sm cm_g 57 ck_57 kq_57 14 [(0, .int i0)] [] w ((fn_57_14 w i0).map (cm_fI w)) := by
  unfold fn_57_14
  refine sm_seg 2 17 [(0, .int i0)] [.int (97 : Int32), .int i0] rfl ?_
  refine sm_if (pc1 := 28) (lv1 := [(0, .int i0)]) (pc2 := 20) (lv2 := [(0, .int i0)]) (st1 := []) rfl rfl rfl (fun h3 => ?_) (fun h3 => ?_)
  · exact jt_57_28 w i0
  · refine sm_seg 2 23 [(0, .int i0)] [.int (122 : Int32), .int i0] rfl ?_
    refine sm_if (pc1 := 28) (lv1 := [(0, .int i0)]) (pc2 := 26) (lv2 := [(0, .int i0)]) (st1 := []) rfl rfl rfl (fun h4 => ?_) (fun h4 => ?_)
    · exact jt_57_28 w i0
    · refine sm_seg 1 27 [(0, .int i0)] [.int (1 : Int32)] rfl ?_
      exact sm_rI rfl rfl
def fn_57 (w : cm_W) (i0 : Int32) : Option Int32 := (if i0 = (32 : Int32) then some (4 : Int32) else (if ¬ i0 = (10 : Int32) then fn_57_14 w i0 else some (4 : Int32)))
theorem jt_57_0 (w : cm_W) (i0 : Int32) : sm cm_g 57 ck_57 kq_57 0 [(0, .int i0)] [] w ((fn_57 w i0).map (cm_fI w)) := by
  unfold fn_57
  refine sm_seg 2 3 [(0, .int i0)] [.int (32 : Int32), .int i0] rfl ?_
  refine sm_if (pc1 := 12) (lv1 := []) (pc2 := 6) (lv2 := [(0, .int i0)]) (st1 := []) rfl rfl rfl (fun h5 => ?_) (fun h5 => ?_)
  · refine sm_seg 1 13 [] [.int (4 : Int32)] rfl ?_
    exact sm_rI rfl rfl
  · refine sm_seg 2 9 [(0, .int i0)] [.int (10 : Int32), .int i0] rfl ?_
    refine sm_if (pc1 := 14) (lv1 := [(0, .int i0)]) (pc2 := 12) (lv2 := []) (st1 := []) rfl rfl rfl (fun h6 => ?_) (fun h6 => ?_)
    · exact jt_57_14 w i0
    · refine sm_seg 1 13 [] [.int (4 : Int32)] rfl ?_
      exact sm_rI rfl rfl
theorem ca_57 (w : cm_W) (i0 : Int32) : cm_ca cm_g 57 [.int i0] w ((fn_57 w i0).map (cm_fI w)) := cm_ca_of (cm_me_of rfl rfl) rfl (jt_57_0 w i0)
