-- NailedBoxes$Reader.beginToken(II)V
def fn_58 (a0 : Nat) (i1 : Int32) (i2 : Int32) (w : cm_W) : Option cm_W := (if cm_sh w a0 = some (.inl 4) then (cm_R w a0 0).bind fun r2 => (cm_al w r2).bind fun n4 => (if (Int32.ofNat n4) ≤ (cm_I w a0 5) then some w else (cm_R w a0 0).bind fun r7 => (if cm_ga w .int r7 (cm_I w a0 5) = true then (if cm_w2 4 30 r7 = true then (cm_R (cm_sI w r7 (cm_I w a0 5).toNatClampNeg i1) a0 1).bind fun r11 => (if cm_ga w .int r11 (cm_I (cm_sI w r7 (cm_I w a0 5).toNatClampNeg i1) a0 5) = true then (if cm_w2 4 30 r11 = true then (cm_R (cm_sI (cm_sI w r7 (cm_I w a0 5).toNatClampNeg i1) r11 (cm_I (cm_sI w r7 (cm_I w a0 5).toNatClampNeg i1) a0 5).toNatClampNeg i2) a0 2).bind fun r15 => (if cm_ga w .int r15 (cm_I (cm_sI (cm_sI w r7 (cm_I w a0 5).toNatClampNeg i1) r11 (cm_I (cm_sI w r7 (cm_I w a0 5).toNatClampNeg i1) a0 5).toNatClampNeg i2) a0 5) = true then (if cm_w2 4 30 r15 = true then (cm_R (cm_sI (cm_sI (cm_sI w r7 (cm_I w a0 5).toNatClampNeg i1) r11 (cm_I (cm_sI w r7 (cm_I w a0 5).toNatClampNeg i1) a0 5).toNatClampNeg i2) r15 (cm_I (cm_sI (cm_sI w r7 (cm_I w a0 5).toNatClampNeg i1) r11 (cm_I (cm_sI w r7 (cm_I w a0 5).toNatClampNeg i1) a0 5).toNatClampNeg i2) a0 5).toNatClampNeg (0 : Int32)) a0 3).bind fun r19 => (if cm_ga w .long r19 (cm_I (cm_sI (cm_sI (cm_sI w r7 (cm_I w a0 5).toNatClampNeg i1) r11 (cm_I (cm_sI w r7 (cm_I w a0 5).toNatClampNeg i1) a0 5).toNatClampNeg i2) r15 (cm_I (cm_sI (cm_sI w r7 (cm_I w a0 5).toNatClampNeg i1) r11 (cm_I (cm_sI w r7 (cm_I w a0 5).toNatClampNeg i1) a0 5).toNatClampNeg i2) a0 5).toNatClampNeg (0 : Int32)) a0 5) = true then (if cm_w2 4 30 r19 = true then (if cm_w2 4 30 a0 = true then some (cm_sI (cm_sL (cm_sI (cm_sI (cm_sI w r7 (cm_I w a0 5).toNatClampNeg i1) r11 (cm_I (cm_sI w r7 (cm_I w a0 5).toNatClampNeg i1) a0 5).toNatClampNeg i2) r15 (cm_I (cm_sI (cm_sI w r7 (cm_I w a0 5).toNatClampNeg i1) r11 (cm_I (cm_sI w r7 (cm_I w a0 5).toNatClampNeg i1) a0 5).toNatClampNeg i2) a0 5).toNatClampNeg (0 : Int32)) r19 (cm_I (cm_sI (cm_sI (cm_sI w r7 (cm_I w a0 5).toNatClampNeg i1) r11 (cm_I (cm_sI w r7 (cm_I w a0 5).toNatClampNeg i1) a0 5).toNatClampNeg i2) r15 (cm_I (cm_sI (cm_sI w r7 (cm_I w a0 5).toNatClampNeg i1) r11 (cm_I (cm_sI w r7 (cm_I w a0 5).toNatClampNeg i1) a0 5).toNatClampNeg i2) a0 5).toNatClampNeg (0 : Int32)) a0 5).toNatClampNeg (0 : Int64)) a0 5 ((cm_I (cm_sL (cm_sI (cm_sI (cm_sI w r7 (cm_I w a0 5).toNatClampNeg i1) r11 (cm_I (cm_sI w r7 (cm_I w a0 5).toNatClampNeg i1) a0 5).toNatClampNeg i2) r15 (cm_I (cm_sI (cm_sI w r7 (cm_I w a0 5).toNatClampNeg i1) r11 (cm_I (cm_sI w r7 (cm_I w a0 5).toNatClampNeg i1) a0 5).toNatClampNeg i2) a0 5).toNatClampNeg (0 : Int32)) r19 (cm_I (cm_sI (cm_sI (cm_sI w r7 (cm_I w a0 5).toNatClampNeg i1) r11 (cm_I (cm_sI w r7 (cm_I w a0 5).toNatClampNeg i1) a0 5).toNatClampNeg i2) r15 (cm_I (cm_sI (cm_sI w r7 (cm_I w a0 5).toNatClampNeg i1) r11 (cm_I (cm_sI w r7 (cm_I w a0 5).toNatClampNeg i1) a0 5).toNatClampNeg i2) a0 5).toNatClampNeg (0 : Int32)) a0 5).toNatClampNeg (0 : Int64)) a0 5) + (1 : Int32))) else none) else none) else none) else none) else none) else none) else none) else none) else none)) else none)
theorem jt_58_0 (a0 : Nat) (i1 : Int32) (i2 : Int32) (w : cm_W) : sm cm_g 58 ck_58 kq_58 0 [(0, .ref a0), (1, .int i1), (2, .int i2)] [] w ((fn_58 a0 i1 i2 w).map cm_gV) := by
  unfold fn_58
  refine sm_seg 1 1 [(0, .ref a0), (1, .int i1), (2, .int i2)] [.ref a0] rfl ?_
  refine sm_gd fun h1 => ?_
  refine sm_gI rfl h1 rfl ?_
  show sm _ _ _ _ 4 [(0, .ref a0), (1, .int i1), (2, .int i2)] [.int (cm_I w a0 5)] _ _
  refine sm_seg 1 5 [(0, .ref a0), (1, .int i1), (2, .int i2)] [.ref a0, .int (cm_I w a0 5)] rfl ?_
  refine sm_gR rfl h1 rfl rfl fun r2 h3 => ?_
  show sm _ _ _ _ 8 [(0, .ref a0), (1, .int i1), (2, .int i2)] [.ref r2, .int (cm_I w a0 5)] _ _
  refine sm_len rfl rfl fun n4 h5 => ?_
  show sm _ _ _ _ 9 [(0, .ref a0), (1, .int i1), (2, .int i2)] [.int (Int32.ofNat n4), .int (cm_I w a0 5)] _ _
  refine sm_if (pc1 := 62) (lv1 := []) (pc2 := 12) (lv2 := [(0, .ref a0), (1, .int i1), (2, .int i2)]) (st1 := []) rfl rfl rfl (fun h6 => ?_) (fun h6 => ?_)
  · exact sm_rV rfl rfl
  · refine sm_seg 1 13 [(0, .ref a0), (1, .int i1), (2, .int i2)] [.ref a0] rfl ?_
    refine sm_gR rfl h1 rfl rfl fun r7 h8 => ?_
    show sm _ _ _ _ 16 [(0, .ref a0), (1, .int i1), (2, .int i2)] [.ref r7] _ _
    refine sm_seg 1 17 [(0, .ref a0), (1, .int i1), (2, .int i2)] [.ref a0, .ref r7] rfl ?_
    refine sm_gI rfl h1 rfl ?_
    show sm _ _ _ _ 20 [(0, .ref a0), (1, .int i1), (2, .int i2)] [.int (cm_I w a0 5), .ref r7] _ _
    refine sm_seg 1 21 [(0, .ref a0), (1, .int i1), (2, .int i2)] [.int i1, .int (cm_I w a0 5), .ref r7] rfl ?_
    refine sm_gd fun h9 => ?_
    refine sm_gd fun h10 => ?_
    refine sm_si rfl h9 h10 rfl rfl ?_
    show sm _ _ _ _ 22 [(0, .ref a0), (1, .int i1), (2, .int i2)] [] _ _
    refine sm_seg 1 23 [(0, .ref a0), (1, .int i1), (2, .int i2)] [.ref a0] rfl ?_
    refine sm_gR rfl h1 rfl rfl fun r11 h12 => ?_
    show sm _ _ _ _ 26 [(0, .ref a0), (1, .int i1), (2, .int i2)] [.ref r11] _ _
    refine sm_seg 1 27 [(0, .ref a0), (1, .int i1), (2, .int i2)] [.ref a0, .ref r11] rfl ?_
    refine sm_gI rfl h1 rfl ?_
    show sm _ _ _ _ 30 [(0, .ref a0), (1, .int i1), (2, .int i2)] [.int (cm_I (cm_sI w r7 (cm_I w a0 5).toNatClampNeg i1) a0 5), .ref r11] _ _
    refine sm_seg 1 31 [(0, .ref a0), (1, .int i1), (2, .int i2)] [.int i2, .int (cm_I (cm_sI w r7 (cm_I w a0 5).toNatClampNeg i1) a0 5), .ref r11] rfl ?_
    refine sm_gd fun h13 => ?_
    refine sm_gd fun h14 => ?_
    refine sm_si rfl h13 h14 rfl rfl ?_
    show sm _ _ _ _ 32 [(0, .ref a0), (1, .int i1), (2, .int i2)] [] _ _
    refine sm_seg 1 33 [(0, .ref a0), (1, .int i1), (2, .int i2)] [.ref a0] rfl ?_
    refine sm_gR rfl h1 rfl rfl fun r15 h16 => ?_
    show sm _ _ _ _ 36 [(0, .ref a0), (1, .int i1), (2, .int i2)] [.ref r15] _ _
    refine sm_seg 1 37 [(0, .ref a0), (1, .int i1), (2, .int i2)] [.ref a0, .ref r15] rfl ?_
    refine sm_gI rfl h1 rfl ?_
    show sm _ _ _ _ 40 [(0, .ref a0), (1, .int i1), (2, .int i2)] [.int (cm_I (cm_sI (cm_sI w r7 (cm_I w a0 5).toNatClampNeg i1) r11 (cm_I (cm_sI w r7 (cm_I w a0 5).toNatClampNeg i1) a0 5).toNatClampNeg i2) a0 5), .ref r15] _ _
    refine sm_seg 1 41 [(0, .ref a0), (1, .int i1), (2, .int i2)] [.int (0 : Int32), .int (cm_I (cm_sI (cm_sI w r7 (cm_I w a0 5).toNatClampNeg i1) r11 (cm_I (cm_sI w r7 (cm_I w a0 5).toNatClampNeg i1) a0 5).toNatClampNeg i2) a0 5), .ref r15] rfl ?_
    refine sm_gd fun h17 => ?_
    refine sm_gd fun h18 => ?_
    refine sm_si rfl h17 h18 rfl rfl ?_
    show sm _ _ _ _ 42 [(0, .ref a0), (1, .int i1), (2, .int i2)] [] _ _
    refine sm_seg 1 43 [(0, .ref a0), (1, .int i1), (2, .int i2)] [.ref a0] rfl ?_
    refine sm_gR rfl h1 rfl rfl fun r19 h20 => ?_
    show sm _ _ _ _ 46 [(0, .ref a0), (1, .int i1), (2, .int i2)] [.ref r19] _ _
    refine sm_seg 1 47 [(0, .ref a0), (1, .int i1), (2, .int i2)] [.ref a0, .ref r19] rfl ?_
    refine sm_gI rfl h1 rfl ?_
    show sm _ _ _ _ 50 [(0, .ref a0), (1, .int i1), (2, .int i2)] [.int (cm_I (cm_sI (cm_sI (cm_sI w r7 (cm_I w a0 5).toNatClampNeg i1) r11 (cm_I (cm_sI w r7 (cm_I w a0 5).toNatClampNeg i1) a0 5).toNatClampNeg i2) r15 (cm_I (cm_sI (cm_sI w r7 (cm_I w a0 5).toNatClampNeg i1) r11 (cm_I (cm_sI w r7 (cm_I w a0 5).toNatClampNeg i1) a0 5).toNatClampNeg i2) a0 5).toNatClampNeg (0 : Int32)) a0 5), .ref r19] _ _
    refine sm_seg 1 51 [(0, .ref a0), (1, .int i1), (2, .int i2)] [.long (0 : Int64), .int (cm_I (cm_sI (cm_sI (cm_sI w r7 (cm_I w a0 5).toNatClampNeg i1) r11 (cm_I (cm_sI w r7 (cm_I w a0 5).toNatClampNeg i1) a0 5).toNatClampNeg i2) r15 (cm_I (cm_sI (cm_sI w r7 (cm_I w a0 5).toNatClampNeg i1) r11 (cm_I (cm_sI w r7 (cm_I w a0 5).toNatClampNeg i1) a0 5).toNatClampNeg i2) a0 5).toNatClampNeg (0 : Int32)) a0 5), .ref r19] rfl ?_
    refine sm_gd fun h21 => ?_
    refine sm_gd fun h22 => ?_
    refine sm_sl rfl h21 h22 rfl rfl ?_
    show sm _ _ _ _ 52 [(0, .ref a0), (1, .int i1), (2, .int i2)] [] _ _
    refine sm_seg 2 54 [(0, .ref a0), (1, .int i1), (2, .int i2)] [.ref a0, .ref a0] rfl ?_
    refine sm_gI rfl h1 rfl ?_
    show sm _ _ _ _ 57 [(0, .ref a0), (1, .int i1), (2, .int i2)] [.int (cm_I (cm_sL (cm_sI (cm_sI (cm_sI w r7 (cm_I w a0 5).toNatClampNeg i1) r11 (cm_I (cm_sI w r7 (cm_I w a0 5).toNatClampNeg i1) a0 5).toNatClampNeg i2) r15 (cm_I (cm_sI (cm_sI w r7 (cm_I w a0 5).toNatClampNeg i1) r11 (cm_I (cm_sI w r7 (cm_I w a0 5).toNatClampNeg i1) a0 5).toNatClampNeg i2) a0 5).toNatClampNeg (0 : Int32)) r19 (cm_I (cm_sI (cm_sI (cm_sI w r7 (cm_I w a0 5).toNatClampNeg i1) r11 (cm_I (cm_sI w r7 (cm_I w a0 5).toNatClampNeg i1) a0 5).toNatClampNeg i2) r15 (cm_I (cm_sI (cm_sI w r7 (cm_I w a0 5).toNatClampNeg i1) r11 (cm_I (cm_sI w r7 (cm_I w a0 5).toNatClampNeg i1) a0 5).toNatClampNeg i2) a0 5).toNatClampNeg (0 : Int32)) a0 5).toNatClampNeg (0 : Int64)) a0 5), .ref a0] _ _
    refine sm_seg 2 59 [(0, .ref a0), (1, .int i1), (2, .int i2)] [.int ((cm_I (cm_sL (cm_sI (cm_sI (cm_sI w r7 (cm_I w a0 5).toNatClampNeg i1) r11 (cm_I (cm_sI w r7 (cm_I w a0 5).toNatClampNeg i1) a0 5).toNatClampNeg i2) r15 (cm_I (cm_sI (cm_sI w r7 (cm_I w a0 5).toNatClampNeg i1) r11 (cm_I (cm_sI w r7 (cm_I w a0 5).toNatClampNeg i1) a0 5).toNatClampNeg i2) a0 5).toNatClampNeg (0 : Int32)) r19 (cm_I (cm_sI (cm_sI (cm_sI w r7 (cm_I w a0 5).toNatClampNeg i1) r11 (cm_I (cm_sI w r7 (cm_I w a0 5).toNatClampNeg i1) a0 5).toNatClampNeg i2) r15 (cm_I (cm_sI (cm_sI w r7 (cm_I w a0 5).toNatClampNeg i1) r11 (cm_I (cm_sI w r7 (cm_I w a0 5).toNatClampNeg i1) a0 5).toNatClampNeg i2) a0 5).toNatClampNeg (0 : Int32)) a0 5).toNatClampNeg (0 : Int64)) a0 5) + (1 : Int32)), .ref a0] rfl ?_
    refine sm_gd fun h23 => ?_
    refine sm_pI rfl h1 rfl h23 rfl ?_
    show sm _ _ _ _ 62 [] [] _ _
    exact sm_rV rfl rfl
theorem ca_58 (a0 : Nat) (i1 : Int32) (i2 : Int32) (w : cm_W) : cm_ca cm_g 58 [.ref a0, .int i1, .int i2] w ((fn_58 a0 i1 i2 w).map cm_gV) := cm_ca_of (cm_me_of rfl rfl) rfl (jt_58_0 a0 i1 i2 w)
-- NailedBoxes$Reader.lengthen(I)V
def fn_59 (a0 : Nat) (i1 : Int32) (w : cm_W) : Option cm_W := (if cm_sh w a0 = some (.inl 4) then (if ((cm_I w a0 5) - (1 : Int32)) < 0 then some w else (cm_R w a0 2).bind fun r3 => (if cm_ga w .int r3 ((cm_I w a0 5) - (1 : Int32)) = true then (if cm_w2 4 30 r3 = true then (cm_R (cm_sI w r3 ((cm_I w a0 5) - (1 : Int32)).toNatClampNeg ((cm_I w r3 ((cm_I w a0 5) - (1 : Int32)).toNatClampNeg) + (1 : Int32))) a0 3).bind fun r7 => (cm_R (cm_sI w r3 ((cm_I w a0 5) - (1 : Int32)).toNatClampNeg ((cm_I w r3 ((cm_I w a0 5) - (1 : Int32)).toNatClampNeg) + (1 : Int32))) a0 1).bind fun r9 => (if cm_ga w .int r9 ((cm_I w a0 5) - (1 : Int32)) = true then (if ¬ (cm_I (cm_sI w r3 ((cm_I w a0 5) - (1 : Int32)).toNatClampNeg ((cm_I w r3 ((cm_I w a0 5) - (1 : Int32)).toNatClampNeg) + (1 : Int32))) r9 ((cm_I w a0 5) - (1 : Int32)).toNatClampNeg) = (2 : Int32) then (cm_R (cm_sI w r3 ((cm_I w a0 5) - (1 : Int32)).toNatClampNeg ((cm_I w r3 ((cm_I w a0 5) - (1 : Int32)).toNatClampNeg) + (1 : Int32))) a0 3).bind fun r13 => (if cm_ga w .long r13 ((cm_I w a0 5) - (1 : Int32)) = true then (if cm_ga w .long r7 ((cm_I w a0 5) - (1 : Int32)) = true then (if cm_w2 4 30 r7 = true then some (cm_sL (cm_sI w r3 ((cm_I w a0 5) - (1 : Int32)).toNatClampNeg ((cm_I w r3 ((cm_I w a0 5) - (1 : Int32)).toNatClampNeg) + (1 : Int32))) r7 ((cm_I w a0 5) - (1 : Int32)).toNatClampNeg (((cm_L (cm_sI w r3 ((cm_I w a0 5) - (1 : Int32)).toNatClampNeg ((cm_I w r3 ((cm_I w a0 5) - (1 : Int32)).toNatClampNeg) + (1 : Int32))) r13 ((cm_I w a0 5) - (1 : Int32)).toNatClampNeg) <<< (Int32.toInt64 (8 : Int32) &&& 63)) ||| (Int32.toInt64 (i1 &&& (255 : Int32))))) else none) else none) else none) else (cm_R (cm_sI w r3 ((cm_I w a0 5) - (1 : Int32)).toNatClampNeg ((cm_I w r3 ((cm_I w a0 5) - (1 : Int32)).toNatClampNeg) + (1 : Int32))) a0 3).bind fun r18 => (if cm_ga w .long r18 ((cm_I w a0 5) - (1 : Int32)) = true then (if cm_ga w .long r7 ((cm_I w a0 5) - (1 : Int32)) = true then (if cm_w2 4 30 r7 = true then some (cm_sL (cm_sI w r3 ((cm_I w a0 5) - (1 : Int32)).toNatClampNeg ((cm_I w r3 ((cm_I w a0 5) - (1 : Int32)).toNatClampNeg) + (1 : Int32))) r7 ((cm_I w a0 5) - (1 : Int32)).toNatClampNeg (((cm_L (cm_sI w r3 ((cm_I w a0 5) - (1 : Int32)).toNatClampNeg ((cm_I w r3 ((cm_I w a0 5) - (1 : Int32)).toNatClampNeg) + (1 : Int32))) r18 ((cm_I w a0 5) - (1 : Int32)).toNatClampNeg) * (10 : Int64)) + (Int32.toInt64 (i1 - (48 : Int32))))) else none) else none) else none)) else none) else none) else none)) else none)
theorem jt_59_0 (a0 : Nat) (i1 : Int32) (w : cm_W) : sm cm_g 59 ck_59 kq_59 0 [(0, .ref a0), (1, .int i1)] [] w ((fn_59 a0 i1 w).map cm_gV) := by
  unfold fn_59
  refine sm_seg 1 1 [(0, .ref a0), (1, .int i1)] [.ref a0] rfl ?_
  refine sm_gd fun h1 => ?_
  refine sm_gI rfl h1 rfl ?_
  show sm _ _ _ _ 4 [(0, .ref a0), (1, .int i1)] [.int (cm_I w a0 5)] _ _
  refine sm_seg 4 8 [(2, .int ((cm_I w a0 5) - (1 : Int32))), (0, .ref a0), (1, .int i1)] [.int ((cm_I w a0 5) - (1 : Int32))] rfl ?_
  refine sm_if (pc1 := 72) (lv1 := []) (pc2 := 11) (lv2 := [(2, .int ((cm_I w a0 5) - (1 : Int32))), (0, .ref a0), (1, .int i1)]) (st1 := []) rfl rfl rfl (fun h2 => ?_) (fun h2 => ?_)
  · exact sm_rV rfl rfl
  · refine sm_seg 1 12 [(2, .int ((cm_I w a0 5) - (1 : Int32))), (0, .ref a0), (1, .int i1)] [.ref a0] rfl ?_
    refine sm_gR rfl h1 rfl rfl fun r3 h4 => ?_
    show sm _ _ _ _ 15 [(2, .int ((cm_I w a0 5) - (1 : Int32))), (0, .ref a0), (1, .int i1)] [.ref r3] _ _
    refine sm_seg 2 17 [(2, .int ((cm_I w a0 5) - (1 : Int32))), (0, .ref a0), (1, .int i1)] [.int ((cm_I w a0 5) - (1 : Int32)), .ref r3, .int ((cm_I w a0 5) - (1 : Int32)), .ref r3] rfl ?_
    refine sm_gd fun h5 => ?_
    refine sm_ai rfl h5 rfl ?_
    show sm _ _ _ _ 18 [(2, .int ((cm_I w a0 5) - (1 : Int32))), (0, .ref a0), (1, .int i1)] [.int (cm_I w r3 ((cm_I w a0 5) - (1 : Int32)).toNatClampNeg), .int ((cm_I w a0 5) - (1 : Int32)), .ref r3] _ _
    refine sm_seg 2 20 [(2, .int ((cm_I w a0 5) - (1 : Int32))), (0, .ref a0), (1, .int i1)] [.int ((cm_I w r3 ((cm_I w a0 5) - (1 : Int32)).toNatClampNeg) + (1 : Int32)), .int ((cm_I w a0 5) - (1 : Int32)), .ref r3] rfl ?_
    refine sm_gd fun h6 => ?_
    refine sm_si rfl h5 h6 rfl rfl ?_
    show sm _ _ _ _ 21 [(2, .int ((cm_I w a0 5) - (1 : Int32))), (0, .ref a0), (1, .int i1)] [] _ _
    refine sm_seg 1 22 [(2, .int ((cm_I w a0 5) - (1 : Int32))), (0, .ref a0), (1, .int i1)] [.ref a0] rfl ?_
    refine sm_gR rfl h1 rfl rfl fun r7 h8 => ?_
    show sm _ _ _ _ 25 [(2, .int ((cm_I w a0 5) - (1 : Int32))), (0, .ref a0), (1, .int i1)] [.ref r7] _ _
    refine sm_seg 2 27 [(2, .int ((cm_I w a0 5) - (1 : Int32))), (0, .ref a0), (1, .int i1)] [.ref a0, .int ((cm_I w a0 5) - (1 : Int32)), .ref r7] rfl ?_
    refine sm_gR rfl h1 rfl rfl fun r9 h10 => ?_
    show sm _ _ _ _ 30 [(2, .int ((cm_I w a0 5) - (1 : Int32))), (0, .ref a0), (1, .int i1)] [.ref r9, .int ((cm_I w a0 5) - (1 : Int32)), .ref r7] _ _
    refine sm_seg 1 31 [(2, .int ((cm_I w a0 5) - (1 : Int32))), (0, .ref a0), (1, .int i1)] [.int ((cm_I w a0 5) - (1 : Int32)), .ref r9, .int ((cm_I w a0 5) - (1 : Int32)), .ref r7] rfl ?_
    refine sm_gd fun h11 => ?_
    refine sm_ai rfl h11 rfl ?_
    show sm _ _ _ _ 32 [(2, .int ((cm_I w a0 5) - (1 : Int32))), (0, .ref a0), (1, .int i1)] [.int (cm_I (cm_sI w r3 ((cm_I w a0 5) - (1 : Int32)).toNatClampNeg ((cm_I w r3 ((cm_I w a0 5) - (1 : Int32)).toNatClampNeg) + (1 : Int32))) r9 ((cm_I w a0 5) - (1 : Int32)).toNatClampNeg), .int ((cm_I w a0 5) - (1 : Int32)), .ref r7] _ _
    refine sm_seg 1 33 [(2, .int ((cm_I w a0 5) - (1 : Int32))), (0, .ref a0), (1, .int i1)] [.int (2 : Int32), .int (cm_I (cm_sI w r3 ((cm_I w a0 5) - (1 : Int32)).toNatClampNeg ((cm_I w r3 ((cm_I w a0 5) - (1 : Int32)).toNatClampNeg) + (1 : Int32))) r9 ((cm_I w a0 5) - (1 : Int32)).toNatClampNeg), .int ((cm_I w a0 5) - (1 : Int32)), .ref r7] rfl ?_
    refine sm_if (pc1 := 55) (lv1 := [(0, .ref a0), (1, .int i1), (2, .int ((cm_I w a0 5) - (1 : Int32)))]) (pc2 := 36) (lv2 := [(2, .int ((cm_I w a0 5) - (1 : Int32))), (0, .ref a0), (1, .int i1)]) (st1 := [.int ((cm_I w a0 5) - (1 : Int32)), .ref r7]) rfl rfl rfl (fun h12 => ?_) (fun h12 => ?_)
    · refine sm_seg 1 56 [(0, .ref a0), (1, .int i1), (2, .int ((cm_I w a0 5) - (1 : Int32)))] [.ref a0, .int ((cm_I w a0 5) - (1 : Int32)), .ref r7] rfl ?_
      refine sm_gR rfl h1 rfl rfl fun r13 h14 => ?_
      show sm _ _ _ _ 59 [(0, .ref a0), (1, .int i1), (2, .int ((cm_I w a0 5) - (1 : Int32)))] [.ref r13, .int ((cm_I w a0 5) - (1 : Int32)), .ref r7] _ _
      refine sm_seg 1 60 [(0, .ref a0), (1, .int i1), (2, .int ((cm_I w a0 5) - (1 : Int32)))] [.int ((cm_I w a0 5) - (1 : Int32)), .ref r13, .int ((cm_I w a0 5) - (1 : Int32)), .ref r7] rfl ?_
      refine sm_gd fun h15 => ?_
      refine sm_al rfl h15 rfl ?_
      show sm _ _ _ _ 61 [(0, .ref a0), (1, .int i1), (2, .int ((cm_I w a0 5) - (1 : Int32)))] [.long (cm_L (cm_sI w r3 ((cm_I w a0 5) - (1 : Int32)).toNatClampNeg ((cm_I w r3 ((cm_I w a0 5) - (1 : Int32)).toNatClampNeg) + (1 : Int32))) r13 ((cm_I w a0 5) - (1 : Int32)).toNatClampNeg), .int ((cm_I w a0 5) - (1 : Int32)), .ref r7] _ _
      refine sm_seg 7 71 [] [.long (((cm_L (cm_sI w r3 ((cm_I w a0 5) - (1 : Int32)).toNatClampNeg ((cm_I w r3 ((cm_I w a0 5) - (1 : Int32)).toNatClampNeg) + (1 : Int32))) r13 ((cm_I w a0 5) - (1 : Int32)).toNatClampNeg) <<< (Int32.toInt64 (8 : Int32) &&& 63)) ||| (Int32.toInt64 (i1 &&& (255 : Int32)))), .int ((cm_I w a0 5) - (1 : Int32)), .ref r7] rfl ?_
      refine sm_gd fun h16 => ?_
      refine sm_gd fun h17 => ?_
      refine sm_sl rfl h16 h17 rfl rfl ?_
      show sm _ _ _ _ 72 [] [] _ _
      exact sm_rV rfl rfl
    · refine sm_seg 1 37 [(2, .int ((cm_I w a0 5) - (1 : Int32))), (0, .ref a0), (1, .int i1)] [.ref a0, .int ((cm_I w a0 5) - (1 : Int32)), .ref r7] rfl ?_
      refine sm_gR rfl h1 rfl rfl fun r18 h19 => ?_
      show sm _ _ _ _ 40 [(2, .int ((cm_I w a0 5) - (1 : Int32))), (0, .ref a0), (1, .int i1)] [.ref r18, .int ((cm_I w a0 5) - (1 : Int32)), .ref r7] _ _
      refine sm_seg 1 41 [(2, .int ((cm_I w a0 5) - (1 : Int32))), (0, .ref a0), (1, .int i1)] [.int ((cm_I w a0 5) - (1 : Int32)), .ref r18, .int ((cm_I w a0 5) - (1 : Int32)), .ref r7] rfl ?_
      refine sm_gd fun h20 => ?_
      refine sm_al rfl h20 rfl ?_
      show sm _ _ _ _ 42 [(2, .int ((cm_I w a0 5) - (1 : Int32))), (0, .ref a0), (1, .int i1)] [.long (cm_L (cm_sI w r3 ((cm_I w a0 5) - (1 : Int32)).toNatClampNeg ((cm_I w r3 ((cm_I w a0 5) - (1 : Int32)).toNatClampNeg) + (1 : Int32))) r18 ((cm_I w a0 5) - (1 : Int32)).toNatClampNeg), .int ((cm_I w a0 5) - (1 : Int32)), .ref r7] _ _
      refine sm_seg 8 71 [] [.long (((cm_L (cm_sI w r3 ((cm_I w a0 5) - (1 : Int32)).toNatClampNeg ((cm_I w r3 ((cm_I w a0 5) - (1 : Int32)).toNatClampNeg) + (1 : Int32))) r18 ((cm_I w a0 5) - (1 : Int32)).toNatClampNeg) * (10 : Int64)) + (Int32.toInt64 (i1 - (48 : Int32)))), .int ((cm_I w a0 5) - (1 : Int32)), .ref r7] rfl ?_
      refine sm_gd fun h21 => ?_
      refine sm_gd fun h22 => ?_
      refine sm_sl rfl h21 h22 rfl rfl ?_
      show sm _ _ _ _ 72 [] [] _ _
      exact sm_rV rfl rfl
theorem ca_59 (a0 : Nat) (i1 : Int32) (w : cm_W) : cm_ca cm_g 59 [.ref a0, .int i1] w ((fn_59 a0 i1 w).map cm_gV) := cm_ca_of (cm_me_of rfl rfl) rfl (jt_59_0 a0 i1 w)
-- NailedBoxes$Reader.wordNumber(I)I
def fn_60_37 (w : cm_W) (k_2 : Nat → Int32 → Int32 → Option Int32) (a0 : Nat) (i1 : Int32) (i2 : Int32) : Option Int32 := k_2 a0 i1 (i2 + (1 : Int32))
theorem jt_60_37 (w : cm_W) (k_2 : Nat → Int32 → Int32 → Option Int32) (hk_2 : ∀ (a0 : Nat) (i1 : Int32) (i2 : Int32), sm cm_g 60 ck_60 kq_60 2 [(0, .ref a0), (1, .int i1), (2, .int i2)] [] w ((k_2 a0 i1 i2).map (cm_fI w))) (a0 : Nat) (i1 : Int32) (i2 : Int32) : sm cm_g 60 ck_60 kq_60 37 [(0, .ref a0), (1, .int i1), (2, .int i2)] [] w ((fn_60_37 w k_2 a0 i1 i2).map (cm_fI w)) := by
  unfold fn_60_37
  refine sm_seg 2 2 [(0, .ref a0), (1, .int i1), (2, .int (i2 + (1 : Int32)))] [] rfl ?_
  exact hk_2 a0 i1 (i2 + (1 : Int32))
def fn_60_2 (w : cm_W) : Nat → Nat → Int32 → Int32 → Option Int32
  | 0, _, _, _ => none
  | n + 1, a0, i1, i2 => (cm_al w 1).bind fun n1 => (if (Int32.ofNat n1) ≤ i2 then some (-1 : Int32) else (if cm_sh w a0 = some (.inl 4) then (cm_R w a0 1).bind fun r5 => (if cm_ga w .int r5 i1 = true then (if ¬ (cm_I w r5 i1.toNatClampNeg) = (1 : Int32) then some (-1 : Int32) else (if cm_ga w .long 1 i2 = true then (cm_R w a0 3).bind fun r10 => (if cm_ga w .long r10 i1 = true then (if ¬ (lg_cmp (cm_L w 1 i2.toNatClampNeg) (cm_L w r10 i1.toNatClampNeg)) = 0 then fn_60_37 w (fn_60_2 w n) a0 i1 i2 else some i2) else none) else none)) else none) else none))
theorem jt_60_2 (w : cm_W) : ∀ (n : Nat) (a0 : Nat) (i1 : Int32) (i2 : Int32), sm cm_g 60 ck_60 kq_60 2 [(0, .ref a0), (1, .int i1), (2, .int i2)] [] w ((fn_60_2 w n a0 i1 i2).map (cm_fI w)) := by
  intro n
  induction n with
  | zero => intro a0 i1 i2; exact sm_no
  | succ n ih =>
    intro a0 i1 i2
    rw [fn_60_2]
    refine sm_seg 2 6 [(0, .ref a0), (1, .int i1), (2, .int i2)] [.ref 1, .int i2] rfl ?_
    refine sm_len rfl rfl fun n1 h2 => ?_
    show sm _ _ _ _ 7 [(0, .ref a0), (1, .int i1), (2, .int i2)] [.int (Int32.ofNat n1), .int i2] _ _
    refine sm_if (pc1 := 43) (lv1 := []) (pc2 := 10) (lv2 := [(0, .ref a0), (1, .int i1), (2, .int i2)]) (st1 := []) rfl rfl rfl (fun h3 => ?_) (fun h3 => ?_)
    · refine sm_seg 1 44 [] [.int (-1 : Int32)] rfl ?_
      exact sm_rI rfl rfl
    · refine sm_seg 1 11 [(0, .ref a0), (1, .int i1), (2, .int i2)] [.ref a0] rfl ?_
      refine sm_gd fun h4 => ?_
      refine sm_gR rfl h4 rfl rfl fun r5 h6 => ?_
      show sm _ _ _ _ 14 [(0, .ref a0), (1, .int i1), (2, .int i2)] [.ref r5] _ _
      refine sm_seg 1 15 [(0, .ref a0), (1, .int i1), (2, .int i2)] [.int i1, .ref r5] rfl ?_
      refine sm_gd fun h7 => ?_
      refine sm_ai rfl h7 rfl ?_
      show sm _ _ _ _ 16 [(0, .ref a0), (1, .int i1), (2, .int i2)] [.int (cm_I w r5 i1.toNatClampNeg)] _ _
      refine sm_seg 1 17 [(0, .ref a0), (1, .int i1), (2, .int i2)] [.int (1 : Int32), .int (cm_I w r5 i1.toNatClampNeg)] rfl ?_
      refine sm_if (pc1 := 43) (lv1 := []) (pc2 := 20) (lv2 := [(0, .ref a0), (1, .int i1), (2, .int i2)]) (st1 := []) rfl rfl rfl (fun h8 => ?_) (fun h8 => ?_)
      · refine sm_seg 1 44 [] [.int (-1 : Int32)] rfl ?_
        exact sm_rI rfl rfl
      · refine sm_seg 2 24 [(0, .ref a0), (1, .int i1), (2, .int i2)] [.int i2, .ref 1] rfl ?_
        refine sm_gd fun h9 => ?_
        refine sm_al rfl h9 rfl ?_
        show sm _ _ _ _ 25 [(0, .ref a0), (1, .int i1), (2, .int i2)] [.long (cm_L w 1 i2.toNatClampNeg)] _ _
        refine sm_seg 1 26 [(0, .ref a0), (1, .int i1), (2, .int i2)] [.ref a0, .long (cm_L w 1 i2.toNatClampNeg)] rfl ?_
        refine sm_gR rfl h4 rfl rfl fun r10 h11 => ?_
        show sm _ _ _ _ 29 [(0, .ref a0), (1, .int i1), (2, .int i2)] [.ref r10, .long (cm_L w 1 i2.toNatClampNeg)] _ _
        refine sm_seg 1 30 [(0, .ref a0), (1, .int i1), (2, .int i2)] [.int i1, .ref r10, .long (cm_L w 1 i2.toNatClampNeg)] rfl ?_
        refine sm_gd fun h12 => ?_
        refine sm_al rfl h12 rfl ?_
        show sm _ _ _ _ 31 [(0, .ref a0), (1, .int i1), (2, .int i2)] [.long (cm_L w r10 i1.toNatClampNeg), .long (cm_L w 1 i2.toNatClampNeg)] _ _
        refine sm_seg 1 32 [(0, .ref a0), (1, .int i1), (2, .int i2)] [.int (lg_cmp (cm_L w 1 i2.toNatClampNeg) (cm_L w r10 i1.toNatClampNeg))] rfl ?_
        refine sm_if (pc1 := 37) (lv1 := [(0, .ref a0), (1, .int i1), (2, .int i2)]) (pc2 := 35) (lv2 := [(0, .ref a0), (1, .int i1), (2, .int i2)]) (st1 := []) rfl rfl rfl (fun h13 => ?_) (fun h13 => ?_)
        · exact jt_60_37 w (fn_60_2 w n) ih a0 i1 i2
        · refine sm_seg 1 36 [(0, .ref a0), (1, .int i1), (2, .int i2)] [.int i2] rfl ?_
          exact sm_rI rfl rfl
def fn_60 (w : cm_W) (a0 : Nat) (i1 : Int32) : Option Int32 := fn_60_2 w cm_N a0 i1 (0 : Int32)
theorem jt_60_0 (w : cm_W) (a0 : Nat) (i1 : Int32) : sm cm_g 60 ck_60 kq_60 0 [(0, .ref a0), (1, .int i1)] [] w ((fn_60 w a0 i1).map (cm_fI w)) := by
  unfold fn_60
  refine sm_seg 2 2 [(0, .ref a0), (1, .int i1), (2, .int (0 : Int32))] [] rfl ?_
  exact jt_60_2 w cm_N a0 i1 (0 : Int32)
theorem ca_60 (w : cm_W) (a0 : Nat) (i1 : Int32) : cm_ca cm_g 60 [.ref a0, .int i1] w ((fn_60 w a0 i1).map (cm_fI w)) := cm_ca_of (cm_me_of rfl rfl) rfl (jt_60_0 w a0 i1)
-- NailedBoxes$Reader.split([BI)V
def fn_61_65 (k_10 : Nat → Nat → Int32 → Int32 → Int32 → cm_W → Option cm_W) (a0 : Nat) (a1 : Nat) (i2 : Int32) (i4 : Int32) (i5 : Int32) (w : cm_W) : Option cm_W := k_10 a0 a1 i2 i5 (i4 + (1 : Int32)) w
theorem jt_61_65 (k_10 : Nat → Nat → Int32 → Int32 → Int32 → cm_W → Option cm_W) (hk_10 : ∀ (a0 : Nat) (a1 : Nat) (i2 : Int32) (i3 : Int32) (i4 : Int32) (w : cm_W), sm cm_g 61 ck_61 kq_61 10 [(0, .ref a0), (1, .ref a1), (2, .int i2), (3, .int i3), (4, .int i4)] [] w ((k_10 a0 a1 i2 i3 i4 w).map cm_gV)) (a0 : Nat) (a1 : Nat) (i2 : Int32) (i4 : Int32) (i5 : Int32) (w : cm_W) : sm cm_g 61 ck_61 kq_61 65 [(0, .ref a0), (1, .ref a1), (2, .int i2), (4, .int i4), (5, .int i5)] [] w ((fn_61_65 k_10 a0 a1 i2 i4 i5 w).map cm_gV) := by
  unfold fn_61_65
  refine sm_seg 4 10 [(0, .ref a0), (1, .ref a1), (2, .int i2), (3, .int i5), (4, .int (i4 + (1 : Int32)))] [] rfl ?_
  exact hk_10 a0 a1 i2 i5 (i4 + (1 : Int32)) w
def fn_61_51 (k_10 : Nat → Nat → Int32 → Int32 → Int32 → cm_W → Option cm_W) (a0 : Nat) (a1 : Nat) (i2 : Int32) (i4 : Int32) (i5 : Int32) (w : cm_W) : Option cm_W := (if i5 = (4 : Int32) then fn_61_65  k_10 a0 a1 i2 i4 i5 w else (if cm_ga w .byte a1 i4 = true then (if 2 ≤ a1 then (if cm_sh w a0 = some (.inl 4) then (fn_59 a0 (cm_I w a1 i4.toNatClampNeg) w).bind fun w5 => fn_61_65  k_10 a0 a1 i2 i4 i5 w5 else none) else none) else none))
theorem jt_61_51 (k_10 : Nat → Nat → Int32 → Int32 → Int32 → cm_W → Option cm_W) (hk_10 : ∀ (a0 : Nat) (a1 : Nat) (i2 : Int32) (i3 : Int32) (i4 : Int32) (w : cm_W), sm cm_g 61 ck_61 kq_61 10 [(0, .ref a0), (1, .ref a1), (2, .int i2), (3, .int i3), (4, .int i4)] [] w ((k_10 a0 a1 i2 i3 i4 w).map cm_gV)) (a0 : Nat) (a1 : Nat) (i2 : Int32) (i4 : Int32) (i5 : Int32) (w : cm_W) : sm cm_g 61 ck_61 kq_61 51 [(0, .ref a0), (1, .ref a1), (2, .int i2), (4, .int i4), (5, .int i5)] [] w ((fn_61_51 k_10 a0 a1 i2 i4 i5 w).map cm_gV) := by
  unfold fn_61_51
  refine sm_seg 2 54 [(0, .ref a0), (1, .ref a1), (2, .int i2), (4, .int i4), (5, .int i5)] [.int (4 : Int32), .int i5] rfl ?_
  refine sm_if (pc1 := 65) (lv1 := [(0, .ref a0), (1, .ref a1), (2, .int i2), (4, .int i4), (5, .int i5)]) (pc2 := 57) (lv2 := [(0, .ref a0), (1, .ref a1), (2, .int i2), (4, .int i4), (5, .int i5)]) (st1 := []) rfl rfl rfl (fun h1 => ?_) (fun h1 => ?_)
  · exact jt_61_65  k_10 hk_10 a0 a1 i2 i4 i5 w
  · refine sm_seg 3 61 [(0, .ref a0), (1, .ref a1), (2, .int i2), (4, .int i4), (5, .int i5)] [.int i4, .ref a1, .ref a0] rfl ?_
    refine sm_gd fun h2 => ?_
    refine sm_gd fun h3 => ?_
    refine sm_ab rfl h2 h3 rfl ?_
    show sm _ _ _ _ 62 [(0, .ref a0), (1, .ref a1), (2, .int i2), (4, .int i4), (5, .int i5)] [.int (cm_I w a1 i4.toNatClampNeg), .ref a0] _ _
    refine sm_gd fun h4 => ?_
    refine sm_cV (as := [.int (cm_I w a1 i4.toNatClampNeg)]) (rest := []) rfl rfl rfl rfl h4 (Nat.le_of_ble_eq_true rfl) (ca_59  a0 (cm_I w a1 i4.toNatClampNeg) w) fun w5 h6 => ?_
    show sm _ _ _ _ 65 [(0, .ref a0), (1, .ref a1), (2, .int i2), (4, .int i4), (5, .int i5)] [] _ _
    exact jt_61_65  k_10 hk_10 a0 a1 i2 i4 i5 w5
def fn_61_43 (k_10 : Nat → Nat → Int32 → Int32 → Int32 → cm_W → Option cm_W) (a0 : Nat) (a1 : Nat) (i2 : Int32) (i4 : Int32) (i5 : Int32) (w : cm_W) : Option cm_W := (if cm_sh w a0 = some (.inl 4) then (fn_58 a0 i4 i5 w).bind fun w8 => fn_61_51  k_10 a0 a1 i2 i4 i5 w8 else none)
theorem jt_61_43 (k_10 : Nat → Nat → Int32 → Int32 → Int32 → cm_W → Option cm_W) (hk_10 : ∀ (a0 : Nat) (a1 : Nat) (i2 : Int32) (i3 : Int32) (i4 : Int32) (w : cm_W), sm cm_g 61 ck_61 kq_61 10 [(0, .ref a0), (1, .ref a1), (2, .int i2), (3, .int i3), (4, .int i4)] [] w ((k_10 a0 a1 i2 i3 i4 w).map cm_gV)) (a0 : Nat) (a1 : Nat) (i2 : Int32) (i4 : Int32) (i5 : Int32) (w : cm_W) : sm cm_g 61 ck_61 kq_61 43 [(0, .ref a0), (1, .ref a1), (2, .int i2), (4, .int i4), (5, .int i5)] [] w ((fn_61_43 k_10 a0 a1 i2 i4 i5 w).map cm_gV) := by
  unfold fn_61_43
  refine sm_seg 3 48 [(0, .ref a0), (1, .ref a1), (2, .int i2), (4, .int i4), (5, .int i5)] [.int i5, .int i4, .ref a0] rfl ?_
  refine sm_gd fun h7 => ?_
  refine sm_cV (as := [.int i4, .int i5]) (rest := []) rfl rfl rfl rfl h7 (Nat.le_of_ble_eq_true rfl) (ca_58  a0 i4 i5 w) fun w8 h9 => ?_
  show sm _ _ _ _ 51 [(0, .ref a0), (1, .ref a1), (2, .int i2), (4, .int i4), (5, .int i5)] [] _ _
  exact jt_61_51  k_10 hk_10 a0 a1 i2 i4 i5 w8
def fn_61_83 : Nat → Nat → Int32 → cm_W → Option cm_W
  | 0, _, _, _ => none
  | n + 1, a0, i4, w => (if cm_sh w a0 = some (.inl 4) then (if (cm_I w a0 5) ≤ i4 then some w else (cm_R w a0 4).bind fun r12 => (fn_60 w a0 i4).bind fun v14 => (if cm_ga w .int r12 i4 = true then (if cm_w2 4 30 r12 = true then fn_61_83 n a0 (i4 + (1 : Int32)) (cm_sI w r12 i4.toNatClampNeg v14) else none) else none)) else none)
theorem jt_61_83 : ∀ (n : Nat) (a0 : Nat) (i4 : Int32) (w : cm_W), sm cm_g 61 ck_61 kq_61 83 [(0, .ref a0), (4, .int i4)] [] w ((fn_61_83 n a0 i4 w).map cm_gV) := by
  intro n
  induction n with
  | zero => intro a0 i4 w; exact sm_no
  | succ n ih =>
    intro a0 i4 w
    rw [fn_61_83]
    refine sm_seg 2 86 [(0, .ref a0), (4, .int i4)] [.ref a0, .int i4] rfl ?_
    refine sm_gd fun h10 => ?_
    refine sm_gI rfl h10 rfl ?_
    show sm _ _ _ _ 89 [(0, .ref a0), (4, .int i4)] [.int (cm_I w a0 5), .int i4] _ _
    refine sm_if (pc1 := 111) (lv1 := []) (pc2 := 92) (lv2 := [(0, .ref a0), (4, .int i4)]) (st1 := []) rfl rfl rfl (fun h11 => ?_) (fun h11 => ?_)
    · exact sm_rV rfl rfl
    · refine sm_seg 1 93 [(0, .ref a0), (4, .int i4)] [.ref a0] rfl ?_
      refine sm_gR rfl h10 rfl rfl fun r12 h13 => ?_
      show sm _ _ _ _ 96 [(0, .ref a0), (4, .int i4)] [.ref r12] _ _
      refine sm_seg 3 101 [(0, .ref a0), (4, .int i4)] [.int i4, .ref a0, .int i4, .ref r12] rfl ?_
      refine sm_cV (as := [.int i4]) (rest := [.int i4, .ref r12]) rfl rfl rfl rfl h10 (Nat.le_of_ble_eq_true rfl) (ca_60 w a0 i4) fun v14 h15 => ?_
      show sm _ _ _ _ 104 [(0, .ref a0), (4, .int i4)] [.int v14, .int i4, .ref r12] _ _
      refine sm_gd fun h16 => ?_
      refine sm_gd fun h17 => ?_
      refine sm_si rfl h16 h17 rfl rfl ?_
      show sm _ _ _ _ 105 [(0, .ref a0), (4, .int i4)] [] _ _
      refine sm_seg 2 83 [(0, .ref a0), (4, .int (i4 + (1 : Int32)))] [] rfl ?_
      exact ih a0 (i4 + (1 : Int32)) (cm_sI w r12 i4.toNatClampNeg v14)
def fn_61_74 (a0 : Nat) (i2 : Int32) (w : cm_W) : Option cm_W := (if cm_sh w a0 = some (.inl 4) then (fn_58 a0 i2 (0 : Int32) w).bind fun w19 => fn_61_83  cm_N a0 (0 : Int32) w19 else none)
theorem jt_61_74 (a0 : Nat) (i2 : Int32) (w : cm_W) : sm cm_g 61 ck_61 kq_61 74 [(0, .ref a0), (2, .int i2)] [] w ((fn_61_74 a0 i2 w).map cm_gV) := by
  unfold fn_61_74
  refine sm_seg 3 77 [(0, .ref a0), (2, .int i2)] [.int (0 : Int32), .int i2, .ref a0] rfl ?_
  refine sm_gd fun h18 => ?_
  refine sm_cV (as := [.int i2, .int (0 : Int32)]) (rest := []) rfl rfl rfl rfl h18 (Nat.le_of_ble_eq_true rfl) (ca_58  a0 i2 (0 : Int32) w) fun w19 h20 => ?_
  show sm _ _ _ _ 80 [(0, .ref a0), (2, .int i2)] [] _ _
  refine sm_seg 2 83 [(0, .ref a0), (4, .int (0 : Int32))] [] rfl ?_
  exact jt_61_83  cm_N a0 (0 : Int32) w19
def fn_61_10 : Nat → Nat → Nat → Int32 → Int32 → Int32 → cm_W → Option cm_W
  | 0, _, _, _, _, _, _ => none
  | n + 1, a0, a1, i2, i3, i4, w => (if i2 ≤ i4 then fn_61_74  a0 i2 w else (if cm_ga w .byte a1 i4 = true then (if 2 ≤ a1 then (fn_57 w (cm_I w a1 i4.toNatClampNeg)).bind fun v24 => (if v24 = (4 : Int32) then fn_61_51  (fn_61_10 n) a0 a1 i2 i4 v24 w else (if ¬ v24 = i3 then fn_61_43  (fn_61_10 n) a0 a1 i2 i4 v24 w else (if ¬ v24 = (3 : Int32) then fn_61_51  (fn_61_10 n) a0 a1 i2 i4 v24 w else fn_61_43  (fn_61_10 n) a0 a1 i2 i4 v24 w))) else none) else none))
theorem jt_61_10 : ∀ (n : Nat) (a0 : Nat) (a1 : Nat) (i2 : Int32) (i3 : Int32) (i4 : Int32) (w : cm_W), sm cm_g 61 ck_61 kq_61 10 [(0, .ref a0), (1, .ref a1), (2, .int i2), (3, .int i3), (4, .int i4)] [] w ((fn_61_10 n a0 a1 i2 i3 i4 w).map cm_gV) := by
  intro n
  induction n with
  | zero => intro a0 a1 i2 i3 i4 w; exact sm_no
  | succ n ih =>
    intro a0 a1 i2 i3 i4 w
    rw [fn_61_10]
    refine sm_seg 2 13 [(0, .ref a0), (1, .ref a1), (2, .int i2), (3, .int i3), (4, .int i4)] [.int i2, .int i4] rfl ?_
    refine sm_if (pc1 := 74) (lv1 := [(0, .ref a0), (2, .int i2)]) (pc2 := 16) (lv2 := [(0, .ref a0), (1, .ref a1), (2, .int i2), (3, .int i3), (4, .int i4)]) (st1 := []) rfl rfl rfl (fun h21 => ?_) (fun h21 => ?_)
    · exact jt_61_74  a0 i2 w
    · refine sm_seg 2 19 [(0, .ref a0), (1, .ref a1), (2, .int i2), (3, .int i3), (4, .int i4)] [.int i4, .ref a1] rfl ?_
      refine sm_gd fun h22 => ?_
      refine sm_gd fun h23 => ?_
      refine sm_ab rfl h22 h23 rfl ?_
      show sm _ _ _ _ 20 [(0, .ref a0), (1, .ref a1), (2, .int i2), (3, .int i3), (4, .int i4)] [.int (cm_I w a1 i4.toNatClampNeg)] _ _
      refine sm_cS (av := [.int (cm_I w a1 i4.toNatClampNeg)]) (rest := []) rfl rfl rfl rfl (Nat.le_of_ble_eq_true rfl) (ca_57 w (cm_I w a1 i4.toNatClampNeg)) fun v24 h25 => ?_
      show sm _ _ _ _ 23 [(0, .ref a0), (1, .ref a1), (2, .int i2), (3, .int i3), (4, .int i4)] [.int v24] _ _
      refine sm_seg 3 28 [(5, .int v24), (0, .ref a0), (1, .ref a1), (2, .int i2), (3, .int i3), (4, .int i4)] [.int (4 : Int32), .int v24] rfl ?_
      refine sm_if (pc1 := 51) (lv1 := [(0, .ref a0), (1, .ref a1), (2, .int i2), (4, .int i4), (5, .int v24)]) (pc2 := 31) (lv2 := [(5, .int v24), (0, .ref a0), (1, .ref a1), (2, .int i2), (3, .int i3), (4, .int i4)]) (st1 := []) rfl rfl rfl (fun h26 => ?_) (fun h26 => ?_)
      · exact jt_61_51  (fn_61_10 n) ih a0 a1 i2 i4 v24 w
      · refine sm_seg 2 34 [(5, .int v24), (0, .ref a0), (1, .ref a1), (2, .int i2), (3, .int i3), (4, .int i4)] [.int i3, .int v24] rfl ?_
        refine sm_if (pc1 := 43) (lv1 := [(0, .ref a0), (1, .ref a1), (2, .int i2), (4, .int i4), (5, .int v24)]) (pc2 := 37) (lv2 := [(5, .int v24), (0, .ref a0), (1, .ref a1), (2, .int i2), (3, .int i3), (4, .int i4)]) (st1 := []) rfl rfl rfl (fun h27 => ?_) (fun h27 => ?_)
        · exact jt_61_43  (fn_61_10 n) ih a0 a1 i2 i4 v24 w
        · refine sm_seg 2 40 [(5, .int v24), (0, .ref a0), (1, .ref a1), (2, .int i2), (3, .int i3), (4, .int i4)] [.int (3 : Int32), .int v24] rfl ?_
          refine sm_if (pc1 := 51) (lv1 := [(0, .ref a0), (1, .ref a1), (2, .int i2), (4, .int i4), (5, .int v24)]) (pc2 := 43) (lv2 := [(0, .ref a0), (1, .ref a1), (2, .int i2), (4, .int i4), (5, .int v24)]) (st1 := []) rfl rfl rfl (fun h28 => ?_) (fun h28 => ?_)
          · exact jt_61_51  (fn_61_10 n) ih a0 a1 i2 i4 v24 w
          · exact jt_61_43  (fn_61_10 n) ih a0 a1 i2 i4 v24 w
def fn_61 (a0 : Nat) (a1 : Nat) (i2 : Int32) (w : cm_W) : Option cm_W := (if cm_sh w a0 = some (.inl 4) then (if cm_w2 4 30 a0 = true then fn_61_10  cm_N a0 a1 i2 (4 : Int32) (0 : Int32) (cm_sI w a0 5 (0 : Int32)) else none) else none)
theorem jt_61_0 (a0 : Nat) (a1 : Nat) (i2 : Int32) (w : cm_W) : sm cm_g 61 ck_61 kq_61 0 [(0, .ref a0), (1, .ref a1), (2, .int i2)] [] w ((fn_61 a0 a1 i2 w).map cm_gV) := by
  unfold fn_61
  refine sm_seg 2 2 [(0, .ref a0), (1, .ref a1), (2, .int i2)] [.int (0 : Int32), .ref a0] rfl ?_
  refine sm_gd fun h29 => ?_
  refine sm_gd fun h30 => ?_
  refine sm_pI rfl h29 rfl h30 rfl ?_
  show sm _ _ _ _ 5 [(0, .ref a0), (1, .ref a1), (2, .int i2)] [] _ _
  refine sm_seg 4 10 [(0, .ref a0), (1, .ref a1), (2, .int i2), (3, .int (4 : Int32)), (4, .int (0 : Int32))] [] rfl ?_
  exact jt_61_10  cm_N a0 a1 i2 (4 : Int32) (0 : Int32) (cm_sI w a0 5 (0 : Int32))
theorem ca_61 (a0 : Nat) (a1 : Nat) (i2 : Int32) (w : cm_W) : cm_ca cm_g 61 [.ref a0, .ref a1, .int i2] w ((fn_61 a0 a1 i2 w).map cm_gV) := cm_ca_of (cm_me_of rfl rfl) rfl (jt_61_0 a0 a1 i2 w)
-- java/util/Arrays.fill([II)V
def fn_62_5 : Nat → Nat → Int32 → Int32 → Int32 → cm_W → Option cm_W
  | 0, _, _, _, _, _ => none
  | n + 1, a0, i1, i2, i3, w => (if i3 ≤ i2 then some w else (if cm_ga w .int a0 i2 = true then (if cm_w2 10 30 a0 = true then fn_62_5 n a0 i1 (i2 + (1 : Int32)) i3 (cm_sI w a0 i2.toNatClampNeg i1) else none) else none))
theorem jt_62_5 : ∀ (n : Nat) (a0 : Nat) (i1 : Int32) (i2 : Int32) (i3 : Int32) (w : cm_W), sm cm_g 62 ck_62 kq_62 5 [(0, .ref a0), (1, .int i1), (2, .int i2), (3, .int i3)] [] w ((fn_62_5 n a0 i1 i2 i3 w).map cm_gV) := by
  intro n
  induction n with
  | zero => intro a0 i1 i2 i3 w; exact sm_no
  | succ n ih =>
    intro a0 i1 i2 i3 w
    rw [fn_62_5]
    refine sm_seg 2 7 [(0, .ref a0), (1, .int i1), (2, .int i2), (3, .int i3)] [.int i3, .int i2] rfl ?_
    refine sm_if (pc1 := 20) (lv1 := []) (pc2 := 10) (lv2 := [(0, .ref a0), (1, .int i1), (2, .int i2), (3, .int i3)]) (st1 := []) rfl rfl rfl (fun h1 => ?_) (fun h1 => ?_)
    · exact sm_rV rfl rfl
    · refine sm_seg 3 13 [(0, .ref a0), (1, .int i1), (2, .int i2), (3, .int i3)] [.int i1, .int i2, .ref a0] rfl ?_
      refine sm_gd fun h2 => ?_
      refine sm_gd fun h3 => ?_
      refine sm_si rfl h2 h3 rfl rfl ?_
      show sm _ _ _ _ 14 [(0, .ref a0), (1, .int i1), (2, .int i2), (3, .int i3)] [] _ _
      refine sm_seg 2 5 [(0, .ref a0), (1, .int i1), (2, .int (i2 + (1 : Int32))), (3, .int i3)] [] rfl ?_
      exact ih a0 i1 (i2 + (1 : Int32)) i3 (cm_sI w a0 i2.toNatClampNeg i1)
def fn_62 (a0 : Nat) (i1 : Int32) (w : cm_W) : Option cm_W := (cm_al w a0).bind fun n4 => fn_62_5  cm_N a0 i1 (0 : Int32) (Int32.ofNat n4) w
theorem jt_62_0 (a0 : Nat) (i1 : Int32) (w : cm_W) : sm cm_g 62 ck_62 kq_62 0 [(0, .ref a0), (1, .int i1)] [] w ((fn_62 a0 i1 w).map cm_gV) := by
  unfold fn_62
  refine sm_seg 3 3 [(2, .int (0 : Int32)), (0, .ref a0), (1, .int i1)] [.ref a0] rfl ?_
  refine sm_len rfl rfl fun n4 h5 => ?_
  show sm _ _ _ _ 4 [(2, .int (0 : Int32)), (0, .ref a0), (1, .int i1)] [.int (Int32.ofNat n4)] _ _
  refine sm_seg 1 5 [(0, .ref a0), (1, .int i1), (2, .int (0 : Int32)), (3, .int (Int32.ofNat n4))] [] rfl ?_
  exact jt_62_5  cm_N a0 i1 (0 : Int32) (Int32.ofNat n4) w
theorem ca_62 (a0 : Nat) (i1 : Int32) (w : cm_W) : cm_ca cm_g 62 [.ref a0, .int i1] w ((fn_62 a0 i1 w).map cm_gV) := cm_ca_of (cm_me_of rfl rfl) rfl (jt_62_0 a0 i1 w)
-- NailedBoxes$Village.clear()V
def fn_63 (a0 : Nat) (w : cm_W) : Option cm_W := (if cm_sh w a0 = some (.inl 9) then (cm_R w a0 1).bind fun r2 => (if cm_sh w r2 = some (.inl 7) then (if cm_w2 10 30 r2 = true then (cm_R (cm_sI w r2 2 (0 : Int32)) a0 3).bind fun r6 => (if cm_sh w r6 = some (.inl 7) then (if cm_w2 10 30 r6 = true then (cm_R (cm_sI (cm_sI w r2 2 (0 : Int32)) r6 2 (0 : Int32)) a0 5).bind fun r10 => (if cm_sh w r10 = some (.inl 7) then (if cm_w2 10 30 r10 = true then (cm_R (cm_sI (cm_sI (cm_sI w r2 2 (0 : Int32)) r6 2 (0 : Int32)) r10 2 (0 : Int32)) a0 4).bind fun r14 => (fn_62 r14 (0 : Int32) (cm_sI (cm_sI (cm_sI w r2 2 (0 : Int32)) r6 2 (0 : Int32)) r10 2 (0 : Int32))).bind fun w16 => (if cm_sh w16 a0 = some (.inl 9) then (if cm_w2 10 30 a0 = true then some (cm_sI (cm_sI (cm_sI (cm_sI w16 a0 6 (8 : Int32)) a0 7 (8 : Int32)) a0 8 (6 : Int32)) a0 9 (0 : Int32)) else none) else none) else none) else none) else none) else none) else none) else none) else none)
theorem jt_63_0 (a0 : Nat) (w : cm_W) : sm cm_g 63 ck_63 kq_63 0 [(0, .ref a0)] [] w ((fn_63 a0 w).map cm_gV) := by
  unfold fn_63
  refine sm_seg 1 1 [(0, .ref a0)] [.ref a0] rfl ?_
  refine sm_gd fun h1 => ?_
  refine sm_gR rfl h1 rfl rfl fun r2 h3 => ?_
  show sm _ _ _ _ 4 [(0, .ref a0)] [.ref r2] _ _
  refine sm_seg 1 5 [(0, .ref a0)] [.int (0 : Int32), .ref r2] rfl ?_
  refine sm_gd fun h4 => ?_
  refine sm_gd fun h5 => ?_
  refine sm_pI rfl h4 rfl h5 rfl ?_
  show sm _ _ _ _ 8 [(0, .ref a0)] [] _ _
  refine sm_seg 1 9 [(0, .ref a0)] [.ref a0] rfl ?_
  refine sm_gR rfl h1 rfl rfl fun r6 h7 => ?_
  show sm _ _ _ _ 12 [(0, .ref a0)] [.ref r6] _ _
  refine sm_seg 1 13 [(0, .ref a0)] [.int (0 : Int32), .ref r6] rfl ?_
  refine sm_gd fun h8 => ?_
  refine sm_gd fun h9 => ?_
  refine sm_pI rfl h8 rfl h9 rfl ?_
  show sm _ _ _ _ 16 [(0, .ref a0)] [] _ _
  refine sm_seg 1 17 [(0, .ref a0)] [.ref a0] rfl ?_
  refine sm_gR rfl h1 rfl rfl fun r10 h11 => ?_
  show sm _ _ _ _ 20 [(0, .ref a0)] [.ref r10] _ _
  refine sm_seg 1 21 [(0, .ref a0)] [.int (0 : Int32), .ref r10] rfl ?_
  refine sm_gd fun h12 => ?_
  refine sm_gd fun h13 => ?_
  refine sm_pI rfl h12 rfl h13 rfl ?_
  show sm _ _ _ _ 24 [(0, .ref a0)] [] _ _
  refine sm_seg 1 25 [(0, .ref a0)] [.ref a0] rfl ?_
  refine sm_gR rfl h1 rfl rfl fun r14 h15 => ?_
  show sm _ _ _ _ 28 [(0, .ref a0)] [.ref r14] _ _
  refine sm_seg 1 29 [(0, .ref a0)] [.int (0 : Int32), .ref r14] rfl ?_
  refine sm_cS (av := [.ref r14, .int (0 : Int32)]) (rest := []) rfl rfl rfl rfl (Nat.le_of_ble_eq_true rfl) (ca_62  r14 (0 : Int32) (cm_sI (cm_sI (cm_sI w r2 2 (0 : Int32)) r6 2 (0 : Int32)) r10 2 (0 : Int32))) fun w16 h17 => ?_
  show sm _ _ _ _ 32 [(0, .ref a0)] [] _ _
  refine sm_seg 2 35 [(0, .ref a0)] [.int (8 : Int32), .ref a0] rfl ?_
  refine sm_gd fun h18 => ?_
  refine sm_gd fun h19 => ?_
  refine sm_pI rfl h18 rfl h19 rfl ?_
  show sm _ _ _ _ 38 [(0, .ref a0)] [] _ _
  refine sm_seg 2 41 [(0, .ref a0)] [.int (8 : Int32), .ref a0] rfl ?_
  refine sm_pI rfl h18 rfl h19 rfl ?_
  show sm _ _ _ _ 44 [(0, .ref a0)] [] _ _
  refine sm_seg 2 47 [(0, .ref a0)] [.int (6 : Int32), .ref a0] rfl ?_
  refine sm_pI rfl h18 rfl h19 rfl ?_
  show sm _ _ _ _ 50 [(0, .ref a0)] [] _ _
  refine sm_seg 2 52 [(0, .ref a0)] [.int (0 : Int32), .ref a0] rfl ?_
  refine sm_pI rfl h18 rfl h19 rfl ?_
  show sm _ _ _ _ 55 [(0, .ref a0)] [] _ _
  exact sm_rV rfl rfl
theorem ca_63 (a0 : Nat) (w : cm_W) : cm_ca cm_g 63 [.ref a0] w ((fn_63 a0 w).map cm_gV) := cm_ca_of (cm_me_of rfl rfl) rfl (jt_63_0 a0 w)
-- NailedBoxes$Table.isFull()Z
def fn_64 (w : cm_W) (a0 : Nat) : Option Bool := (if cm_sh w a0 = some (.inl 7) then (cm_R w a0 1).bind fun r2 => (cm_al w r2).bind fun n4 => (if (((cm_I w a0 2) + (1 : Int32)) * (cm_I w a0 0)) ≤ (Int32.ofNat n4) then some false else some true) else none)
theorem jt_64_0 (w : cm_W) (a0 : Nat) : sm cm_g 64 ck_64 kq_64 0 [(0, .ref a0)] [] w ((fn_64 w a0).map (cm_fB w)) := by
  unfold fn_64
  refine sm_seg 1 1 [(0, .ref a0)] [.ref a0] rfl ?_
  refine sm_gd fun h1 => ?_
  refine sm_gI rfl h1 rfl ?_
  show sm _ _ _ _ 4 [(0, .ref a0)] [.int (cm_I w a0 2)] _ _
  refine sm_seg 3 7 [(0, .ref a0)] [.ref a0, .int ((cm_I w a0 2) + (1 : Int32))] rfl ?_
  refine sm_gI rfl h1 rfl ?_
  show sm _ _ _ _ 10 [(0, .ref a0)] [.int (cm_I w a0 0), .int ((cm_I w a0 2) + (1 : Int32))] _ _
  refine sm_seg 2 12 [(0, .ref a0)] [.ref a0, .int (((cm_I w a0 2) + (1 : Int32)) * (cm_I w a0 0))] rfl ?_
  refine sm_gR rfl h1 rfl rfl fun r2 h3 => ?_
  show sm _ _ _ _ 15 [(0, .ref a0)] [.ref r2, .int (((cm_I w a0 2) + (1 : Int32)) * (cm_I w a0 0))] _ _
  refine sm_len rfl rfl fun n4 h5 => ?_
  show sm _ _ _ _ 16 [(0, .ref a0)] [.int (Int32.ofNat n4), .int (((cm_I w a0 2) + (1 : Int32)) * (cm_I w a0 0))] _ _
  refine sm_if (pc1 := 23) (lv1 := []) (pc2 := 19) (lv2 := [(0, .ref a0)]) (st1 := []) rfl rfl rfl (fun h6 => ?_) (fun h6 => ?_)
  · refine sm_seg 1 24 [] [.int (0 : Int32)] rfl ?_
    exact sm_rB (b := false) rfl rfl
  · refine sm_seg 2 24 [] [.int (1 : Int32)] rfl ?_
    exact sm_rB (b := true) rfl rfl
theorem ca_64 (w : cm_W) (a0 : Nat) : cm_ca cm_g 64 [.ref a0] w ((fn_64 w a0).map (cm_fB w)) := cm_ca_of (cm_me_of rfl rfl) rfl (jt_64_0 w a0)
-- NailedBoxes$Reader.fail()V
def fn_65 (a0 : Nat) (w : cm_W) : Option cm_W := (if cm_sh w a0 = some (.inl 4) then (if ¬ (cm_I w a0 7) = (-1 : Int32) then some w else (cm_R w a0 0).bind fun r3 => (if cm_ga w .int r3 (cm_I w a0 6) = true then (if cm_w2 4 30 a0 = true then some (cm_sI w a0 7 (cm_I w r3 (cm_I w a0 6).toNatClampNeg)) else none) else none)) else none)
theorem jt_65_0 (a0 : Nat) (w : cm_W) : sm cm_g 65 ck_65 kq_65 0 [(0, .ref a0)] [] w ((fn_65 a0 w).map cm_gV) := by
  unfold fn_65
  refine sm_seg 1 1 [(0, .ref a0)] [.ref a0] rfl ?_
  refine sm_gd fun h1 => ?_
  refine sm_gI rfl h1 rfl ?_
  show sm _ _ _ _ 4 [(0, .ref a0)] [.int (cm_I w a0 7)] _ _
  refine sm_seg 1 5 [(0, .ref a0)] [.int (-1 : Int32), .int (cm_I w a0 7)] rfl ?_
  refine sm_if (pc1 := 21) (lv1 := []) (pc2 := 8) (lv2 := [(0, .ref a0)]) (st1 := []) rfl rfl rfl (fun h2 => ?_) (fun h2 => ?_)
  · exact sm_rV rfl rfl
  · refine sm_seg 2 10 [(0, .ref a0)] [.ref a0, .ref a0] rfl ?_
    refine sm_gR rfl h1 rfl rfl fun r3 h4 => ?_
    show sm _ _ _ _ 13 [(0, .ref a0)] [.ref r3, .ref a0] _ _
    refine sm_seg 1 14 [(0, .ref a0)] [.ref a0, .ref r3, .ref a0] rfl ?_
    refine sm_gI rfl h1 rfl ?_
    show sm _ _ _ _ 17 [(0, .ref a0)] [.int (cm_I w a0 6), .ref r3, .ref a0] _ _
    refine sm_gd fun h5 => ?_
    refine sm_ai rfl h5 rfl ?_
    show sm _ _ _ _ 18 [(0, .ref a0)] [.int (cm_I w r3 (cm_I w a0 6).toNatClampNeg), .ref a0] _ _
    refine sm_gd fun h6 => ?_
    refine sm_pI rfl h1 rfl h6 rfl ?_
    show sm _ _ _ _ 21 [] [] _ _
    exact sm_rV rfl rfl
theorem ca_65 (a0 : Nat) (w : cm_W) : cm_ca cm_g 65 [.ref a0] w ((fn_65 a0 w).map cm_gV) := cm_ca_of (cm_me_of rfl rfl) rfl (jt_65_0 a0 w)
-- NailedBoxes$Reader.accept(Z)V
def fn_66_12 (a0 : Nat) (w : cm_W) : Option cm_W := (if cm_sh w a0 = some (.inl 4) then (fn_65 a0 w).bind fun w2 => some w2 else none)
theorem jt_66_12 (a0 : Nat) (w : cm_W) : sm cm_g 66 ck_66 kq_66 12 [(0, .ref a0)] [] w ((fn_66_12 a0 w).map cm_gV) := by
  unfold fn_66_12
  refine sm_seg 1 13 [(0, .ref a0)] [.ref a0] rfl ?_
  refine sm_gd fun h1 => ?_
  refine sm_cV (as := []) (rest := []) rfl rfl rfl rfl h1 (Nat.le_of_ble_eq_true rfl) (ca_65  a0 w) fun w2 h3 => ?_
  show sm _ _ _ _ 16 [(0, .ref a0)] [] _ _
  refine sm_seg 1 42 [] [] rfl ?_
  exact sm_rV rfl rfl
def fn_66_19 (a0 : Nat) (w : cm_W) : Option cm_W := (if cm_sh w a0 = some (.inl 4) then (if ((cm_I w a0 5) - (1 : Int32)) ≤ (cm_I w a0 6) then some w else (if cm_w2 4 30 a0 = true then some (cm_sI w a0 6 ((cm_I w a0 6) + (1 : Int32))) else none)) else none)
theorem jt_66_19 (a0 : Nat) (w : cm_W) : sm cm_g 66 ck_66 kq_66 19 [(0, .ref a0)] [] w ((fn_66_19 a0 w).map cm_gV) := by
  unfold fn_66_19
  refine sm_seg 1 20 [(0, .ref a0)] [.ref a0] rfl ?_
  refine sm_gd fun h4 => ?_
  refine sm_gI rfl h4 rfl ?_
  show sm _ _ _ _ 23 [(0, .ref a0)] [.int (cm_I w a0 6)] _ _
  refine sm_seg 1 24 [(0, .ref a0)] [.ref a0, .int (cm_I w a0 6)] rfl ?_
  refine sm_gI rfl h4 rfl ?_
  show sm _ _ _ _ 27 [(0, .ref a0)] [.int (cm_I w a0 5), .int (cm_I w a0 6)] _ _
  refine sm_seg 2 29 [(0, .ref a0)] [.int ((cm_I w a0 5) - (1 : Int32)), .int (cm_I w a0 6)] rfl ?_
  refine sm_if (pc1 := 42) (lv1 := []) (pc2 := 32) (lv2 := [(0, .ref a0)]) (st1 := []) rfl rfl rfl (fun h5 => ?_) (fun h5 => ?_)
  · exact sm_rV rfl rfl
  · refine sm_seg 2 34 [(0, .ref a0)] [.ref a0, .ref a0] rfl ?_
    refine sm_gI rfl h4 rfl ?_
    show sm _ _ _ _ 37 [(0, .ref a0)] [.int (cm_I w a0 6), .ref a0] _ _
    refine sm_seg 2 39 [(0, .ref a0)] [.int ((cm_I w a0 6) + (1 : Int32)), .ref a0] rfl ?_
    refine sm_gd fun h6 => ?_
    refine sm_pI rfl h4 rfl h6 rfl ?_
    show sm _ _ _ _ 42 [] [] _ _
    exact sm_rV rfl rfl
def fn_66 (a0 : Nat) (i1 : Int32) (w : cm_W) : Option cm_W := (if i1 = 0 then fn_66_12  a0 w else (if cm_sh w a0 = some (.inl 4) then (if (cm_I w a0 7) = (-1 : Int32) then fn_66_19  a0 w else fn_66_12  a0 w) else none))
theorem jt_66_0 (a0 : Nat) (i1 : Int32) (w : cm_W) : sm cm_g 66 ck_66 kq_66 0 [(0, .ref a0), (1, .int i1)] [] w ((fn_66 a0 i1 w).map cm_gV) := by
  unfold fn_66
  refine sm_seg 1 1 [(0, .ref a0), (1, .int i1)] [.int i1] rfl ?_
  refine sm_if (pc1 := 12) (lv1 := [(0, .ref a0)]) (pc2 := 4) (lv2 := [(0, .ref a0), (1, .int i1)]) (st1 := []) rfl rfl rfl (fun h7 => ?_) (fun h7 => ?_)
  · exact jt_66_12  a0 w
  · refine sm_seg 1 5 [(0, .ref a0), (1, .int i1)] [.ref a0] rfl ?_
    refine sm_gd fun h8 => ?_
    refine sm_gI rfl h8 rfl ?_
    show sm _ _ _ _ 8 [(0, .ref a0), (1, .int i1)] [.int (cm_I w a0 7)] _ _
    refine sm_seg 1 9 [(0, .ref a0), (1, .int i1)] [.int (-1 : Int32), .int (cm_I w a0 7)] rfl ?_
    refine sm_if (pc1 := 19) (lv1 := [(0, .ref a0)]) (pc2 := 12) (lv2 := [(0, .ref a0)]) (st1 := []) rfl rfl rfl (fun h9 => ?_) (fun h9 => ?_)
    · exact jt_66_19  a0 w
    · exact jt_66_12  a0 w
theorem ca_66 (a0 : Nat) (i1 : Int32) (w : cm_W) : cm_ca cm_g 66 [.ref a0, .int i1] w ((fn_66 a0 i1 w).map cm_gV) := cm_ca_of (cm_me_of rfl rfl) rfl (jt_66_0 a0 i1 w)
-- NailedBoxes$Reader.isName()Z
def fn_67 (w : cm_W) (a0 : Nat) : Option Bool := (if cm_sh w a0 = some (.inl 4) then (cm_R w a0 1).bind fun r2 => (if cm_ga w .int r2 (cm_I w a0 6) = true then (if ¬ (cm_I w r2 (cm_I w a0 6).toNatClampNeg) = (1 : Int32) then some false else (cm_R w a0 4).bind fun r6 => (if cm_ga w .int r6 (cm_I w a0 6) = true then (if ¬ (cm_I w r6 (cm_I w a0 6).toNatClampNeg) = (-1 : Int32) then some false else (cm_R w a0 2).bind fun r10 => (if cm_ga w .int r10 (cm_I w a0 6) = true then (if (8 : Int32) < (cm_I w r10 (cm_I w a0 6).toNatClampNeg) then some false else some true) else none)) else none)) else none) else none)
theorem jt_67_0 (w : cm_W) (a0 : Nat) : sm cm_g 67 ck_67 kq_67 0 [(0, .ref a0)] [] w ((fn_67 w a0).map (cm_fB w)) := by
  unfold fn_67
  refine sm_seg 1 1 [(0, .ref a0)] [.ref a0] rfl ?_
  refine sm_gd fun h1 => ?_
  refine sm_gR rfl h1 rfl rfl fun r2 h3 => ?_
  show sm _ _ _ _ 4 [(0, .ref a0)] [.ref r2] _ _
  refine sm_seg 1 5 [(0, .ref a0)] [.ref a0, .ref r2] rfl ?_
  refine sm_gI rfl h1 rfl ?_
  show sm _ _ _ _ 8 [(0, .ref a0)] [.int (cm_I w a0 6), .ref r2] _ _
  refine sm_gd fun h4 => ?_
  refine sm_ai rfl h4 rfl ?_
  show sm _ _ _ _ 9 [(0, .ref a0)] [.int (cm_I w r2 (cm_I w a0 6).toNatClampNeg)] _ _
  refine sm_seg 1 10 [(0, .ref a0)] [.int (1 : Int32), .int (cm_I w r2 (cm_I w a0 6).toNatClampNeg)] rfl ?_
  refine sm_if (pc1 := 44) (lv1 := []) (pc2 := 13) (lv2 := [(0, .ref a0)]) (st1 := []) rfl rfl rfl (fun h5 => ?_) (fun h5 => ?_)
  · refine sm_seg 1 45 [] [.int (0 : Int32)] rfl ?_
    exact sm_rB (b := false) rfl rfl
  · refine sm_seg 1 14 [(0, .ref a0)] [.ref a0] rfl ?_
    refine sm_gR rfl h1 rfl rfl fun r6 h7 => ?_
    show sm _ _ _ _ 17 [(0, .ref a0)] [.ref r6] _ _
    refine sm_seg 1 18 [(0, .ref a0)] [.ref a0, .ref r6] rfl ?_
    refine sm_gI rfl h1 rfl ?_
    show sm _ _ _ _ 21 [(0, .ref a0)] [.int (cm_I w a0 6), .ref r6] _ _
    refine sm_gd fun h8 => ?_
    refine sm_ai rfl h8 rfl ?_
    show sm _ _ _ _ 22 [(0, .ref a0)] [.int (cm_I w r6 (cm_I w a0 6).toNatClampNeg)] _ _
    refine sm_seg 1 23 [(0, .ref a0)] [.int (-1 : Int32), .int (cm_I w r6 (cm_I w a0 6).toNatClampNeg)] rfl ?_
    refine sm_if (pc1 := 44) (lv1 := []) (pc2 := 26) (lv2 := [(0, .ref a0)]) (st1 := []) rfl rfl rfl (fun h9 => ?_) (fun h9 => ?_)
    · refine sm_seg 1 45 [] [.int (0 : Int32)] rfl ?_
      exact sm_rB (b := false) rfl rfl
    · refine sm_seg 1 27 [(0, .ref a0)] [.ref a0] rfl ?_
      refine sm_gR rfl h1 rfl rfl fun r10 h11 => ?_
      show sm _ _ _ _ 30 [(0, .ref a0)] [.ref r10] _ _
      refine sm_seg 1 31 [(0, .ref a0)] [.ref a0, .ref r10] rfl ?_
      refine sm_gI rfl h1 rfl ?_
      show sm _ _ _ _ 34 [(0, .ref a0)] [.int (cm_I w a0 6), .ref r10] _ _
      refine sm_gd fun h12 => ?_
      refine sm_ai rfl h12 rfl ?_
      show sm _ _ _ _ 35 [(0, .ref a0)] [.int (cm_I w r10 (cm_I w a0 6).toNatClampNeg)] _ _
      refine sm_seg 1 37 [(0, .ref a0)] [.int (8 : Int32), .int (cm_I w r10 (cm_I w a0 6).toNatClampNeg)] rfl ?_
      refine sm_if (pc1 := 44) (lv1 := []) (pc2 := 40) (lv2 := [(0, .ref a0)]) (st1 := []) rfl rfl rfl (fun h13 => ?_) (fun h13 => ?_)
      · refine sm_seg 1 45 [] [.int (0 : Int32)] rfl ?_
        exact sm_rB (b := false) rfl rfl
      · refine sm_seg 2 45 [] [.int (1 : Int32)] rfl ?_
        exact sm_rB (b := true) rfl rfl
theorem ca_67 (w : cm_W) (a0 : Nat) : cm_ca cm_g 67 [.ref a0] w ((fn_67 w a0).map (cm_fB w)) := cm_ca_of (cm_me_of rfl rfl) rfl (jt_67_0 w a0)
-- NailedBoxes$Reader.findName([JI)I
def fn_68_38 (w : cm_W) (k_2 : Nat → Nat → Int32 → Int32 → Option Int32) (a0 : Nat) (a1 : Nat) (i2 : Int32) (i3 : Int32) : Option Int32 := k_2 a0 a1 i2 (i3 + (1 : Int32))
theorem jt_68_38 (w : cm_W) (k_2 : Nat → Nat → Int32 → Int32 → Option Int32) (hk_2 : ∀ (a0 : Nat) (a1 : Nat) (i2 : Int32) (i3 : Int32), sm cm_g 68 ck_68 kq_68 2 [(0, .ref a0), (1, .ref a1), (2, .int i2), (3, .int i3)] [] w ((k_2 a0 a1 i2 i3).map (cm_fI w))) (a0 : Nat) (a1 : Nat) (i2 : Int32) (i3 : Int32) : sm cm_g 68 ck_68 kq_68 38 [(0, .ref a0), (1, .ref a1), (2, .int i2), (3, .int i3)] [] w ((fn_68_38 w k_2 a0 a1 i2 i3).map (cm_fI w)) := by
  unfold fn_68_38
  refine sm_seg 2 2 [(0, .ref a0), (1, .ref a1), (2, .int i2), (3, .int (i3 + (1 : Int32)))] [] rfl ?_
  exact hk_2 a0 a1 i2 (i3 + (1 : Int32))
def fn_68_2 (w : cm_W) : Nat → Nat → Nat → Int32 → Int32 → Option Int32
  | 0, _, _, _, _ => none
  | n + 1, a0, a1, i2, i3 => (if i2 ≤ i3 then some (-1 : Int32) else (cm_al w a1).bind fun n2 => (if (Int32.ofNat n2) ≤ i3 then some (-1 : Int32) else (if cm_sh w a0 = some (.inl 4) then (fn_67 w a0).bind fun v6 => (if (cm_b v6) = 0 then some (-1 : Int32) else (if cm_ga w .long a1 i3 = true then (cm_R w a0 3).bind fun r10 => (if cm_ga w .long r10 (cm_I w a0 6) = true then (if ¬ (lg_cmp (cm_L w a1 i3.toNatClampNeg) (cm_L w r10 (cm_I w a0 6).toNatClampNeg)) = 0 then fn_68_38 w (fn_68_2 w n) a0 a1 i2 i3 else some i3) else none) else none)) else none)))
theorem jt_68_2 (w : cm_W) : ∀ (n : Nat) (a0 : Nat) (a1 : Nat) (i2 : Int32) (i3 : Int32), sm cm_g 68 ck_68 kq_68 2 [(0, .ref a0), (1, .ref a1), (2, .int i2), (3, .int i3)] [] w ((fn_68_2 w n a0 a1 i2 i3).map (cm_fI w)) := by
  intro n
  induction n with
  | zero => intro a0 a1 i2 i3; exact sm_no
  | succ n ih =>
    intro a0 a1 i2 i3
    rw [fn_68_2]
    refine sm_seg 2 4 [(0, .ref a0), (1, .ref a1), (2, .int i2), (3, .int i3)] [.int i2, .int i3] rfl ?_
    refine sm_if (pc1 := 44) (lv1 := []) (pc2 := 7) (lv2 := [(0, .ref a0), (1, .ref a1), (2, .int i2), (3, .int i3)]) (st1 := []) rfl rfl rfl (fun h1 => ?_) (fun h1 => ?_)
    · refine sm_seg 1 45 [] [.int (-1 : Int32)] rfl ?_
      exact sm_rI rfl rfl
    · refine sm_seg 2 9 [(0, .ref a0), (1, .ref a1), (2, .int i2), (3, .int i3)] [.ref a1, .int i3] rfl ?_
      refine sm_len rfl rfl fun n2 h3 => ?_
      show sm _ _ _ _ 10 [(0, .ref a0), (1, .ref a1), (2, .int i2), (3, .int i3)] [.int (Int32.ofNat n2), .int i3] _ _
      refine sm_if (pc1 := 44) (lv1 := []) (pc2 := 13) (lv2 := [(0, .ref a0), (1, .ref a1), (2, .int i2), (3, .int i3)]) (st1 := []) rfl rfl rfl (fun h4 => ?_) (fun h4 => ?_)
      · refine sm_seg 1 45 [] [.int (-1 : Int32)] rfl ?_
        exact sm_rI rfl rfl
      · refine sm_seg 1 14 [(0, .ref a0), (1, .ref a1), (2, .int i2), (3, .int i3)] [.ref a0] rfl ?_
        refine sm_gd fun h5 => ?_
        refine sm_cV (as := []) (rest := []) rfl rfl rfl rfl h5 (Nat.le_of_ble_eq_true rfl) (ca_67 w a0) fun v6 h7 => ?_
        show sm _ _ _ _ 17 [(0, .ref a0), (1, .ref a1), (2, .int i2), (3, .int i3)] [.int (cm_b v6)] _ _
        refine sm_if (pc1 := 44) (lv1 := []) (pc2 := 20) (lv2 := [(0, .ref a0), (1, .ref a1), (2, .int i2), (3, .int i3)]) (st1 := []) rfl rfl rfl (fun h8 => ?_) (fun h8 => ?_)
        · refine sm_seg 1 45 [] [.int (-1 : Int32)] rfl ?_
          exact sm_rI rfl rfl
        · refine sm_seg 2 22 [(0, .ref a0), (1, .ref a1), (2, .int i2), (3, .int i3)] [.int i3, .ref a1] rfl ?_
          refine sm_gd fun h9 => ?_
          refine sm_al rfl h9 rfl ?_
          show sm _ _ _ _ 23 [(0, .ref a0), (1, .ref a1), (2, .int i2), (3, .int i3)] [.long (cm_L w a1 i3.toNatClampNeg)] _ _
          refine sm_seg 1 24 [(0, .ref a0), (1, .ref a1), (2, .int i2), (3, .int i3)] [.ref a0, .long (cm_L w a1 i3.toNatClampNeg)] rfl ?_
          refine sm_gR rfl h5 rfl rfl fun r10 h11 => ?_
          show sm _ _ _ _ 27 [(0, .ref a0), (1, .ref a1), (2, .int i2), (3, .int i3)] [.ref r10, .long (cm_L w a1 i3.toNatClampNeg)] _ _
          refine sm_seg 1 28 [(0, .ref a0), (1, .ref a1), (2, .int i2), (3, .int i3)] [.ref a0, .ref r10, .long (cm_L w a1 i3.toNatClampNeg)] rfl ?_
          refine sm_gI rfl h5 rfl ?_
          show sm _ _ _ _ 31 [(0, .ref a0), (1, .ref a1), (2, .int i2), (3, .int i3)] [.int (cm_I w a0 6), .ref r10, .long (cm_L w a1 i3.toNatClampNeg)] _ _
          refine sm_gd fun h12 => ?_
          refine sm_al rfl h12 rfl ?_
          show sm _ _ _ _ 32 [(0, .ref a0), (1, .ref a1), (2, .int i2), (3, .int i3)] [.long (cm_L w r10 (cm_I w a0 6).toNatClampNeg), .long (cm_L w a1 i3.toNatClampNeg)] _ _
          refine sm_seg 1 33 [(0, .ref a0), (1, .ref a1), (2, .int i2), (3, .int i3)] [.int (lg_cmp (cm_L w a1 i3.toNatClampNeg) (cm_L w r10 (cm_I w a0 6).toNatClampNeg))] rfl ?_
          refine sm_if (pc1 := 38) (lv1 := [(0, .ref a0), (1, .ref a1), (2, .int i2), (3, .int i3)]) (pc2 := 36) (lv2 := [(0, .ref a0), (1, .ref a1), (2, .int i2), (3, .int i3)]) (st1 := []) rfl rfl rfl (fun h13 => ?_) (fun h13 => ?_)
          · exact jt_68_38 w (fn_68_2 w n) ih a0 a1 i2 i3
          · refine sm_seg 1 37 [(0, .ref a0), (1, .ref a1), (2, .int i2), (3, .int i3)] [.int i3] rfl ?_
            exact sm_rI rfl rfl
def fn_68 (w : cm_W) (a0 : Nat) (a1 : Nat) (i2 : Int32) : Option Int32 := fn_68_2 w cm_N a0 a1 i2 (0 : Int32)
theorem jt_68_0 (w : cm_W) (a0 : Nat) (a1 : Nat) (i2 : Int32) : sm cm_g 68 ck_68 kq_68 0 [(0, .ref a0), (1, .ref a1), (2, .int i2)] [] w ((fn_68 w a0 a1 i2).map (cm_fI w)) := by
  unfold fn_68
  refine sm_seg 2 2 [(0, .ref a0), (1, .ref a1), (2, .int i2), (3, .int (0 : Int32))] [] rfl ?_
  exact jt_68_2 w cm_N a0 a1 i2 (0 : Int32)
theorem ca_68 (w : cm_W) (a0 : Nat) (a1 : Nat) (i2 : Int32) : cm_ca cm_g 68 [.ref a0, .ref a1, .int i2] w ((fn_68 w a0 a1 i2).map (cm_fI w)) := cm_ca_of (cm_me_of rfl rfl) rfl (jt_68_0 w a0 a1 i2)
-- NailedBoxes$Reader.takeNewName(LNailedBoxes$Table;)J
def fn_69_64 (a0 : Nat) (a1 : Nat) (j2 : Int64) (w : cm_W) : Option (Int64 × cm_W) := (if cm_sh w a0 = some (.inl 4) then (fn_67 w a0).bind fun v2 => (if (cm_b v2) = 0 then (fn_66 a0 (0 : Int32) w).bind fun w5 => some (j2, w5) else (fn_66 a0 (0 : Int32) w).bind fun w7 => some (j2, w7)) else none)
theorem jt_69_64 (a0 : Nat) (a1 : Nat) (j2 : Int64) (w : cm_W) : sm cm_g 69 ck_69 kq_69 64 [(0, .ref a0), (1, .ref a1), (2, .long j2)] [] w ((fn_69_64 a0 a1 j2 w).map cm_gL) := by
  unfold fn_69_64
  refine sm_seg 4 69 [(4, .int (0 : Int32)), (0, .ref a0), (1, .ref a1), (2, .long j2)] [.ref a0, .ref a0] rfl ?_
  refine sm_gd fun h1 => ?_
  refine sm_cV (as := []) (rest := [.ref a0]) rfl rfl rfl rfl h1 (Nat.le_of_ble_eq_true rfl) (ca_67 w a0) fun v2 h3 => ?_
  show sm _ _ _ _ 72 [(4, .int (0 : Int32)), (0, .ref a0), (1, .ref a1), (2, .long j2)] [.int (cm_b v2), .ref a0] _ _
  refine sm_if (pc1 := 91) (lv1 := [(2, .long j2)]) (pc2 := 75) (lv2 := [(4, .int (0 : Int32)), (0, .ref a0), (1, .ref a1), (2, .long j2)]) (st1 := [.ref a0]) rfl rfl rfl (fun h4 => ?_) (fun h4 => ?_)
  · refine sm_seg 1 92 [(2, .long j2)] [.int (0 : Int32), .ref a0] rfl ?_
    refine sm_cV (as := [.int (0 : Int32)]) (rest := []) rfl rfl rfl rfl h1 (Nat.le_of_ble_eq_true rfl) (ca_66  a0 (0 : Int32) w) fun w5 h6 => ?_
    show sm _ _ _ _ 95 [(2, .long j2)] [] _ _
    refine sm_seg 1 96 [(2, .long j2)] [.long j2] rfl ?_
    exact sm_rLW rfl rfl
  · refine sm_seg 1 77 [(4, .int (0 : Int32)), (0, .ref a0), (1, .ref a1), (2, .long j2)] [.int (0 : Int32), .ref a0] rfl ?_
    refine sm_ift (c := (0 : Int32) = 0) (pc1 := 91) (pc2 := 80) (lv1 := [(2, .long j2)]) (st1 := [.ref a0]) rfl (by decide) rfl ?_
    refine sm_seg 1 92 [(2, .long j2)] [.int (0 : Int32), .ref a0] rfl ?_
    refine sm_cV (as := [.int (0 : Int32)]) (rest := []) rfl rfl rfl rfl h1 (Nat.le_of_ble_eq_true rfl) (ca_66  a0 (0 : Int32) w) fun w7 h8 => ?_
    show sm _ _ _ _ 95 [(2, .long j2)] [] _ _
    refine sm_seg 1 96 [(2, .long j2)] [.long j2] rfl ?_
    exact sm_rLW rfl rfl
def fn_69 (a0 : Nat) (a1 : Nat) (w : cm_W) : Option (Int64 × cm_W) := (if cm_sh w a0 = some (.inl 4) then (cm_R w a0 3).bind fun r10 => (if cm_ga w .long r10 (cm_I w a0 6) = true then (cm_R w a0 8).bind fun r13 => (if cm_sh w r13 = some (.inl 9) then (cm_R w r13 0).bind fun r16 => (cm_R w a0 8).bind fun r18 => (if cm_sh w r18 = some (.inl 9) then (cm_R w r18 1).bind fun r21 => (if cm_sh w r21 = some (.inl 7) then (fn_68 w a0 r16 (cm_I w r21 2)).bind fun v24 => (if ¬ v24 = (-1 : Int32) then fn_69_64  a0 a1 (cm_L w r10 (cm_I w a0 6).toNatClampNeg) w else (cm_R w a0 8).bind fun r27 => (if cm_sh w r27 = some (.inl 9) then (cm_R w r27 2).bind fun r30 => (cm_R w a0 8).bind fun r32 => (if cm_sh w r32 = some (.inl 9) then (cm_R w r32 3).bind fun r35 => (if cm_sh w r35 = some (.inl 7) then (fn_68 w a0 r30 (cm_I w r35 2)).bind fun v38 => (if ¬ v38 = (-1 : Int32) then fn_69_64  a0 a1 (cm_L w r10 (cm_I w a0 6).toNatClampNeg) w else (fn_67 w a0).bind fun v41 => (if (cm_b v41) = 0 then (fn_66 a0 (0 : Int32) w).bind fun w44 => some ((cm_L w r10 (cm_I w a0 6).toNatClampNeg), w44) else (if cm_sh w a1 = some (.inl 7) then (fn_64 w a1).bind fun v47 => (if ¬ (cm_b v47) = 0 then (fn_66 a0 (0 : Int32) w).bind fun w50 => some ((cm_L w r10 (cm_I w a0 6).toNatClampNeg), w50) else (fn_66 a0 (1 : Int32) w).bind fun w52 => some ((cm_L w r10 (cm_I w a0 6).toNatClampNeg), w52)) else none))) else none) else none) else none)) else none) else none) else none) else none) else none)
theorem jt_69_0 (a0 : Nat) (a1 : Nat) (w : cm_W) : sm cm_g 69 ck_69 kq_69 0 [(0, .ref a0), (1, .ref a1)] [] w ((fn_69 a0 a1 w).map cm_gL) := by
  unfold fn_69
  refine sm_seg 1 1 [(0, .ref a0), (1, .ref a1)] [.ref a0] rfl ?_
  refine sm_gd fun h9 => ?_
  refine sm_gR rfl h9 rfl rfl fun r10 h11 => ?_
  show sm _ _ _ _ 4 [(0, .ref a0), (1, .ref a1)] [.ref r10] _ _
  refine sm_seg 1 5 [(0, .ref a0), (1, .ref a1)] [.ref a0, .ref r10] rfl ?_
  refine sm_gI rfl h9 rfl ?_
  show sm _ _ _ _ 8 [(0, .ref a0), (1, .ref a1)] [.int (cm_I w a0 6), .ref r10] _ _
  refine sm_gd fun h12 => ?_
  refine sm_al rfl h12 rfl ?_
  show sm _ _ _ _ 9 [(0, .ref a0), (1, .ref a1)] [.long (cm_L w r10 (cm_I w a0 6).toNatClampNeg)] _ _
  refine sm_seg 3 12 [(2, .long (cm_L w r10 (cm_I w a0 6).toNatClampNeg)), (0, .ref a0), (1, .ref a1)] [.ref a0, .ref a0] rfl ?_
  refine sm_gR rfl h9 rfl rfl fun r13 h14 => ?_
  show sm _ _ _ _ 15 [(2, .long (cm_L w r10 (cm_I w a0 6).toNatClampNeg)), (0, .ref a0), (1, .ref a1)] [.ref r13, .ref a0] _ _
  refine sm_gd fun h15 => ?_
  refine sm_gR rfl h15 rfl rfl fun r16 h17 => ?_
  show sm _ _ _ _ 18 [(2, .long (cm_L w r10 (cm_I w a0 6).toNatClampNeg)), (0, .ref a0), (1, .ref a1)] [.ref r16, .ref a0] _ _
  refine sm_seg 1 19 [(2, .long (cm_L w r10 (cm_I w a0 6).toNatClampNeg)), (0, .ref a0), (1, .ref a1)] [.ref a0, .ref r16, .ref a0] rfl ?_
  refine sm_gR rfl h9 rfl rfl fun r18 h19 => ?_
  show sm _ _ _ _ 22 [(2, .long (cm_L w r10 (cm_I w a0 6).toNatClampNeg)), (0, .ref a0), (1, .ref a1)] [.ref r18, .ref r16, .ref a0] _ _
  refine sm_gd fun h20 => ?_
  refine sm_gR rfl h20 rfl rfl fun r21 h22 => ?_
  show sm _ _ _ _ 25 [(2, .long (cm_L w r10 (cm_I w a0 6).toNatClampNeg)), (0, .ref a0), (1, .ref a1)] [.ref r21, .ref r16, .ref a0] _ _
  refine sm_gd fun h23 => ?_
  refine sm_gI rfl h23 rfl ?_
  show sm _ _ _ _ 28 [(2, .long (cm_L w r10 (cm_I w a0 6).toNatClampNeg)), (0, .ref a0), (1, .ref a1)] [.int (cm_I w r21 2), .ref r16, .ref a0] _ _
  refine sm_cV (as := [.ref r16, .int (cm_I w r21 2)]) (rest := []) rfl rfl rfl rfl h9 (Nat.le_of_ble_eq_true rfl) (ca_68 w a0 r16 (cm_I w r21 2)) fun v24 h25 => ?_
  show sm _ _ _ _ 31 [(2, .long (cm_L w r10 (cm_I w a0 6).toNatClampNeg)), (0, .ref a0), (1, .ref a1)] [.int v24] _ _
  refine sm_seg 1 32 [(2, .long (cm_L w r10 (cm_I w a0 6).toNatClampNeg)), (0, .ref a0), (1, .ref a1)] [.int (-1 : Int32), .int v24] rfl ?_
  refine sm_if (pc1 := 64) (lv1 := [(0, .ref a0), (1, .ref a1), (2, .long (cm_L w r10 (cm_I w a0 6).toNatClampNeg))]) (pc2 := 35) (lv2 := [(2, .long (cm_L w r10 (cm_I w a0 6).toNatClampNeg)), (0, .ref a0), (1, .ref a1)]) (st1 := []) rfl rfl rfl (fun h26 => ?_) (fun h26 => ?_)
  · exact jt_69_64  a0 a1 (cm_L w r10 (cm_I w a0 6).toNatClampNeg) w
  · refine sm_seg 2 37 [(2, .long (cm_L w r10 (cm_I w a0 6).toNatClampNeg)), (0, .ref a0), (1, .ref a1)] [.ref a0, .ref a0] rfl ?_
    refine sm_gR rfl h9 rfl rfl fun r27 h28 => ?_
    show sm _ _ _ _ 40 [(2, .long (cm_L w r10 (cm_I w a0 6).toNatClampNeg)), (0, .ref a0), (1, .ref a1)] [.ref r27, .ref a0] _ _
    refine sm_gd fun h29 => ?_
    refine sm_gR rfl h29 rfl rfl fun r30 h31 => ?_
    show sm _ _ _ _ 43 [(2, .long (cm_L w r10 (cm_I w a0 6).toNatClampNeg)), (0, .ref a0), (1, .ref a1)] [.ref r30, .ref a0] _ _
    refine sm_seg 1 44 [(2, .long (cm_L w r10 (cm_I w a0 6).toNatClampNeg)), (0, .ref a0), (1, .ref a1)] [.ref a0, .ref r30, .ref a0] rfl ?_
    refine sm_gR rfl h9 rfl rfl fun r32 h33 => ?_
    show sm _ _ _ _ 47 [(2, .long (cm_L w r10 (cm_I w a0 6).toNatClampNeg)), (0, .ref a0), (1, .ref a1)] [.ref r32, .ref r30, .ref a0] _ _
    refine sm_gd fun h34 => ?_
    refine sm_gR rfl h34 rfl rfl fun r35 h36 => ?_
    show sm _ _ _ _ 50 [(2, .long (cm_L w r10 (cm_I w a0 6).toNatClampNeg)), (0, .ref a0), (1, .ref a1)] [.ref r35, .ref r30, .ref a0] _ _
    refine sm_gd fun h37 => ?_
    refine sm_gI rfl h37 rfl ?_
    show sm _ _ _ _ 53 [(2, .long (cm_L w r10 (cm_I w a0 6).toNatClampNeg)), (0, .ref a0), (1, .ref a1)] [.int (cm_I w r35 2), .ref r30, .ref a0] _ _
    refine sm_cV (as := [.ref r30, .int (cm_I w r35 2)]) (rest := []) rfl rfl rfl rfl h9 (Nat.le_of_ble_eq_true rfl) (ca_68 w a0 r30 (cm_I w r35 2)) fun v38 h39 => ?_
    show sm _ _ _ _ 56 [(2, .long (cm_L w r10 (cm_I w a0 6).toNatClampNeg)), (0, .ref a0), (1, .ref a1)] [.int v38] _ _
    refine sm_seg 1 57 [(2, .long (cm_L w r10 (cm_I w a0 6).toNatClampNeg)), (0, .ref a0), (1, .ref a1)] [.int (-1 : Int32), .int v38] rfl ?_
    refine sm_if (pc1 := 64) (lv1 := [(0, .ref a0), (1, .ref a1), (2, .long (cm_L w r10 (cm_I w a0 6).toNatClampNeg))]) (pc2 := 60) (lv2 := [(2, .long (cm_L w r10 (cm_I w a0 6).toNatClampNeg)), (0, .ref a0), (1, .ref a1)]) (st1 := []) rfl rfl rfl (fun h40 => ?_) (fun h40 => ?_)
    · exact jt_69_64  a0 a1 (cm_L w r10 (cm_I w a0 6).toNatClampNeg) w
    · refine sm_seg 5 69 [(4, .int (1 : Int32)), (0, .ref a0), (1, .ref a1), (2, .long (cm_L w r10 (cm_I w a0 6).toNatClampNeg))] [.ref a0, .ref a0] rfl ?_
      refine sm_cV (as := []) (rest := [.ref a0]) rfl rfl rfl rfl h9 (Nat.le_of_ble_eq_true rfl) (ca_67 w a0) fun v41 h42 => ?_
      show sm _ _ _ _ 72 [(4, .int (1 : Int32)), (0, .ref a0), (1, .ref a1), (2, .long (cm_L w r10 (cm_I w a0 6).toNatClampNeg))] [.int (cm_b v41), .ref a0] _ _
      refine sm_if (pc1 := 91) (lv1 := [(2, .long (cm_L w r10 (cm_I w a0 6).toNatClampNeg))]) (pc2 := 75) (lv2 := [(4, .int (1 : Int32)), (0, .ref a0), (1, .ref a1), (2, .long (cm_L w r10 (cm_I w a0 6).toNatClampNeg))]) (st1 := [.ref a0]) rfl rfl rfl (fun h43 => ?_) (fun h43 => ?_)
      · refine sm_seg 1 92 [(2, .long (cm_L w r10 (cm_I w a0 6).toNatClampNeg))] [.int (0 : Int32), .ref a0] rfl ?_
        refine sm_cV (as := [.int (0 : Int32)]) (rest := []) rfl rfl rfl rfl h9 (Nat.le_of_ble_eq_true rfl) (ca_66  a0 (0 : Int32) w) fun w44 h45 => ?_
        show sm _ _ _ _ 95 [(2, .long (cm_L w r10 (cm_I w a0 6).toNatClampNeg))] [] _ _
        refine sm_seg 1 96 [(2, .long (cm_L w r10 (cm_I w a0 6).toNatClampNeg))] [.long (cm_L w r10 (cm_I w a0 6).toNatClampNeg)] rfl ?_
        exact sm_rLW rfl rfl
      · refine sm_seg 1 77 [(4, .int (1 : Int32)), (0, .ref a0), (1, .ref a1), (2, .long (cm_L w r10 (cm_I w a0 6).toNatClampNeg))] [.int (1 : Int32), .ref a0] rfl ?_
        refine sm_iff (c := (1 : Int32) = 0) (pc1 := 91) (pc2 := 80) (lv1 := [(4, .int (1 : Int32)), (0, .ref a0), (1, .ref a1), (2, .long (cm_L w r10 (cm_I w a0 6).toNatClampNeg))]) (st1 := [.ref a0]) rfl (by decide) rfl ?_
        refine sm_seg 1 81 [(4, .int (1 : Int32)), (0, .ref a0), (1, .ref a1), (2, .long (cm_L w r10 (cm_I w a0 6).toNatClampNeg))] [.ref a1, .ref a0] rfl ?_
        refine sm_gd fun h46 => ?_
        refine sm_cV (as := []) (rest := [.ref a0]) rfl rfl rfl rfl h46 (Nat.le_of_ble_eq_true rfl) (ca_64 w a1) fun v47 h48 => ?_
        show sm _ _ _ _ 84 [(4, .int (1 : Int32)), (0, .ref a0), (1, .ref a1), (2, .long (cm_L w r10 (cm_I w a0 6).toNatClampNeg))] [.int (cm_b v47), .ref a0] _ _
        refine sm_if (pc1 := 91) (lv1 := [(2, .long (cm_L w r10 (cm_I w a0 6).toNatClampNeg))]) (pc2 := 87) (lv2 := [(4, .int (1 : Int32)), (0, .ref a0), (1, .ref a1), (2, .long (cm_L w r10 (cm_I w a0 6).toNatClampNeg))]) (st1 := [.ref a0]) rfl rfl rfl (fun h49 => ?_) (fun h49 => ?_)
        · refine sm_seg 1 92 [(2, .long (cm_L w r10 (cm_I w a0 6).toNatClampNeg))] [.int (0 : Int32), .ref a0] rfl ?_
          refine sm_cV (as := [.int (0 : Int32)]) (rest := []) rfl rfl rfl rfl h9 (Nat.le_of_ble_eq_true rfl) (ca_66  a0 (0 : Int32) w) fun w50 h51 => ?_
          show sm _ _ _ _ 95 [(2, .long (cm_L w r10 (cm_I w a0 6).toNatClampNeg))] [] _ _
          refine sm_seg 1 96 [(2, .long (cm_L w r10 (cm_I w a0 6).toNatClampNeg))] [.long (cm_L w r10 (cm_I w a0 6).toNatClampNeg)] rfl ?_
          exact sm_rLW rfl rfl
        · refine sm_seg 2 92 [(2, .long (cm_L w r10 (cm_I w a0 6).toNatClampNeg))] [.int (1 : Int32), .ref a0] rfl ?_
          refine sm_cV (as := [.int (1 : Int32)]) (rest := []) rfl rfl rfl rfl h9 (Nat.le_of_ble_eq_true rfl) (ca_66  a0 (1 : Int32) w) fun w52 h53 => ?_
          show sm _ _ _ _ 95 [(2, .long (cm_L w r10 (cm_I w a0 6).toNatClampNeg))] [] _ _
          refine sm_seg 1 96 [(2, .long (cm_L w r10 (cm_I w a0 6).toNatClampNeg))] [.long (cm_L w r10 (cm_I w a0 6).toNatClampNeg)] rfl ?_
          exact sm_rLW rfl rfl
theorem ca_69 (a0 : Nat) (a1 : Nat) (w : cm_W) : cm_ca cm_g 69 [.ref a0, .ref a1] w ((fn_69 a0 a1 w).map cm_gL) := cm_ca_of (cm_me_of rfl rfl) rfl (jt_69_0 a0 a1 w)
-- NailedBoxes$Reader.takeNumber(II)I
def fn_70_79 (a0 : Nat) (i3 : Int32) (w : cm_W) : Option (Int32 × cm_W) := (if cm_sh w a0 = some (.inl 4) then (fn_66 a0 i3 w).bind fun w2 => some ((-1 : Int32), w2) else none)
theorem jt_70_79 (a0 : Nat) (i3 : Int32) (w : cm_W) : sm cm_g 70 ck_70 kq_70 79 [(0, .ref a0), (3, .int i3)] [] w ((fn_70_79 a0 i3 w).map cm_gI) := by
  unfold fn_70_79
  refine sm_seg 4 84 [(4, .int (-1 : Int32)), (0, .ref a0), (3, .int i3)] [.int i3, .ref a0] rfl ?_
  refine sm_gd fun h1 => ?_
  refine sm_cV (as := [.int i3]) (rest := []) rfl rfl rfl rfl h1 (Nat.le_of_ble_eq_true rfl) (ca_66  a0 i3 w) fun w2 h3 => ?_
  show sm _ _ _ _ 87 [(4, .int (-1 : Int32)), (0, .ref a0), (3, .int i3)] [] _ _
  refine sm_seg 1 89 [(4, .int (-1 : Int32)), (0, .ref a0), (3, .int i3)] [.int (-1 : Int32)] rfl ?_
  exact sm_rIW rfl rfl
def fn_70_60 (a0 : Nat) (w : cm_W) : Option (Int32 × cm_W) := fn_70_79  a0 (0 : Int32) w
theorem jt_70_60 (a0 : Nat) (w : cm_W) : sm cm_g 70 ck_70 kq_70 60 [(0, .ref a0)] [] w ((fn_70_60 a0 w).map cm_gI) := by
  unfold fn_70_60
  refine sm_seg 3 63 [(3, .int (0 : Int32)), (0, .ref a0)] [.int (0 : Int32)] rfl ?_
  refine sm_ift (c := (0 : Int32) = 0) (pc1 := 79) (pc2 := 66) (lv1 := [(0, .ref a0), (3, .int (0 : Int32))]) (st1 := []) rfl (by decide) rfl ?_
  exact jt_70_79  a0 (0 : Int32) w
def fn_70 (a0 : Nat) (i1 : Int32) (i2 : Int32) (w : cm_W) : Option (Int32 × cm_W) := (if cm_sh w a0 = some (.inl 4) then (cm_R w a0 1).bind fun r5 => (if cm_ga w .int r5 (cm_I w a0 6) = true then (if ¬ (cm_I w r5 (cm_I w a0 6).toNatClampNeg) = (2 : Int32) then fn_70_60  a0 w else (cm_R w a0 2).bind fun r9 => (if cm_ga w .int r9 (cm_I w a0 6) = true then (if (4 : Int32) < (cm_I w r9 (cm_I w a0 6).toNatClampNeg) then fn_70_60  a0 w else (cm_R w a0 3).bind fun r13 => (if cm_ga w .long r13 (cm_I w a0 6) = true then (if (lg_cmp (cm_L w r13 (cm_I w a0 6).toNatClampNeg) (Int32.toInt64 i1)) < 0 then fn_70_60  a0 w else (cm_R w a0 3).bind fun r17 => (if cm_ga w .long r17 (cm_I w a0 6) = true then (if 0 < (lg_cmp (cm_L w r17 (cm_I w a0 6).toNatClampNeg) (Int32.toInt64 i2)) then fn_70_60  a0 w else (cm_R w a0 3).bind fun r21 => (if cm_ga w .long r21 (cm_I w a0 6) = true then (fn_66 a0 (1 : Int32) w).bind fun w24 => some ((Int64.toInt32 (cm_L w r21 (cm_I w a0 6).toNatClampNeg)), w24) else none)) else none)) else none)) else none)) else none) else none)
theorem jt_70_0 (a0 : Nat) (i1 : Int32) (i2 : Int32) (w : cm_W) : sm cm_g 70 ck_70 kq_70 0 [(0, .ref a0), (1, .int i1), (2, .int i2)] [] w ((fn_70 a0 i1 i2 w).map cm_gI) := by
  unfold fn_70
  refine sm_seg 1 1 [(0, .ref a0), (1, .int i1), (2, .int i2)] [.ref a0] rfl ?_
  refine sm_gd fun h4 => ?_
  refine sm_gR rfl h4 rfl rfl fun r5 h6 => ?_
  show sm _ _ _ _ 4 [(0, .ref a0), (1, .int i1), (2, .int i2)] [.ref r5] _ _
  refine sm_seg 1 5 [(0, .ref a0), (1, .int i1), (2, .int i2)] [.ref a0, .ref r5] rfl ?_
  refine sm_gI rfl h4 rfl ?_
  show sm _ _ _ _ 8 [(0, .ref a0), (1, .int i1), (2, .int i2)] [.int (cm_I w a0 6), .ref r5] _ _
  refine sm_gd fun h7 => ?_
  refine sm_ai rfl h7 rfl ?_
  show sm _ _ _ _ 9 [(0, .ref a0), (1, .int i1), (2, .int i2)] [.int (cm_I w r5 (cm_I w a0 6).toNatClampNeg)] _ _
  refine sm_seg 1 10 [(0, .ref a0), (1, .int i1), (2, .int i2)] [.int (2 : Int32), .int (cm_I w r5 (cm_I w a0 6).toNatClampNeg)] rfl ?_
  refine sm_if (pc1 := 60) (lv1 := [(0, .ref a0)]) (pc2 := 13) (lv2 := [(0, .ref a0), (1, .int i1), (2, .int i2)]) (st1 := []) rfl rfl rfl (fun h8 => ?_) (fun h8 => ?_)
  · exact jt_70_60  a0 w
  · refine sm_seg 1 14 [(0, .ref a0), (1, .int i1), (2, .int i2)] [.ref a0] rfl ?_
    refine sm_gR rfl h4 rfl rfl fun r9 h10 => ?_
    show sm _ _ _ _ 17 [(0, .ref a0), (1, .int i1), (2, .int i2)] [.ref r9] _ _
    refine sm_seg 1 18 [(0, .ref a0), (1, .int i1), (2, .int i2)] [.ref a0, .ref r9] rfl ?_
    refine sm_gI rfl h4 rfl ?_
    show sm _ _ _ _ 21 [(0, .ref a0), (1, .int i1), (2, .int i2)] [.int (cm_I w a0 6), .ref r9] _ _
    refine sm_gd fun h11 => ?_
    refine sm_ai rfl h11 rfl ?_
    show sm _ _ _ _ 22 [(0, .ref a0), (1, .int i1), (2, .int i2)] [.int (cm_I w r9 (cm_I w a0 6).toNatClampNeg)] _ _
    refine sm_seg 1 23 [(0, .ref a0), (1, .int i1), (2, .int i2)] [.int (4 : Int32), .int (cm_I w r9 (cm_I w a0 6).toNatClampNeg)] rfl ?_
    refine sm_if (pc1 := 60) (lv1 := [(0, .ref a0)]) (pc2 := 26) (lv2 := [(0, .ref a0), (1, .int i1), (2, .int i2)]) (st1 := []) rfl rfl rfl (fun h12 => ?_) (fun h12 => ?_)
    · exact jt_70_60  a0 w
    · refine sm_seg 1 27 [(0, .ref a0), (1, .int i1), (2, .int i2)] [.ref a0] rfl ?_
      refine sm_gR rfl h4 rfl rfl fun r13 h14 => ?_
      show sm _ _ _ _ 30 [(0, .ref a0), (1, .int i1), (2, .int i2)] [.ref r13] _ _
      refine sm_seg 1 31 [(0, .ref a0), (1, .int i1), (2, .int i2)] [.ref a0, .ref r13] rfl ?_
      refine sm_gI rfl h4 rfl ?_
      show sm _ _ _ _ 34 [(0, .ref a0), (1, .int i1), (2, .int i2)] [.int (cm_I w a0 6), .ref r13] _ _
      refine sm_gd fun h15 => ?_
      refine sm_al rfl h15 rfl ?_
      show sm _ _ _ _ 35 [(0, .ref a0), (1, .int i1), (2, .int i2)] [.long (cm_L w r13 (cm_I w a0 6).toNatClampNeg)] _ _
      refine sm_seg 3 38 [(0, .ref a0), (1, .int i1), (2, .int i2)] [.int (lg_cmp (cm_L w r13 (cm_I w a0 6).toNatClampNeg) (Int32.toInt64 i1))] rfl ?_
      refine sm_if (pc1 := 60) (lv1 := [(0, .ref a0)]) (pc2 := 41) (lv2 := [(0, .ref a0), (1, .int i1), (2, .int i2)]) (st1 := []) rfl rfl rfl (fun h16 => ?_) (fun h16 => ?_)
      · exact jt_70_60  a0 w
      · refine sm_seg 1 42 [(0, .ref a0), (1, .int i1), (2, .int i2)] [.ref a0] rfl ?_
        refine sm_gR rfl h4 rfl rfl fun r17 h18 => ?_
        show sm _ _ _ _ 45 [(0, .ref a0), (1, .int i1), (2, .int i2)] [.ref r17] _ _
        refine sm_seg 1 46 [(0, .ref a0), (1, .int i1), (2, .int i2)] [.ref a0, .ref r17] rfl ?_
        refine sm_gI rfl h4 rfl ?_
        show sm _ _ _ _ 49 [(0, .ref a0), (1, .int i1), (2, .int i2)] [.int (cm_I w a0 6), .ref r17] _ _
        refine sm_gd fun h19 => ?_
        refine sm_al rfl h19 rfl ?_
        show sm _ _ _ _ 50 [(0, .ref a0), (1, .int i1), (2, .int i2)] [.long (cm_L w r17 (cm_I w a0 6).toNatClampNeg)] _ _
        refine sm_seg 3 53 [(0, .ref a0), (1, .int i1), (2, .int i2)] [.int (lg_cmp (cm_L w r17 (cm_I w a0 6).toNatClampNeg) (Int32.toInt64 i2))] rfl ?_
        refine sm_if (pc1 := 60) (lv1 := [(0, .ref a0)]) (pc2 := 56) (lv2 := [(0, .ref a0), (1, .int i1), (2, .int i2)]) (st1 := []) rfl rfl rfl (fun h20 => ?_) (fun h20 => ?_)
        · exact jt_70_60  a0 w
        · refine sm_seg 4 63 [(3, .int (1 : Int32)), (0, .ref a0)] [.int (1 : Int32)] rfl ?_
          refine sm_iff (c := (1 : Int32) = 0) (pc1 := 79) (pc2 := 66) (lv1 := [(3, .int (1 : Int32)), (0, .ref a0)]) (st1 := []) rfl (by decide) rfl ?_
          refine sm_seg 1 67 [(3, .int (1 : Int32)), (0, .ref a0)] [.ref a0] rfl ?_
          refine sm_gR rfl h4 rfl rfl fun r21 h22 => ?_
          show sm _ _ _ _ 70 [(3, .int (1 : Int32)), (0, .ref a0)] [.ref r21] _ _
          refine sm_seg 1 71 [(3, .int (1 : Int32)), (0, .ref a0)] [.ref a0, .ref r21] rfl ?_
          refine sm_gI rfl h4 rfl ?_
          show sm _ _ _ _ 74 [(3, .int (1 : Int32)), (0, .ref a0)] [.int (cm_I w a0 6), .ref r21] _ _
          refine sm_gd fun h23 => ?_
          refine sm_al rfl h23 rfl ?_
          show sm _ _ _ _ 75 [(3, .int (1 : Int32)), (0, .ref a0)] [.long (cm_L w r21 (cm_I w a0 6).toNatClampNeg)] _ _
          refine sm_seg 5 84 [(4, .int (Int64.toInt32 (cm_L w r21 (cm_I w a0 6).toNatClampNeg))), (0, .ref a0), (3, .int (1 : Int32))] [.int (1 : Int32), .ref a0] rfl ?_
          refine sm_cV (as := [.int (1 : Int32)]) (rest := []) rfl rfl rfl rfl h4 (Nat.le_of_ble_eq_true rfl) (ca_66  a0 (1 : Int32) w) fun w24 h25 => ?_
          show sm _ _ _ _ 87 [(4, .int (Int64.toInt32 (cm_L w r21 (cm_I w a0 6).toNatClampNeg))), (0, .ref a0), (3, .int (1 : Int32))] [] _ _
          refine sm_seg 1 89 [(4, .int (Int64.toInt32 (cm_L w r21 (cm_I w a0 6).toNatClampNeg))), (0, .ref a0), (3, .int (1 : Int32))] [.int (Int64.toInt32 (cm_L w r21 (cm_I w a0 6).toNatClampNeg))] rfl ?_
          exact sm_rIW rfl rfl
theorem ca_70 (a0 : Nat) (i1 : Int32) (i2 : Int32) (w : cm_W) : cm_ca cm_g 70 [.ref a0, .int i1, .int i2] w ((fn_70 a0 i1 i2 w).map cm_gI) := cm_ca_of (cm_me_of rfl rfl) rfl (jt_70_0 a0 i1 i2 w)
-- NailedBoxes$Table.append()I
def fn_71_9 (a0 : Nat) (w : cm_W) : Option (Int32 × cm_W) := (if cm_sh w a0 = some (.inl 7) then (if cm_w2 10 30 a0 = true then some (((cm_I (cm_sI w a0 2 ((cm_I w a0 2) + (1 : Int32))) a0 2) - (1 : Int32)), (cm_sI w a0 2 ((cm_I w a0 2) + (1 : Int32)))) else none) else none)
theorem jt_71_9 (a0 : Nat) (w : cm_W) : sm cm_g 71 ck_71 kq_71 9 [(0, .ref a0)] [] w ((fn_71_9 a0 w).map cm_gI) := by
  unfold fn_71_9
  refine sm_seg 2 11 [(0, .ref a0)] [.ref a0, .ref a0] rfl ?_
  refine sm_gd fun h1 => ?_
  refine sm_gI rfl h1 rfl ?_
  show sm _ _ _ _ 14 [(0, .ref a0)] [.int (cm_I w a0 2), .ref a0] _ _
  refine sm_seg 2 16 [(0, .ref a0)] [.int ((cm_I w a0 2) + (1 : Int32)), .ref a0] rfl ?_
  refine sm_gd fun h2 => ?_
  refine sm_pI rfl h1 rfl h2 rfl ?_
  show sm _ _ _ _ 19 [(0, .ref a0)] [] _ _
  refine sm_seg 1 20 [(0, .ref a0)] [.ref a0] rfl ?_
  refine sm_gI rfl h1 rfl ?_
  show sm _ _ _ _ 23 [(0, .ref a0)] [.int (cm_I (cm_sI w a0 2 ((cm_I w a0 2) + (1 : Int32))) a0 2)] _ _
  refine sm_seg 2 25 [(0, .ref a0)] [.int ((cm_I (cm_sI w a0 2 ((cm_I w a0 2) + (1 : Int32))) a0 2) - (1 : Int32))] rfl ?_
  exact sm_rIW rfl rfl
def fn_71 (a0 : Nat) (w : cm_W) : Option (Int32 × cm_W) := (if cm_sh w a0 = some (.inl 7) then (fn_64 w a0).bind fun v4 => (if (cm_b v4) = 0 then fn_71_9  a0 w else some ((-1 : Int32), w)) else none)
theorem jt_71_0 (a0 : Nat) (w : cm_W) : sm cm_g 71 ck_71 kq_71 0 [(0, .ref a0)] [] w ((fn_71 a0 w).map cm_gI) := by
  unfold fn_71
  refine sm_seg 1 1 [(0, .ref a0)] [.ref a0] rfl ?_
  refine sm_gd fun h3 => ?_
  refine sm_cV (as := []) (rest := []) rfl rfl rfl rfl h3 (Nat.le_of_ble_eq_true rfl) (ca_64 w a0) fun v4 h5 => ?_
  show sm _ _ _ _ 4 [(0, .ref a0)] [.int (cm_b v4)] _ _
  refine sm_if (pc1 := 9) (lv1 := [(0, .ref a0)]) (pc2 := 7) (lv2 := [(0, .ref a0)]) (st1 := []) rfl rfl rfl (fun h6 => ?_) (fun h6 => ?_)
  · exact jt_71_9  a0 w
  · refine sm_seg 1 8 [(0, .ref a0)] [.int (-1 : Int32)] rfl ?_
    exact sm_rIW rfl rfl
theorem ca_71 (a0 : Nat) (w : cm_W) : cm_ca cm_g 71 [.ref a0] w ((fn_71 a0 w).map cm_gI) := cm_ca_of (cm_me_of rfl rfl) rfl (jt_71_0 a0 w)
-- NailedBoxes$Table.set(III)V
def fn_72 (a0 : Nat) (i1 : Int32) (i2 : Int32) (i3 : Int32) (w : cm_W) : Option cm_W := (if cm_sh w a0 = some (.inl 7) then (fn_7 w a0 i1).bind fun v2 => (if (cm_b v2) = 0 then some w else (if i2 < 0 then some w else (if (cm_I w a0 0) ≤ i2 then some w else (cm_R w a0 1).bind fun r7 => (if cm_ga w .int r7 ((i1 * (cm_I w a0 0)) + i2) = true then (if cm_w2 10 30 r7 = true then some (cm_sI w r7 ((i1 * (cm_I w a0 0)) + i2).toNatClampNeg i3) else none) else none)))) else none)
theorem jt_72_0 (a0 : Nat) (i1 : Int32) (i2 : Int32) (i3 : Int32) (w : cm_W) : sm cm_g 72 ck_72 kq_72 0 [(0, .ref a0), (1, .int i1), (2, .int i2), (3, .int i3)] [] w ((fn_72 a0 i1 i2 i3 w).map cm_gV) := by
  unfold fn_72
  refine sm_seg 2 2 [(0, .ref a0), (1, .int i1), (2, .int i2), (3, .int i3)] [.int i1, .ref a0] rfl ?_
  refine sm_gd fun h1 => ?_
  refine sm_cV (as := [.int i1]) (rest := []) rfl rfl rfl rfl h1 (Nat.le_of_ble_eq_true rfl) (ca_7 w a0 i1) fun v2 h3 => ?_
  show sm _ _ _ _ 5 [(0, .ref a0), (1, .int i1), (2, .int i2), (3, .int i3)] [.int (cm_b v2)] _ _
  refine sm_if (pc1 := 34) (lv1 := []) (pc2 := 8) (lv2 := [(0, .ref a0), (1, .int i1), (2, .int i2), (3, .int i3)]) (st1 := []) rfl rfl rfl (fun h4 => ?_) (fun h4 => ?_)
  · exact sm_rV rfl rfl
  · refine sm_seg 1 9 [(0, .ref a0), (1, .int i1), (2, .int i2), (3, .int i3)] [.int i2] rfl ?_
    refine sm_if (pc1 := 34) (lv1 := []) (pc2 := 12) (lv2 := [(0, .ref a0), (1, .int i1), (2, .int i2), (3, .int i3)]) (st1 := []) rfl rfl rfl (fun h5 => ?_) (fun h5 => ?_)
    · exact sm_rV rfl rfl
    · refine sm_seg 2 14 [(0, .ref a0), (1, .int i1), (2, .int i2), (3, .int i3)] [.ref a0, .int i2] rfl ?_
      refine sm_gI rfl h1 rfl ?_
      show sm _ _ _ _ 17 [(0, .ref a0), (1, .int i1), (2, .int i2), (3, .int i3)] [.int (cm_I w a0 0), .int i2] _ _
      refine sm_if (pc1 := 34) (lv1 := []) (pc2 := 20) (lv2 := [(0, .ref a0), (1, .int i1), (2, .int i2), (3, .int i3)]) (st1 := []) rfl rfl rfl (fun h6 => ?_) (fun h6 => ?_)
      · exact sm_rV rfl rfl
      · refine sm_seg 1 21 [(0, .ref a0), (1, .int i1), (2, .int i2), (3, .int i3)] [.ref a0] rfl ?_
        refine sm_gR rfl h1 rfl rfl fun r7 h8 => ?_
        show sm _ _ _ _ 24 [(0, .ref a0), (1, .int i1), (2, .int i2), (3, .int i3)] [.ref r7] _ _
        refine sm_seg 2 26 [(0, .ref a0), (1, .int i1), (2, .int i2), (3, .int i3)] [.ref a0, .int i1, .ref r7] rfl ?_
        refine sm_gI rfl h1 rfl ?_
        show sm _ _ _ _ 29 [(0, .ref a0), (1, .int i1), (2, .int i2), (3, .int i3)] [.int (cm_I w a0 0), .int i1, .ref r7] _ _
        refine sm_seg 4 33 [(0, .ref a0), (1, .int i1), (2, .int i2), (3, .int i3)] [.int i3, .int ((i1 * (cm_I w a0 0)) + i2), .ref r7] rfl ?_
        refine sm_gd fun h9 => ?_
        refine sm_gd fun h10 => ?_
        refine sm_si rfl h9 h10 rfl rfl ?_
        show sm _ _ _ _ 34 [] [] _ _
        exact sm_rV rfl rfl
theorem ca_72 (a0 : Nat) (i1 : Int32) (i2 : Int32) (i3 : Int32) (w : cm_W) : cm_ca cm_g 72 [.ref a0, .int i1, .int i2, .int i3] w ((fn_72 a0 i1 i2 i3 w).map cm_gV) := cm_ca_of (cm_me_of rfl rfl) rfl (jt_72_0 a0 i1 i2 i3 w)
-- NailedBoxes$Village.addThing(JIIII)V
def fn_73_22 (a0 : Nat) (j1 : Int64) (i3 : Int32) (i4 : Int32) (i5 : Int32) (i6 : Int32) (i7 : Int32) (w : cm_W) : Option cm_W := (if cm_sh w a0 = some (.inl 9) then (cm_R w a0 0).bind fun r2 => (if cm_ga w .long r2 i7 = true then (if cm_w2 10 30 r2 = true then (cm_R (cm_sL w r2 i7.toNatClampNeg j1) a0 1).bind fun r6 => (if cm_sh w r6 = some (.inl 7) then (fn_72 r6 i7 (0 : Int32) i3 (cm_sL w r2 i7.toNatClampNeg j1)).bind fun w9 => (if cm_sh w9 a0 = some (.inl 9) then (cm_R w9 a0 1).bind fun r12 => (if cm_sh w9 r12 = some (.inl 7) then (fn_72 r12 i7 (1 : Int32) i4 w9).bind fun w15 => (if cm_sh w15 a0 = some (.inl 9) then (cm_R w15 a0 1).bind fun r18 => (if cm_sh w15 r18 = some (.inl 7) then (fn_72 r18 i7 (2 : Int32) i5 w15).bind fun w21 => (if cm_sh w21 a0 = some (.inl 9) then (cm_R w21 a0 1).bind fun r24 => (if cm_sh w21 r24 = some (.inl 7) then (fn_72 r24 i7 (3 : Int32) i6 w21).bind fun w27 => some w27 else none) else none) else none) else none) else none) else none) else none) else none) else none) else none)
theorem jt_73_22 (a0 : Nat) (j1 : Int64) (i3 : Int32) (i4 : Int32) (i5 : Int32) (i6 : Int32) (i7 : Int32) (w : cm_W) : sm cm_g 73 ck_73 kq_73 22 [(0, .ref a0), (1, .long j1), (3, .int i3), (4, .int i4), (5, .int i5), (6, .int i6), (7, .int i7)] [] w ((fn_73_22 a0 j1 i3 i4 i5 i6 i7 w).map cm_gV) := by
  unfold fn_73_22
  refine sm_seg 1 23 [(0, .ref a0), (1, .long j1), (3, .int i3), (4, .int i4), (5, .int i5), (6, .int i6), (7, .int i7)] [.ref a0] rfl ?_
  refine sm_gd fun h1 => ?_
  refine sm_gR rfl h1 rfl rfl fun r2 h3 => ?_
  show sm _ _ _ _ 26 [(0, .ref a0), (1, .long j1), (3, .int i3), (4, .int i4), (5, .int i5), (6, .int i6), (7, .int i7)] [.ref r2] _ _
  refine sm_seg 2 29 [(0, .ref a0), (1, .long j1), (3, .int i3), (4, .int i4), (5, .int i5), (6, .int i6), (7, .int i7)] [.long j1, .int i7, .ref r2] rfl ?_
  refine sm_gd fun h4 => ?_
  refine sm_gd fun h5 => ?_
  refine sm_sl rfl h4 h5 rfl rfl ?_
  show sm _ _ _ _ 30 [(0, .ref a0), (1, .long j1), (3, .int i3), (4, .int i4), (5, .int i5), (6, .int i6), (7, .int i7)] [] _ _
  refine sm_seg 1 31 [(0, .ref a0), (1, .long j1), (3, .int i3), (4, .int i4), (5, .int i5), (6, .int i6), (7, .int i7)] [.ref a0] rfl ?_
  refine sm_gR rfl h1 rfl rfl fun r6 h7 => ?_
  show sm _ _ _ _ 34 [(0, .ref a0), (1, .long j1), (3, .int i3), (4, .int i4), (5, .int i5), (6, .int i6), (7, .int i7)] [.ref r6] _ _
  refine sm_seg 3 38 [(0, .ref a0), (1, .long j1), (3, .int i3), (4, .int i4), (5, .int i5), (6, .int i6), (7, .int i7)] [.int i3, .int (0 : Int32), .int i7, .ref r6] rfl ?_
  refine sm_gd fun h8 => ?_
  refine sm_cV (as := [.int i7, .int (0 : Int32), .int i3]) (rest := []) rfl rfl rfl rfl h8 (Nat.le_of_ble_eq_true rfl) (ca_72  r6 i7 (0 : Int32) i3 (cm_sL w r2 i7.toNatClampNeg j1)) fun w9 h10 => ?_
  show sm _ _ _ _ 41 [(0, .ref a0), (1, .long j1), (3, .int i3), (4, .int i4), (5, .int i5), (6, .int i6), (7, .int i7)] [] _ _
  refine sm_seg 1 42 [(0, .ref a0), (1, .long j1), (3, .int i3), (4, .int i4), (5, .int i5), (6, .int i6), (7, .int i7)] [.ref a0] rfl ?_
  refine sm_gd fun h11 => ?_
  refine sm_gR rfl h11 rfl rfl fun r12 h13 => ?_
  show sm _ _ _ _ 45 [(0, .ref a0), (1, .long j1), (3, .int i3), (4, .int i4), (5, .int i5), (6, .int i6), (7, .int i7)] [.ref r12] _ _
  refine sm_seg 3 50 [(0, .ref a0), (1, .long j1), (3, .int i3), (4, .int i4), (5, .int i5), (6, .int i6), (7, .int i7)] [.int i4, .int (1 : Int32), .int i7, .ref r12] rfl ?_
  refine sm_gd fun h14 => ?_
  refine sm_cV (as := [.int i7, .int (1 : Int32), .int i4]) (rest := []) rfl rfl rfl rfl h14 (Nat.le_of_ble_eq_true rfl) (ca_72  r12 i7 (1 : Int32) i4 w9) fun w15 h16 => ?_
  show sm _ _ _ _ 53 [(0, .ref a0), (1, .long j1), (3, .int i3), (4, .int i4), (5, .int i5), (6, .int i6), (7, .int i7)] [] _ _
  refine sm_seg 1 54 [(0, .ref a0), (1, .long j1), (3, .int i3), (4, .int i4), (5, .int i5), (6, .int i6), (7, .int i7)] [.ref a0] rfl ?_
  refine sm_gd fun h17 => ?_
  refine sm_gR rfl h17 rfl rfl fun r18 h19 => ?_
  show sm _ _ _ _ 57 [(0, .ref a0), (1, .long j1), (3, .int i3), (4, .int i4), (5, .int i5), (6, .int i6), (7, .int i7)] [.ref r18] _ _
  refine sm_seg 3 62 [(0, .ref a0), (1, .long j1), (3, .int i3), (4, .int i4), (5, .int i5), (6, .int i6), (7, .int i7)] [.int i5, .int (2 : Int32), .int i7, .ref r18] rfl ?_
  refine sm_gd fun h20 => ?_
  refine sm_cV (as := [.int i7, .int (2 : Int32), .int i5]) (rest := []) rfl rfl rfl rfl h20 (Nat.le_of_ble_eq_true rfl) (ca_72  r18 i7 (2 : Int32) i5 w15) fun w21 h22 => ?_
  show sm _ _ _ _ 65 [(0, .ref a0), (1, .long j1), (3, .int i3), (4, .int i4), (5, .int i5), (6, .int i6), (7, .int i7)] [] _ _
  refine sm_seg 1 66 [(0, .ref a0), (1, .long j1), (3, .int i3), (4, .int i4), (5, .int i5), (6, .int i6), (7, .int i7)] [.ref a0] rfl ?_
  refine sm_gd fun h23 => ?_
  refine sm_gR rfl h23 rfl rfl fun r24 h25 => ?_
  show sm _ _ _ _ 69 [(0, .ref a0), (1, .long j1), (3, .int i3), (4, .int i4), (5, .int i5), (6, .int i6), (7, .int i7)] [.ref r24] _ _
  refine sm_seg 3 74 [(0, .ref a0), (1, .long j1), (3, .int i3), (4, .int i4), (5, .int i5), (6, .int i6), (7, .int i7)] [.int i6, .int (3 : Int32), .int i7, .ref r24] rfl ?_
  refine sm_gd fun h26 => ?_
  refine sm_cV (as := [.int i7, .int (3 : Int32), .int i6]) (rest := []) rfl rfl rfl rfl h26 (Nat.le_of_ble_eq_true rfl) (ca_72  r24 i7 (3 : Int32) i6 w21) fun w27 h28 => ?_
  show sm _ _ _ _ 77 [(0, .ref a0), (1, .long j1), (3, .int i3), (4, .int i4), (5, .int i5), (6, .int i6), (7, .int i7)] [] _ _
  exact sm_rV rfl rfl
def fn_73 (a0 : Nat) (j1 : Int64) (i3 : Int32) (i4 : Int32) (i5 : Int32) (i6 : Int32) (w : cm_W) : Option cm_W := (if cm_sh w a0 = some (.inl 9) then (cm_R w a0 1).bind fun r30 => (if cm_sh w r30 = some (.inl 7) then (fn_71 r30 w).bind fun v33 => (if v33.1 < 0 then some v33.2 else (if v33.1 < (8 : Int32) then fn_73_22  a0 j1 i3 i4 i5 i6 v33.1 v33.2 else some v33.2)) else none) else none)
theorem jt_73_0 (a0 : Nat) (j1 : Int64) (i3 : Int32) (i4 : Int32) (i5 : Int32) (i6 : Int32) (w : cm_W) : sm cm_g 73 ck_73 kq_73 0 [(0, .ref a0), (1, .long j1), (3, .int i3), (4, .int i4), (5, .int i5), (6, .int i6)] [] w ((fn_73 a0 j1 i3 i4 i5 i6 w).map cm_gV) := by
  unfold fn_73
  refine sm_seg 1 1 [(0, .ref a0), (1, .long j1), (3, .int i3), (4, .int i4), (5, .int i5), (6, .int i6)] [.ref a0] rfl ?_
  refine sm_gd fun h29 => ?_
  refine sm_gR rfl h29 rfl rfl fun r30 h31 => ?_
  show sm _ _ _ _ 4 [(0, .ref a0), (1, .long j1), (3, .int i3), (4, .int i4), (5, .int i5), (6, .int i6)] [.ref r30] _ _
  refine sm_gd fun h32 => ?_
  refine sm_cV (as := []) (rest := []) rfl rfl rfl rfl h32 (Nat.le_of_ble_eq_true rfl) (ca_71  r30 w) fun v33 h34 => ?_
  show sm _ _ _ _ 7 [(0, .ref a0), (1, .long j1), (3, .int i3), (4, .int i4), (5, .int i5), (6, .int i6)] [.int v33.1] _ _
  refine sm_seg 2 11 [(7, .int v33.1), (0, .ref a0), (1, .long j1), (3, .int i3), (4, .int i4), (5, .int i5), (6, .int i6)] [.int v33.1] rfl ?_
  refine sm_if (pc1 := 21) (lv1 := []) (pc2 := 14) (lv2 := [(7, .int v33.1), (0, .ref a0), (1, .long j1), (3, .int i3), (4, .int i4), (5, .int i5), (6, .int i6)]) (st1 := []) rfl rfl rfl (fun h35 => ?_) (fun h35 => ?_)
  · exact sm_rV rfl rfl
  · refine sm_seg 2 18 [(7, .int v33.1), (0, .ref a0), (1, .long j1), (3, .int i3), (4, .int i4), (5, .int i5), (6, .int i6)] [.int (8 : Int32), .int v33.1] rfl ?_
    refine sm_if (pc1 := 22) (lv1 := [(0, .ref a0), (1, .long j1), (3, .int i3), (4, .int i4), (5, .int i5), (6, .int i6), (7, .int v33.1)]) (pc2 := 21) (lv2 := []) (st1 := []) rfl rfl rfl (fun h36 => ?_) (fun h36 => ?_)
    · exact jt_73_22  a0 j1 i3 i4 i5 i6 v33.1 v33.2
    · exact sm_rV rfl rfl
theorem ca_73 (a0 : Nat) (j1 : Int64) (i3 : Int32) (i4 : Int32) (i5 : Int32) (i6 : Int32) (w : cm_W) : cm_ca cm_g 73 [.ref a0, .long j1, .int i3, .int i4, .int i5, .int i6] w ((fn_73 a0 j1 i3 i4 i5 i6 w).map cm_gV) := cm_ca_of (cm_me_of rfl rfl) rfl (jt_73_0 a0 j1 i3 i4 i5 i6 w)
-- NailedBoxes$Reader.readThing()V
def fn_74_70 (a0 : Nat) (j1 : Int64) (i3 : Int32) (i4 : Int32) (i5 : Int32) (i6 : Int32) (w : cm_W) : Option cm_W := (if cm_sh w a0 = some (.inl 4) then (if ¬ (cm_I w a0 7) = (-1 : Int32) then some w else (cm_R w a0 8).bind fun r3 => (if cm_sh w r3 = some (.inl 9) then (fn_73 r3 j1 i3 i4 i5 i6 w).bind fun w6 => some w6 else none)) else none)
theorem jt_74_70 (a0 : Nat) (j1 : Int64) (i3 : Int32) (i4 : Int32) (i5 : Int32) (i6 : Int32) (w : cm_W) : sm cm_g 74 ck_74 kq_74 70 [(0, .ref a0), (1, .long j1), (3, .int i3), (4, .int i4), (5, .int i5), (6, .int i6)] [] w ((fn_74_70 a0 j1 i3 i4 i5 i6 w).map cm_gV) := by
  unfold fn_74_70
  refine sm_seg 1 71 [(0, .ref a0), (1, .long j1), (3, .int i3), (4, .int i4), (5, .int i5), (6, .int i6)] [.ref a0] rfl ?_
  refine sm_gd fun h1 => ?_
  refine sm_gI rfl h1 rfl ?_
  show sm _ _ _ _ 74 [(0, .ref a0), (1, .long j1), (3, .int i3), (4, .int i4), (5, .int i5), (6, .int i6)] [.int (cm_I w a0 7)] _ _
  refine sm_seg 1 75 [(0, .ref a0), (1, .long j1), (3, .int i3), (4, .int i4), (5, .int i5), (6, .int i6)] [.int (-1 : Int32), .int (cm_I w a0 7)] rfl ?_
  refine sm_if (pc1 := 93) (lv1 := []) (pc2 := 78) (lv2 := [(0, .ref a0), (1, .long j1), (3, .int i3), (4, .int i4), (5, .int i5), (6, .int i6)]) (st1 := []) rfl rfl rfl (fun h2 => ?_) (fun h2 => ?_)
  · exact sm_rV rfl rfl
  · refine sm_seg 1 79 [(0, .ref a0), (1, .long j1), (3, .int i3), (4, .int i4), (5, .int i5), (6, .int i6)] [.ref a0] rfl ?_
    refine sm_gR rfl h1 rfl rfl fun r3 h4 => ?_
    show sm _ _ _ _ 82 [(0, .ref a0), (1, .long j1), (3, .int i3), (4, .int i4), (5, .int i5), (6, .int i6)] [.ref r3] _ _
    refine sm_seg 5 90 [(0, .ref a0), (1, .long j1), (3, .int i3), (4, .int i4), (5, .int i5), (6, .int i6)] [.int i6, .int i5, .int i4, .int i3, .long j1, .ref r3] rfl ?_
    refine sm_gd fun h5 => ?_
    refine sm_cV (as := [.long j1, .int i3, .int i4, .int i5, .int i6]) (rest := []) rfl rfl rfl rfl h5 (Nat.le_of_ble_eq_true rfl) (ca_73  r3 j1 i3 i4 i5 i6 w) fun w6 h7 => ?_
    show sm _ _ _ _ 93 [] [] _ _
    exact sm_rV rfl rfl
def fn_74 (a0 : Nat) (w : cm_W) : Option cm_W := (if cm_sh w a0 = some (.inl 4) then (cm_R w a0 8).bind fun r9 => (if cm_sh w r9 = some (.inl 9) then (cm_R w r9 1).bind fun r12 => (fn_69 a0 r12 w).bind fun v14 => (if cm_sh v14.2 a0 = some (.inl 4) then (fn_70 a0 (0 : Int32) (999 : Int32) v14.2).bind fun v17 => (if cm_sh v17.2 a0 = some (.inl 4) then (fn_70 a0 (0 : Int32) (99 : Int32) v17.2).bind fun v20 => (if cm_sh v20.2 a0 = some (.inl 4) then (fn_70 a0 (0 : Int32) (9 : Int32) v20.2).bind fun v23 => (if cm_sh v23.2 a0 = some (.inl 4) then (cm_R v23.2 a0 4).bind fun r26 => (if cm_ga v23.2 .int r26 (cm_I v23.2 a0 6) = true then (if ¬ (cm_I v23.2 r26 (cm_I v23.2 a0 6).toNatClampNeg) = (7 : Int32) then fn_74_70  a0 v14.1 v17.1 v20.1 v23.1 (0 : Int32) v23.2 else (fn_66 a0 (1 : Int32) v23.2).bind fun w30 => (if cm_sh w30 a0 = some (.inl 4) then (fn_70 a0 (0 : Int32) (99 : Int32) w30).bind fun v33 => fn_74_70  a0 v14.1 v17.1 v20.1 v23.1 v33.1 v33.2 else none)) else none) else none) else none) else none) else none) else none) else none)
theorem jt_74_0 (a0 : Nat) (w : cm_W) : sm cm_g 74 ck_74 kq_74 0 [(0, .ref a0)] [] w ((fn_74 a0 w).map cm_gV) := by
  unfold fn_74
  refine sm_seg 2 2 [(0, .ref a0)] [.ref a0, .ref a0] rfl ?_
  refine sm_gd fun h8 => ?_
  refine sm_gR rfl h8 rfl rfl fun r9 h10 => ?_
  show sm _ _ _ _ 5 [(0, .ref a0)] [.ref r9, .ref a0] _ _
  refine sm_gd fun h11 => ?_
  refine sm_gR rfl h11 rfl rfl fun r12 h13 => ?_
  show sm _ _ _ _ 8 [(0, .ref a0)] [.ref r12, .ref a0] _ _
  refine sm_cV (as := [.ref r12]) (rest := []) rfl rfl rfl rfl h8 (Nat.le_of_ble_eq_true rfl) (ca_69  a0 r12 w) fun v14 h15 => ?_
  show sm _ _ _ _ 11 [(0, .ref a0)] [.long v14.1] _ _
  refine sm_seg 4 17 [(1, .long v14.1), (0, .ref a0)] [.int (999 : Int32), .int (0 : Int32), .ref a0] rfl ?_
  refine sm_gd fun h16 => ?_
  refine sm_cV (as := [.int (0 : Int32), .int (999 : Int32)]) (rest := []) rfl rfl rfl rfl h16 (Nat.le_of_ble_eq_true rfl) (ca_70  a0 (0 : Int32) (999 : Int32) v14.2) fun v17 h18 => ?_
  show sm _ _ _ _ 20 [(1, .long v14.1), (0, .ref a0)] [.int v17.1] _ _
  refine sm_seg 4 25 [(3, .int v17.1), (1, .long v14.1), (0, .ref a0)] [.int (99 : Int32), .int (0 : Int32), .ref a0] rfl ?_
  refine sm_gd fun h19 => ?_
  refine sm_cV (as := [.int (0 : Int32), .int (99 : Int32)]) (rest := []) rfl rfl rfl rfl h19 (Nat.le_of_ble_eq_true rfl) (ca_70  a0 (0 : Int32) (99 : Int32) v17.2) fun v20 h21 => ?_
  show sm _ _ _ _ 28 [(3, .int v17.1), (1, .long v14.1), (0, .ref a0)] [.int v20.1] _ _
  refine sm_seg 4 34 [(4, .int v20.1), (3, .int v17.1), (1, .long v14.1), (0, .ref a0)] [.int (9 : Int32), .int (0 : Int32), .ref a0] rfl ?_
  refine sm_gd fun h22 => ?_
  refine sm_cV (as := [.int (0 : Int32), .int (9 : Int32)]) (rest := []) rfl rfl rfl rfl h22 (Nat.le_of_ble_eq_true rfl) (ca_70  a0 (0 : Int32) (9 : Int32) v20.2) fun v23 h24 => ?_
  show sm _ _ _ _ 37 [(4, .int v20.1), (3, .int v17.1), (1, .long v14.1), (0, .ref a0)] [.int v23.1] _ _
  refine sm_seg 4 43 [(6, .int (0 : Int32)), (5, .int v23.1), (4, .int v20.1), (3, .int v17.1), (1, .long v14.1), (0, .ref a0)] [.ref a0] rfl ?_
  refine sm_gd fun h25 => ?_
  refine sm_gR rfl h25 rfl rfl fun r26 h27 => ?_
  show sm _ _ _ _ 46 [(6, .int (0 : Int32)), (5, .int v23.1), (4, .int v20.1), (3, .int v17.1), (1, .long v14.1), (0, .ref a0)] [.ref r26] _ _
  refine sm_seg 1 47 [(6, .int (0 : Int32)), (5, .int v23.1), (4, .int v20.1), (3, .int v17.1), (1, .long v14.1), (0, .ref a0)] [.ref a0, .ref r26] rfl ?_
  refine sm_gI rfl h25 rfl ?_
  show sm _ _ _ _ 50 [(6, .int (0 : Int32)), (5, .int v23.1), (4, .int v20.1), (3, .int v17.1), (1, .long v14.1), (0, .ref a0)] [.int (cm_I v23.2 a0 6), .ref r26] _ _
  refine sm_gd fun h28 => ?_
  refine sm_ai rfl h28 rfl ?_
  show sm _ _ _ _ 51 [(6, .int (0 : Int32)), (5, .int v23.1), (4, .int v20.1), (3, .int v17.1), (1, .long v14.1), (0, .ref a0)] [.int (cm_I v23.2 r26 (cm_I v23.2 a0 6).toNatClampNeg)] _ _
  refine sm_seg 1 53 [(6, .int (0 : Int32)), (5, .int v23.1), (4, .int v20.1), (3, .int v17.1), (1, .long v14.1), (0, .ref a0)] [.int (7 : Int32), .int (cm_I v23.2 r26 (cm_I v23.2 a0 6).toNatClampNeg)] rfl ?_
  refine sm_if (pc1 := 70) (lv1 := [(0, .ref a0), (1, .long v14.1), (3, .int v17.1), (4, .int v20.1), (5, .int v23.1), (6, .int (0 : Int32))]) (pc2 := 56) (lv2 := [(6, .int (0 : Int32)), (5, .int v23.1), (4, .int v20.1), (3, .int v17.1), (1, .long v14.1), (0, .ref a0)]) (st1 := []) rfl rfl rfl (fun h29 => ?_) (fun h29 => ?_)
  · exact jt_74_70  a0 v14.1 v17.1 v20.1 v23.1 (0 : Int32) v23.2
  · refine sm_seg 2 58 [(6, .int (0 : Int32)), (5, .int v23.1), (4, .int v20.1), (3, .int v17.1), (1, .long v14.1), (0, .ref a0)] [.int (1 : Int32), .ref a0] rfl ?_
    refine sm_cV (as := [.int (1 : Int32)]) (rest := []) rfl rfl rfl rfl h25 (Nat.le_of_ble_eq_true rfl) (ca_66  a0 (1 : Int32) v23.2) fun w30 h31 => ?_
    show sm _ _ _ _ 61 [(6, .int (0 : Int32)), (5, .int v23.1), (4, .int v20.1), (3, .int v17.1), (1, .long v14.1), (0, .ref a0)] [] _ _
    refine sm_seg 3 65 [(6, .int (0 : Int32)), (5, .int v23.1), (4, .int v20.1), (3, .int v17.1), (1, .long v14.1), (0, .ref a0)] [.int (99 : Int32), .int (0 : Int32), .ref a0] rfl ?_
    refine sm_gd fun h32 => ?_
    refine sm_cV (as := [.int (0 : Int32), .int (99 : Int32)]) (rest := []) rfl rfl rfl rfl h32 (Nat.le_of_ble_eq_true rfl) (ca_70  a0 (0 : Int32) (99 : Int32) w30) fun v33 h34 => ?_
    show sm _ _ _ _ 68 [(6, .int (0 : Int32)), (5, .int v23.1), (4, .int v20.1), (3, .int v17.1), (1, .long v14.1), (0, .ref a0)] [.int v33.1] _ _
    refine sm_seg 1 70 [(0, .ref a0), (1, .long v14.1), (3, .int v17.1), (4, .int v20.1), (5, .int v23.1), (6, .int v33.1)] [] rfl ?_
    exact jt_74_70  a0 v14.1 v17.1 v20.1 v23.1 v33.1 v33.2
theorem ca_74 (a0 : Nat) (w : cm_W) : cm_ca cm_g 74 [.ref a0] w ((fn_74 a0 w).map cm_gV) := cm_ca_of (cm_me_of rfl rfl) rfl (jt_74_0 a0 w)
-- NailedBoxes$Village.addWho(JII)V
def fn_75_22 (a0 : Nat) (j1 : Int64) (i3 : Int32) (i4 : Int32) (i5 : Int32) (w : cm_W) : Option cm_W := (if cm_sh w a0 = some (.inl 9) then (cm_R w a0 2).bind fun r2 => (if cm_ga w .long r2 i5 = true then (if cm_w2 10 30 r2 = true then (cm_R (cm_sL w r2 i5.toNatClampNeg j1) a0 3).bind fun r6 => (if cm_sh w r6 = some (.inl 7) then (fn_72 r6 i5 (0 : Int32) i3 (cm_sL w r2 i5.toNatClampNeg j1)).bind fun w9 => (if cm_sh w9 a0 = some (.inl 9) then (cm_R w9 a0 3).bind fun r12 => (if cm_sh w9 r12 = some (.inl 7) then (fn_72 r12 i5 (1 : Int32) i4 w9).bind fun w15 => (if cm_sh w15 a0 = some (.inl 9) then (cm_R w15 a0 3).bind fun r18 => (if cm_sh w15 r18 = some (.inl 7) then (fn_72 r18 i5 (2 : Int32) (0 : Int32) w15).bind fun w21 => some w21 else none) else none) else none) else none) else none) else none) else none) else none)
theorem jt_75_22 (a0 : Nat) (j1 : Int64) (i3 : Int32) (i4 : Int32) (i5 : Int32) (w : cm_W) : sm cm_g 75 ck_75 kq_75 22 [(0, .ref a0), (1, .long j1), (3, .int i3), (4, .int i4), (5, .int i5)] [] w ((fn_75_22 a0 j1 i3 i4 i5 w).map cm_gV) := by
  unfold fn_75_22
  refine sm_seg 1 23 [(0, .ref a0), (1, .long j1), (3, .int i3), (4, .int i4), (5, .int i5)] [.ref a0] rfl ?_
  refine sm_gd fun h1 => ?_
  refine sm_gR rfl h1 rfl rfl fun r2 h3 => ?_
  show sm _ _ _ _ 26 [(0, .ref a0), (1, .long j1), (3, .int i3), (4, .int i4), (5, .int i5)] [.ref r2] _ _
  refine sm_seg 2 29 [(0, .ref a0), (1, .long j1), (3, .int i3), (4, .int i4), (5, .int i5)] [.long j1, .int i5, .ref r2] rfl ?_
  refine sm_gd fun h4 => ?_
  refine sm_gd fun h5 => ?_
  refine sm_sl rfl h4 h5 rfl rfl ?_
  show sm _ _ _ _ 30 [(0, .ref a0), (1, .long j1), (3, .int i3), (4, .int i4), (5, .int i5)] [] _ _
  refine sm_seg 1 31 [(0, .ref a0), (1, .long j1), (3, .int i3), (4, .int i4), (5, .int i5)] [.ref a0] rfl ?_
  refine sm_gR rfl h1 rfl rfl fun r6 h7 => ?_
  show sm _ _ _ _ 34 [(0, .ref a0), (1, .long j1), (3, .int i3), (4, .int i4), (5, .int i5)] [.ref r6] _ _
  refine sm_seg 3 38 [(0, .ref a0), (1, .long j1), (3, .int i3), (4, .int i4), (5, .int i5)] [.int i3, .int (0 : Int32), .int i5, .ref r6] rfl ?_
  refine sm_gd fun h8 => ?_
  refine sm_cV (as := [.int i5, .int (0 : Int32), .int i3]) (rest := []) rfl rfl rfl rfl h8 (Nat.le_of_ble_eq_true rfl) (ca_72  r6 i5 (0 : Int32) i3 (cm_sL w r2 i5.toNatClampNeg j1)) fun w9 h10 => ?_
  show sm _ _ _ _ 41 [(0, .ref a0), (1, .long j1), (3, .int i3), (4, .int i4), (5, .int i5)] [] _ _
  refine sm_seg 1 42 [(0, .ref a0), (1, .long j1), (3, .int i3), (4, .int i4), (5, .int i5)] [.ref a0] rfl ?_
  refine sm_gd fun h11 => ?_
  refine sm_gR rfl h11 rfl rfl fun r12 h13 => ?_
  show sm _ _ _ _ 45 [(0, .ref a0), (1, .long j1), (3, .int i3), (4, .int i4), (5, .int i5)] [.ref r12] _ _
  refine sm_seg 3 50 [(0, .ref a0), (1, .long j1), (3, .int i3), (4, .int i4), (5, .int i5)] [.int i4, .int (1 : Int32), .int i5, .ref r12] rfl ?_
  refine sm_gd fun h14 => ?_
  refine sm_cV (as := [.int i5, .int (1 : Int32), .int i4]) (rest := []) rfl rfl rfl rfl h14 (Nat.le_of_ble_eq_true rfl) (ca_72  r12 i5 (1 : Int32) i4 w9) fun w15 h16 => ?_
  show sm _ _ _ _ 53 [(0, .ref a0), (1, .long j1), (3, .int i3), (4, .int i4), (5, .int i5)] [] _ _
  refine sm_seg 1 54 [(0, .ref a0), (1, .long j1), (3, .int i3), (4, .int i4), (5, .int i5)] [.ref a0] rfl ?_
  refine sm_gd fun h17 => ?_
  refine sm_gR rfl h17 rfl rfl fun r18 h19 => ?_
  show sm _ _ _ _ 57 [(0, .ref a0), (1, .long j1), (3, .int i3), (4, .int i4), (5, .int i5)] [.ref r18] _ _
  refine sm_seg 3 61 [(0, .ref a0), (1, .long j1), (3, .int i3), (4, .int i4), (5, .int i5)] [.int (0 : Int32), .int (2 : Int32), .int i5, .ref r18] rfl ?_
  refine sm_gd fun h20 => ?_
  refine sm_cV (as := [.int i5, .int (2 : Int32), .int (0 : Int32)]) (rest := []) rfl rfl rfl rfl h20 (Nat.le_of_ble_eq_true rfl) (ca_72  r18 i5 (2 : Int32) (0 : Int32) w15) fun w21 h22 => ?_
  show sm _ _ _ _ 64 [(0, .ref a0), (1, .long j1), (3, .int i3), (4, .int i4), (5, .int i5)] [] _ _
  exact sm_rV rfl rfl
def fn_75 (a0 : Nat) (j1 : Int64) (i3 : Int32) (i4 : Int32) (w : cm_W) : Option cm_W := (if cm_sh w a0 = some (.inl 9) then (cm_R w a0 3).bind fun r24 => (if cm_sh w r24 = some (.inl 7) then (fn_71 r24 w).bind fun v27 => (if v27.1 < 0 then some v27.2 else (if v27.1 < (12 : Int32) then fn_75_22  a0 j1 i3 i4 v27.1 v27.2 else some v27.2)) else none) else none)
theorem jt_75_0 (a0 : Nat) (j1 : Int64) (i3 : Int32) (i4 : Int32) (w : cm_W) : sm cm_g 75 ck_75 kq_75 0 [(0, .ref a0), (1, .long j1), (3, .int i3), (4, .int i4)] [] w ((fn_75 a0 j1 i3 i4 w).map cm_gV) := by
  unfold fn_75
  refine sm_seg 1 1 [(0, .ref a0), (1, .long j1), (3, .int i3), (4, .int i4)] [.ref a0] rfl ?_
  refine sm_gd fun h23 => ?_
  refine sm_gR rfl h23 rfl rfl fun r24 h25 => ?_
  show sm _ _ _ _ 4 [(0, .ref a0), (1, .long j1), (3, .int i3), (4, .int i4)] [.ref r24] _ _
  refine sm_gd fun h26 => ?_
  refine sm_cV (as := []) (rest := []) rfl rfl rfl rfl h26 (Nat.le_of_ble_eq_true rfl) (ca_71  r24 w) fun v27 h28 => ?_
  show sm _ _ _ _ 7 [(0, .ref a0), (1, .long j1), (3, .int i3), (4, .int i4)] [.int v27.1] _ _
  refine sm_seg 2 11 [(5, .int v27.1), (0, .ref a0), (1, .long j1), (3, .int i3), (4, .int i4)] [.int v27.1] rfl ?_
  refine sm_if (pc1 := 21) (lv1 := []) (pc2 := 14) (lv2 := [(5, .int v27.1), (0, .ref a0), (1, .long j1), (3, .int i3), (4, .int i4)]) (st1 := []) rfl rfl rfl (fun h29 => ?_) (fun h29 => ?_)
  · exact sm_rV rfl rfl
  · refine sm_seg 2 18 [(5, .int v27.1), (0, .ref a0), (1, .long j1), (3, .int i3), (4, .int i4)] [.int (12 : Int32), .int v27.1] rfl ?_
    refine sm_if (pc1 := 22) (lv1 := [(0, .ref a0), (1, .long j1), (3, .int i3), (4, .int i4), (5, .int v27.1)]) (pc2 := 21) (lv2 := []) (st1 := []) rfl rfl rfl (fun h30 => ?_) (fun h30 => ?_)
    · exact jt_75_22  a0 j1 i3 i4 v27.1 v27.2
    · exact sm_rV rfl rfl
theorem ca_75 (a0 : Nat) (j1 : Int64) (i3 : Int32) (i4 : Int32) (w : cm_W) : cm_ca cm_g 75 [.ref a0, .long j1, .int i3, .int i4] w ((fn_75 a0 j1 i3 i4 w).map cm_gV) := cm_ca_of (cm_me_of rfl rfl) rfl (jt_75_0 a0 j1 i3 i4 w)
-- NailedBoxes$Reader.readWho()V
def fn_76 (a0 : Nat) (w : cm_W) : Option cm_W := (if cm_sh w a0 = some (.inl 4) then (cm_R w a0 8).bind fun r2 => (if cm_sh w r2 = some (.inl 9) then (cm_R w r2 3).bind fun r5 => (fn_69 a0 r5 w).bind fun v7 => (if cm_sh v7.2 a0 = some (.inl 4) then (cm_R v7.2 a0 4).bind fun r10 => (if cm_ga v7.2 .int r10 (cm_I v7.2 a0 6) = true then (if ((cm_I v7.2 r10 (cm_I v7.2 a0 6).toNatClampNeg) - (8 : Int32)) < 0 then (fn_66 a0 (0 : Int32) v7.2).bind fun w14 => (if cm_sh w14 a0 = some (.inl 4) then (fn_70 a0 (0 : Int32) (9999 : Int32) w14).bind fun v17 => (if cm_sh v17.2 a0 = some (.inl 4) then (if ¬ (cm_I v17.2 a0 7) = (-1 : Int32) then some v17.2 else (cm_R v17.2 a0 8).bind fun r21 => (if cm_sh v17.2 r21 = some (.inl 9) then (fn_75 r21 v7.1 ((cm_I v7.2 r10 (cm_I v7.2 a0 6).toNatClampNeg) - (8 : Int32)) v17.1 v17.2).bind fun w24 => some w24 else none)) else none) else none) else (fn_66 a0 (1 : Int32) v7.2).bind fun w26 => (if cm_sh w26 a0 = some (.inl 4) then (fn_70 a0 (0 : Int32) (9999 : Int32) w26).bind fun v29 => (if cm_sh v29.2 a0 = some (.inl 4) then (if ¬ (cm_I v29.2 a0 7) = (-1 : Int32) then some v29.2 else (cm_R v29.2 a0 8).bind fun r33 => (if cm_sh v29.2 r33 = some (.inl 9) then (fn_75 r33 v7.1 ((cm_I v7.2 r10 (cm_I v7.2 a0 6).toNatClampNeg) - (8 : Int32)) v29.1 v29.2).bind fun w36 => some w36 else none)) else none) else none)) else none) else none) else none) else none)
theorem jt_76_0 (a0 : Nat) (w : cm_W) : sm cm_g 76 ck_76 kq_76 0 [(0, .ref a0)] [] w ((fn_76 a0 w).map cm_gV) := by
  unfold fn_76
  refine sm_seg 2 2 [(0, .ref a0)] [.ref a0, .ref a0] rfl ?_
  refine sm_gd fun h1 => ?_
  refine sm_gR rfl h1 rfl rfl fun r2 h3 => ?_
  show sm _ _ _ _ 5 [(0, .ref a0)] [.ref r2, .ref a0] _ _
  refine sm_gd fun h4 => ?_
  refine sm_gR rfl h4 rfl rfl fun r5 h6 => ?_
  show sm _ _ _ _ 8 [(0, .ref a0)] [.ref r5, .ref a0] _ _
  refine sm_cV (as := [.ref r5]) (rest := []) rfl rfl rfl rfl h1 (Nat.le_of_ble_eq_true rfl) (ca_69  a0 r5 w) fun v7 h8 => ?_
  show sm _ _ _ _ 11 [(0, .ref a0)] [.long v7.1] _ _
  refine sm_seg 2 13 [(1, .long v7.1), (0, .ref a0)] [.ref a0] rfl ?_
  refine sm_gd fun h9 => ?_
  refine sm_gR rfl h9 rfl rfl fun r10 h11 => ?_
  show sm _ _ _ _ 16 [(1, .long v7.1), (0, .ref a0)] [.ref r10] _ _
  refine sm_seg 1 17 [(1, .long v7.1), (0, .ref a0)] [.ref a0, .ref r10] rfl ?_
  refine sm_gI rfl h9 rfl ?_
  show sm _ _ _ _ 20 [(1, .long v7.1), (0, .ref a0)] [.int (cm_I v7.2 a0 6), .ref r10] _ _
  refine sm_gd fun h12 => ?_
  refine sm_ai rfl h12 rfl ?_
  show sm _ _ _ _ 21 [(1, .long v7.1), (0, .ref a0)] [.int (cm_I v7.2 r10 (cm_I v7.2 a0 6).toNatClampNeg)] _ _
  refine sm_seg 5 27 [(3, .int ((cm_I v7.2 r10 (cm_I v7.2 a0 6).toNatClampNeg) - (8 : Int32))), (1, .long v7.1), (0, .ref a0)] [.int ((cm_I v7.2 r10 (cm_I v7.2 a0 6).toNatClampNeg) - (8 : Int32)), .ref a0] rfl ?_
  refine sm_if (pc1 := 34) (lv1 := [(0, .ref a0), (1, .long v7.1), (3, .int ((cm_I v7.2 r10 (cm_I v7.2 a0 6).toNatClampNeg) - (8 : Int32)))]) (pc2 := 30) (lv2 := [(3, .int ((cm_I v7.2 r10 (cm_I v7.2 a0 6).toNatClampNeg) - (8 : Int32))), (1, .long v7.1), (0, .ref a0)]) (st1 := [.ref a0]) rfl rfl rfl (fun h13 => ?_) (fun h13 => ?_)
  · refine sm_seg 1 35 [(0, .ref a0), (1, .long v7.1), (3, .int ((cm_I v7.2 r10 (cm_I v7.2 a0 6).toNatClampNeg) - (8 : Int32)))] [.int (0 : Int32), .ref a0] rfl ?_
    refine sm_cV (as := [.int (0 : Int32)]) (rest := []) rfl rfl rfl rfl h9 (Nat.le_of_ble_eq_true rfl) (ca_66  a0 (0 : Int32) v7.2) fun w14 h15 => ?_
    show sm _ _ _ _ 38 [(0, .ref a0), (1, .long v7.1), (3, .int ((cm_I v7.2 r10 (cm_I v7.2 a0 6).toNatClampNeg) - (8 : Int32)))] [] _ _
    refine sm_seg 3 43 [(0, .ref a0), (1, .long v7.1), (3, .int ((cm_I v7.2 r10 (cm_I v7.2 a0 6).toNatClampNeg) - (8 : Int32)))] [.int (9999 : Int32), .int (0 : Int32), .ref a0] rfl ?_
    refine sm_gd fun h16 => ?_
    refine sm_cV (as := [.int (0 : Int32), .int (9999 : Int32)]) (rest := []) rfl rfl rfl rfl h16 (Nat.le_of_ble_eq_true rfl) (ca_70  a0 (0 : Int32) (9999 : Int32) w14) fun v17 h18 => ?_
    show sm _ _ _ _ 46 [(0, .ref a0), (1, .long v7.1), (3, .int ((cm_I v7.2 r10 (cm_I v7.2 a0 6).toNatClampNeg) - (8 : Int32)))] [.int v17.1] _ _
    refine sm_seg 2 49 [(4, .int v17.1), (0, .ref a0), (1, .long v7.1), (3, .int ((cm_I v7.2 r10 (cm_I v7.2 a0 6).toNatClampNeg) - (8 : Int32)))] [.ref a0] rfl ?_
    refine sm_gd fun h19 => ?_
    refine sm_gI rfl h19 rfl ?_
    show sm _ _ _ _ 52 [(4, .int v17.1), (0, .ref a0), (1, .long v7.1), (3, .int ((cm_I v7.2 r10 (cm_I v7.2 a0 6).toNatClampNeg) - (8 : Int32)))] [.int (cm_I v17.2 a0 7)] _ _
    refine sm_seg 1 53 [(4, .int v17.1), (0, .ref a0), (1, .long v7.1), (3, .int ((cm_I v7.2 r10 (cm_I v7.2 a0 6).toNatClampNeg) - (8 : Int32)))] [.int (-1 : Int32), .int (cm_I v17.2 a0 7)] rfl ?_
    refine sm_if (pc1 := 67) (lv1 := []) (pc2 := 56) (lv2 := [(4, .int v17.1), (0, .ref a0), (1, .long v7.1), (3, .int ((cm_I v7.2 r10 (cm_I v7.2 a0 6).toNatClampNeg) - (8 : Int32)))]) (st1 := []) rfl rfl rfl (fun h20 => ?_) (fun h20 => ?_)
    · exact sm_rV rfl rfl
    · refine sm_seg 1 57 [(4, .int v17.1), (0, .ref a0), (1, .long v7.1), (3, .int ((cm_I v7.2 r10 (cm_I v7.2 a0 6).toNatClampNeg) - (8 : Int32)))] [.ref a0] rfl ?_
      refine sm_gR rfl h19 rfl rfl fun r21 h22 => ?_
      show sm _ _ _ _ 60 [(4, .int v17.1), (0, .ref a0), (1, .long v7.1), (3, .int ((cm_I v7.2 r10 (cm_I v7.2 a0 6).toNatClampNeg) - (8 : Int32)))] [.ref r21] _ _
      refine sm_seg 3 64 [(4, .int v17.1), (0, .ref a0), (1, .long v7.1), (3, .int ((cm_I v7.2 r10 (cm_I v7.2 a0 6).toNatClampNeg) - (8 : Int32)))] [.int v17.1, .int ((cm_I v7.2 r10 (cm_I v7.2 a0 6).toNatClampNeg) - (8 : Int32)), .long v7.1, .ref r21] rfl ?_
      refine sm_gd fun h23 => ?_
      refine sm_cV (as := [.long v7.1, .int ((cm_I v7.2 r10 (cm_I v7.2 a0 6).toNatClampNeg) - (8 : Int32)), .int v17.1]) (rest := []) rfl rfl rfl rfl h23 (Nat.le_of_ble_eq_true rfl) (ca_75  r21 v7.1 ((cm_I v7.2 r10 (cm_I v7.2 a0 6).toNatClampNeg) - (8 : Int32)) v17.1 v17.2) fun w24 h25 => ?_
      show sm _ _ _ _ 67 [] [] _ _
      exact sm_rV rfl rfl
  · refine sm_seg 2 35 [(0, .ref a0), (1, .long v7.1), (3, .int ((cm_I v7.2 r10 (cm_I v7.2 a0 6).toNatClampNeg) - (8 : Int32)))] [.int (1 : Int32), .ref a0] rfl ?_
    refine sm_cV (as := [.int (1 : Int32)]) (rest := []) rfl rfl rfl rfl h9 (Nat.le_of_ble_eq_true rfl) (ca_66  a0 (1 : Int32) v7.2) fun w26 h27 => ?_
    show sm _ _ _ _ 38 [(0, .ref a0), (1, .long v7.1), (3, .int ((cm_I v7.2 r10 (cm_I v7.2 a0 6).toNatClampNeg) - (8 : Int32)))] [] _ _
    refine sm_seg 3 43 [(0, .ref a0), (1, .long v7.1), (3, .int ((cm_I v7.2 r10 (cm_I v7.2 a0 6).toNatClampNeg) - (8 : Int32)))] [.int (9999 : Int32), .int (0 : Int32), .ref a0] rfl ?_
    refine sm_gd fun h28 => ?_
    refine sm_cV (as := [.int (0 : Int32), .int (9999 : Int32)]) (rest := []) rfl rfl rfl rfl h28 (Nat.le_of_ble_eq_true rfl) (ca_70  a0 (0 : Int32) (9999 : Int32) w26) fun v29 h30 => ?_
    show sm _ _ _ _ 46 [(0, .ref a0), (1, .long v7.1), (3, .int ((cm_I v7.2 r10 (cm_I v7.2 a0 6).toNatClampNeg) - (8 : Int32)))] [.int v29.1] _ _
    refine sm_seg 2 49 [(4, .int v29.1), (0, .ref a0), (1, .long v7.1), (3, .int ((cm_I v7.2 r10 (cm_I v7.2 a0 6).toNatClampNeg) - (8 : Int32)))] [.ref a0] rfl ?_
    refine sm_gd fun h31 => ?_
    refine sm_gI rfl h31 rfl ?_
    show sm _ _ _ _ 52 [(4, .int v29.1), (0, .ref a0), (1, .long v7.1), (3, .int ((cm_I v7.2 r10 (cm_I v7.2 a0 6).toNatClampNeg) - (8 : Int32)))] [.int (cm_I v29.2 a0 7)] _ _
    refine sm_seg 1 53 [(4, .int v29.1), (0, .ref a0), (1, .long v7.1), (3, .int ((cm_I v7.2 r10 (cm_I v7.2 a0 6).toNatClampNeg) - (8 : Int32)))] [.int (-1 : Int32), .int (cm_I v29.2 a0 7)] rfl ?_
    refine sm_if (pc1 := 67) (lv1 := []) (pc2 := 56) (lv2 := [(4, .int v29.1), (0, .ref a0), (1, .long v7.1), (3, .int ((cm_I v7.2 r10 (cm_I v7.2 a0 6).toNatClampNeg) - (8 : Int32)))]) (st1 := []) rfl rfl rfl (fun h32 => ?_) (fun h32 => ?_)
    · exact sm_rV rfl rfl
    · refine sm_seg 1 57 [(4, .int v29.1), (0, .ref a0), (1, .long v7.1), (3, .int ((cm_I v7.2 r10 (cm_I v7.2 a0 6).toNatClampNeg) - (8 : Int32)))] [.ref a0] rfl ?_
      refine sm_gR rfl h31 rfl rfl fun r33 h34 => ?_
      show sm _ _ _ _ 60 [(4, .int v29.1), (0, .ref a0), (1, .long v7.1), (3, .int ((cm_I v7.2 r10 (cm_I v7.2 a0 6).toNatClampNeg) - (8 : Int32)))] [.ref r33] _ _
      refine sm_seg 3 64 [(4, .int v29.1), (0, .ref a0), (1, .long v7.1), (3, .int ((cm_I v7.2 r10 (cm_I v7.2 a0 6).toNatClampNeg) - (8 : Int32)))] [.int v29.1, .int ((cm_I v7.2 r10 (cm_I v7.2 a0 6).toNatClampNeg) - (8 : Int32)), .long v7.1, .ref r33] rfl ?_
      refine sm_gd fun h35 => ?_
      refine sm_cV (as := [.long v7.1, .int ((cm_I v7.2 r10 (cm_I v7.2 a0 6).toNatClampNeg) - (8 : Int32)), .int v29.1]) (rest := []) rfl rfl rfl rfl h35 (Nat.le_of_ble_eq_true rfl) (ca_75  r33 v7.1 ((cm_I v7.2 r10 (cm_I v7.2 a0 6).toNatClampNeg) - (8 : Int32)) v29.1 v29.2) fun w36 h37 => ?_
      show sm _ _ _ _ 67 [] [] _ _
      exact sm_rV rfl rfl
theorem ca_76 (a0 : Nat) (w : cm_W) : cm_ca cm_g 76 [.ref a0] w ((fn_76 a0 w).map cm_gV) := cm_ca_of (cm_me_of rfl rfl) rfl (jt_76_0 a0 w)
-- NailedBoxes$Village.setShare(III)V
def fn_77 (a0 : Nat) (i1 : Int32) (i2 : Int32) (i3 : Int32) (w : cm_W) : Option cm_W := (if cm_sh w a0 = some (.inl 9) then (cm_R w a0 3).bind fun r2 => (if cm_sh w r2 = some (.inl 7) then (fn_7 w r2 i1).bind fun v5 => (if (cm_b v5) = 0 then some w else (if i2 < 0 then some w else (if (8 : Int32) ≤ i2 then some w else (cm_R w a0 4).bind fun r10 => (if cm_ga w .int r10 ((i1 * (8 : Int32)) + i2) = true then (if cm_w2 10 30 r10 = true then some (cm_sI w r10 ((i1 * (8 : Int32)) + i2).toNatClampNeg i3) else none) else none)))) else none) else none)
theorem jt_77_0 (a0 : Nat) (i1 : Int32) (i2 : Int32) (i3 : Int32) (w : cm_W) : sm cm_g 77 ck_77 kq_77 0 [(0, .ref a0), (1, .int i1), (2, .int i2), (3, .int i3)] [] w ((fn_77 a0 i1 i2 i3 w).map cm_gV) := by
  unfold fn_77
  refine sm_seg 1 1 [(0, .ref a0), (1, .int i1), (2, .int i2), (3, .int i3)] [.ref a0] rfl ?_
  refine sm_gd fun h1 => ?_
  refine sm_gR rfl h1 rfl rfl fun r2 h3 => ?_
  show sm _ _ _ _ 4 [(0, .ref a0), (1, .int i1), (2, .int i2), (3, .int i3)] [.ref r2] _ _
  refine sm_seg 1 5 [(0, .ref a0), (1, .int i1), (2, .int i2), (3, .int i3)] [.int i1, .ref r2] rfl ?_
  refine sm_gd fun h4 => ?_
  refine sm_cV (as := [.int i1]) (rest := []) rfl rfl rfl rfl h4 (Nat.le_of_ble_eq_true rfl) (ca_7 w r2 i1) fun v5 h6 => ?_
  show sm _ _ _ _ 8 [(0, .ref a0), (1, .int i1), (2, .int i2), (3, .int i3)] [.int (cm_b v5)] _ _
  refine sm_if (pc1 := 33) (lv1 := []) (pc2 := 11) (lv2 := [(0, .ref a0), (1, .int i1), (2, .int i2), (3, .int i3)]) (st1 := []) rfl rfl rfl (fun h7 => ?_) (fun h7 => ?_)
  · exact sm_rV rfl rfl
  · refine sm_seg 1 12 [(0, .ref a0), (1, .int i1), (2, .int i2), (3, .int i3)] [.int i2] rfl ?_
    refine sm_if (pc1 := 33) (lv1 := []) (pc2 := 15) (lv2 := [(0, .ref a0), (1, .int i1), (2, .int i2), (3, .int i3)]) (st1 := []) rfl rfl rfl (fun h8 => ?_) (fun h8 => ?_)
    · exact sm_rV rfl rfl
    · refine sm_seg 2 18 [(0, .ref a0), (1, .int i1), (2, .int i2), (3, .int i3)] [.int (8 : Int32), .int i2] rfl ?_
      refine sm_if (pc1 := 33) (lv1 := []) (pc2 := 21) (lv2 := [(0, .ref a0), (1, .int i1), (2, .int i2), (3, .int i3)]) (st1 := []) rfl rfl rfl (fun h9 => ?_) (fun h9 => ?_)
      · exact sm_rV rfl rfl
      · refine sm_seg 1 22 [(0, .ref a0), (1, .int i1), (2, .int i2), (3, .int i3)] [.ref a0] rfl ?_
        refine sm_gR rfl h1 rfl rfl fun r10 h11 => ?_
        show sm _ _ _ _ 25 [(0, .ref a0), (1, .int i1), (2, .int i2), (3, .int i3)] [.ref r10] _ _
        refine sm_seg 6 32 [(0, .ref a0), (1, .int i1), (2, .int i2), (3, .int i3)] [.int i3, .int ((i1 * (8 : Int32)) + i2), .ref r10] rfl ?_
        refine sm_gd fun h12 => ?_
        refine sm_gd fun h13 => ?_
        refine sm_si rfl h12 h13 rfl rfl ?_
        show sm _ _ _ _ 33 [] [] _ _
        exact sm_rV rfl rfl
theorem ca_77 (a0 : Nat) (i1 : Int32) (i2 : Int32) (i3 : Int32) (w : cm_W) : cm_ca cm_g 77 [.ref a0, .int i1, .int i2, .int i3] w ((fn_77 a0 i1 i2 i3 w).map cm_gV) := cm_ca_of (cm_me_of rfl rfl) rfl (jt_77_0 a0 i1 i2 i3 w)
-- NailedBoxes$Village.takeShares(I)V
def fn_78_2 : Nat → Nat → Int32 → Int32 → cm_W → Option cm_W
  | 0, _, _, _, _ => none
  | n + 1, a0, i1, i2, w => (if (8 : Int32) ≤ i2 then some w else (if cm_sh w a0 = some (.inl 9) then (fn_77 a0 i1 i2 (0 : Int32) w).bind fun w3 => fn_78_2 n a0 i1 (i2 + (1 : Int32)) w3 else none))
theorem jt_78_2 : ∀ (n : Nat) (a0 : Nat) (i1 : Int32) (i2 : Int32) (w : cm_W), sm cm_g 78 ck_78 kq_78 2 [(0, .ref a0), (1, .int i1), (2, .int i2)] [] w ((fn_78_2 n a0 i1 i2 w).map cm_gV) := by
  intro n
  induction n with
  | zero => intro a0 i1 i2 w; exact sm_no
  | succ n ih =>
    intro a0 i1 i2 w
    rw [fn_78_2]
    refine sm_seg 2 5 [(0, .ref a0), (1, .int i1), (2, .int i2)] [.int (8 : Int32), .int i2] rfl ?_
    refine sm_if (pc1 := 21) (lv1 := []) (pc2 := 8) (lv2 := [(0, .ref a0), (1, .int i1), (2, .int i2)]) (st1 := []) rfl rfl rfl (fun h1 => ?_) (fun h1 => ?_)
    · exact sm_rV rfl rfl
    · refine sm_seg 4 12 [(0, .ref a0), (1, .int i1), (2, .int i2)] [.int (0 : Int32), .int i2, .int i1, .ref a0] rfl ?_
      refine sm_gd fun h2 => ?_
      refine sm_cV (as := [.int i1, .int i2, .int (0 : Int32)]) (rest := []) rfl rfl rfl rfl h2 (Nat.le_of_ble_eq_true rfl) (ca_77  a0 i1 i2 (0 : Int32) w) fun w3 h4 => ?_
      show sm _ _ _ _ 15 [(0, .ref a0), (1, .int i1), (2, .int i2)] [] _ _
      refine sm_seg 2 2 [(0, .ref a0), (1, .int i1), (2, .int (i2 + (1 : Int32)))] [] rfl ?_
      exact ih a0 i1 (i2 + (1 : Int32)) w3
def fn_78 (a0 : Nat) (i1 : Int32) (w : cm_W) : Option cm_W := fn_78_2  cm_N a0 i1 (0 : Int32) w
theorem jt_78_0 (a0 : Nat) (i1 : Int32) (w : cm_W) : sm cm_g 78 ck_78 kq_78 0 [(0, .ref a0), (1, .int i1)] [] w ((fn_78 a0 i1 w).map cm_gV) := by
  unfold fn_78
  refine sm_seg 2 2 [(0, .ref a0), (1, .int i1), (2, .int (0 : Int32))] [] rfl ?_
  exact jt_78_2  cm_N a0 i1 (0 : Int32) w
theorem ca_78 (a0 : Nat) (i1 : Int32) (w : cm_W) : cm_ca cm_g 78 [.ref a0, .int i1] w ((fn_78 a0 i1 w).map cm_gV) := cm_ca_of (cm_me_of rfl rfl) rfl (jt_78_0 a0 i1 w)
-- NailedBoxes$Reader.isSign(C)Z
def fn_79 (w : cm_W) (a0 : Nat) (i1 : Int32) : Option Bool := (if cm_sh w a0 = some (.inl 4) then (cm_R w a0 1).bind fun r2 => (if cm_ga w .int r2 (cm_I w a0 6) = true then (if ¬ (cm_I w r2 (cm_I w a0 6).toNatClampNeg) = (3 : Int32) then some false else (cm_R w a0 3).bind fun r6 => (if cm_ga w .long r6 (cm_I w a0 6) = true then (if ¬ (lg_cmp (cm_L w r6 (cm_I w a0 6).toNatClampNeg) (Int32.toInt64 i1)) = 0 then some false else some true) else none)) else none) else none)
theorem jt_79_0 (w : cm_W) (a0 : Nat) (i1 : Int32) : sm cm_g 79 ck_79 kq_79 0 [(0, .ref a0), (1, .int i1)] [] w ((fn_79 w a0 i1).map (cm_fB w)) := by
  unfold fn_79
  refine sm_seg 1 1 [(0, .ref a0), (1, .int i1)] [.ref a0] rfl ?_
  refine sm_gd fun h1 => ?_
  refine sm_gR rfl h1 rfl rfl fun r2 h3 => ?_
  show sm _ _ _ _ 4 [(0, .ref a0), (1, .int i1)] [.ref r2] _ _
  refine sm_seg 1 5 [(0, .ref a0), (1, .int i1)] [.ref a0, .ref r2] rfl ?_
  refine sm_gI rfl h1 rfl ?_
  show sm _ _ _ _ 8 [(0, .ref a0), (1, .int i1)] [.int (cm_I w a0 6), .ref r2] _ _
  refine sm_gd fun h4 => ?_
  refine sm_ai rfl h4 rfl ?_
  show sm _ _ _ _ 9 [(0, .ref a0), (1, .int i1)] [.int (cm_I w r2 (cm_I w a0 6).toNatClampNeg)] _ _
  refine sm_seg 1 10 [(0, .ref a0), (1, .int i1)] [.int (3 : Int32), .int (cm_I w r2 (cm_I w a0 6).toNatClampNeg)] rfl ?_
  refine sm_if (pc1 := 32) (lv1 := []) (pc2 := 13) (lv2 := [(0, .ref a0), (1, .int i1)]) (st1 := []) rfl rfl rfl (fun h5 => ?_) (fun h5 => ?_)
  · refine sm_seg 1 33 [] [.int (0 : Int32)] rfl ?_
    exact sm_rB (b := false) rfl rfl
  · refine sm_seg 1 14 [(0, .ref a0), (1, .int i1)] [.ref a0] rfl ?_
    refine sm_gR rfl h1 rfl rfl fun r6 h7 => ?_
    show sm _ _ _ _ 17 [(0, .ref a0), (1, .int i1)] [.ref r6] _ _
    refine sm_seg 1 18 [(0, .ref a0), (1, .int i1)] [.ref a0, .ref r6] rfl ?_
    refine sm_gI rfl h1 rfl ?_
    show sm _ _ _ _ 21 [(0, .ref a0), (1, .int i1)] [.int (cm_I w a0 6), .ref r6] _ _
    refine sm_gd fun h8 => ?_
    refine sm_al rfl h8 rfl ?_
    show sm _ _ _ _ 22 [(0, .ref a0), (1, .int i1)] [.long (cm_L w r6 (cm_I w a0 6).toNatClampNeg)] _ _
    refine sm_seg 3 25 [(0, .ref a0), (1, .int i1)] [.int (lg_cmp (cm_L w r6 (cm_I w a0 6).toNatClampNeg) (Int32.toInt64 i1))] rfl ?_
    refine sm_if (pc1 := 32) (lv1 := []) (pc2 := 28) (lv2 := [(0, .ref a0), (1, .int i1)]) (st1 := []) rfl rfl rfl (fun h9 => ?_) (fun h9 => ?_)
    · refine sm_seg 1 33 [] [.int (0 : Int32)] rfl ?_
      exact sm_rB (b := false) rfl rfl
    · refine sm_seg 2 33 [] [.int (1 : Int32)] rfl ?_
      exact sm_rB (b := true) rfl rfl
theorem ca_79 (w : cm_W) (a0 : Nat) (i1 : Int32) : cm_ca cm_g 79 [.ref a0, .int i1] w ((fn_79 w a0 i1).map (cm_fB w)) := cm_ca_of (cm_me_of rfl rfl) rfl (jt_79_0 w a0 i1)
-- NailedBoxes$Reader.readFills()V
def fn_80_162 (k_48 : Nat → Int32 → Int32 → Int32 → cm_W → Option cm_W) (a0 : Nat) (i1 : Int32) (i2 : Int32) (i3 : Int32) (w : cm_W) : Option cm_W := k_48 a0 i1 i2 (i3 + (1 : Int32)) w
theorem jt_80_162 (k_48 : Nat → Int32 → Int32 → Int32 → cm_W → Option cm_W) (hk_48 : ∀ (a0 : Nat) (i1 : Int32) (i2 : Int32) (i3 : Int32) (w : cm_W), sm cm_g 80 ck_80 kq_80 48 [(0, .ref a0), (1, .int i1), (2, .int i2), (3, .int i3)] [] w ((k_48 a0 i1 i2 i3 w).map cm_gV)) (a0 : Nat) (i1 : Int32) (i2 : Int32) (i3 : Int32) (w : cm_W) : sm cm_g 80 ck_80 kq_80 162 [(0, .ref a0), (1, .int i1), (2, .int i2), (3, .int i3)] [] w ((fn_80_162 k_48 a0 i1 i2 i3 w).map cm_gV) := by
  unfold fn_80_162
  refine sm_seg 2 48 [(0, .ref a0), (1, .int i1), (2, .int i2), (3, .int (i3 + (1 : Int32)))] [] rfl ?_
  exact hk_48 a0 i1 i2 (i3 + (1 : Int32)) w
def fn_80_151 (k_48 : Nat → Int32 → Int32 → Int32 → cm_W → Option cm_W) (a0 : Nat) (i1 : Int32) (i3 : Int32) (w : cm_W) : Option cm_W := fn_80_162  k_48 a0 i1 (0 : Int32) i3 w
theorem jt_80_151 (k_48 : Nat → Int32 → Int32 → Int32 → cm_W → Option cm_W) (hk_48 : ∀ (a0 : Nat) (i1 : Int32) (i2 : Int32) (i3 : Int32) (w : cm_W), sm cm_g 80 ck_80 kq_80 48 [(0, .ref a0), (1, .int i1), (2, .int i2), (3, .int i3)] [] w ((k_48 a0 i1 i2 i3 w).map cm_gV)) (a0 : Nat) (i1 : Int32) (i3 : Int32) (w : cm_W) : sm cm_g 80 ck_80 kq_80 151 [(0, .ref a0), (1, .int i1), (3, .int i3)] [] w ((fn_80_151 k_48 a0 i1 i3 w).map cm_gV) := by
  unfold fn_80_151
  refine sm_seg 3 154 [(2, .int (0 : Int32)), (0, .ref a0), (1, .int i1), (3, .int i3)] [.int (0 : Int32)] rfl ?_
  refine sm_ift (c := (0 : Int32) = 0) (pc1 := 162) (pc2 := 157) (lv1 := [(0, .ref a0), (1, .int i1), (2, .int (0 : Int32)), (3, .int i3)]) (st1 := []) rfl (by decide) rfl ?_
  exact jt_80_162  k_48 hk_48 a0 i1 (0 : Int32) i3 w
def fn_80_48 : Nat → Nat → Int32 → Int32 → Int32 → cm_W → Option cm_W
  | 0, _, _, _, _, _ => none
  | n + 1, a0, i1, i2, i3, w => (if (8 : Int32) < i3 then some w else (if i2 = 0 then some w else (if cm_sh w a0 = some (.inl 4) then (fn_70 a0 (1 : Int32) (99 : Int32) w).bind fun v4 => (if cm_sh v4.2 a0 = some (.inl 4) then (cm_R v4.2 a0 8).bind fun r7 => (if cm_sh v4.2 r7 = some (.inl 9) then (cm_R v4.2 r7 0).bind fun r10 => (cm_R v4.2 a0 8).bind fun r12 => (if cm_sh v4.2 r12 = some (.inl 9) then (cm_R v4.2 r12 1).bind fun r15 => (if cm_sh v4.2 r15 = some (.inl 7) then (fn_68 v4.2 a0 r10 (cm_I v4.2 r15 2)).bind fun v18 => (if v18 = (-1 : Int32) then (fn_66 a0 (0 : Int32) v4.2).bind fun w21 => (if cm_sh w21 a0 = some (.inl 4) then (cm_R w21 a0 8).bind fun r24 => (if cm_sh w21 r24 = some (.inl 9) then (fn_77 r24 i1 v18 v4.1 w21).bind fun w27 => (if cm_sh w27 a0 = some (.inl 4) then (fn_79 w27 a0 (44 : Int32)).bind fun v30 => (if (cm_b v30) = 0 then fn_80_151  (fn_80_48 n) a0 i1 i3 w27 else (if ¬ (cm_I w27 a0 7) = (-1 : Int32) then fn_80_151  (fn_80_48 n) a0 i1 i3 w27 else (fn_66 a0 (1 : Int32) w27).bind fun w34 => fn_80_162  (fn_80_48 n) a0 i1 (1 : Int32) i3 w34)) else none) else none) else none) else (cm_R v4.2 a0 8).bind fun r36 => (if cm_sh v4.2 r36 = some (.inl 9) then (fn_8 v4.2 r36 i1 v18).bind fun v39 => (if ¬ v39 = 0 then (fn_66 a0 (0 : Int32) v4.2).bind fun w42 => (if cm_sh w42 a0 = some (.inl 4) then (cm_R w42 a0 8).bind fun r45 => (if cm_sh w42 r45 = some (.inl 9) then (fn_77 r45 i1 v18 v4.1 w42).bind fun w48 => (if cm_sh w48 a0 = some (.inl 4) then (fn_79 w48 a0 (44 : Int32)).bind fun v51 => (if (cm_b v51) = 0 then fn_80_151  (fn_80_48 n) a0 i1 i3 w48 else (if ¬ (cm_I w48 a0 7) = (-1 : Int32) then fn_80_151  (fn_80_48 n) a0 i1 i3 w48 else (fn_66 a0 (1 : Int32) w48).bind fun w55 => fn_80_162  (fn_80_48 n) a0 i1 (1 : Int32) i3 w55)) else none) else none) else none) else (fn_66 a0 (1 : Int32) v4.2).bind fun w57 => (if cm_sh w57 a0 = some (.inl 4) then (cm_R w57 a0 8).bind fun r60 => (if cm_sh w57 r60 = some (.inl 9) then (fn_77 r60 i1 v18 v4.1 w57).bind fun w63 => (if cm_sh w63 a0 = some (.inl 4) then (fn_79 w63 a0 (44 : Int32)).bind fun v66 => (if (cm_b v66) = 0 then fn_80_151  (fn_80_48 n) a0 i1 i3 w63 else (if ¬ (cm_I w63 a0 7) = (-1 : Int32) then fn_80_151  (fn_80_48 n) a0 i1 i3 w63 else (fn_66 a0 (1 : Int32) w63).bind fun w70 => fn_80_162  (fn_80_48 n) a0 i1 (1 : Int32) i3 w70)) else none) else none) else none)) else none)) else none) else none) else none) else none) else none)))
theorem jt_80_48 : ∀ (n : Nat) (a0 : Nat) (i1 : Int32) (i2 : Int32) (i3 : Int32) (w : cm_W), sm cm_g 80 ck_80 kq_80 48 [(0, .ref a0), (1, .int i1), (2, .int i2), (3, .int i3)] [] w ((fn_80_48 n a0 i1 i2 i3 w).map cm_gV) := by
  intro n
  induction n with
  | zero => intro a0 i1 i2 i3 w; exact sm_no
  | succ n ih =>
    intro a0 i1 i2 i3 w
    rw [fn_80_48]
    refine sm_seg 2 51 [(0, .ref a0), (1, .int i1), (2, .int i2), (3, .int i3)] [.int (8 : Int32), .int i3] rfl ?_
    refine sm_if (pc1 := 168) (lv1 := []) (pc2 := 54) (lv2 := [(0, .ref a0), (1, .int i1), (2, .int i2), (3, .int i3)]) (st1 := []) rfl rfl rfl (fun h1 => ?_) (fun h1 => ?_)
    · exact sm_rV rfl rfl
    · refine sm_seg 1 55 [(0, .ref a0), (1, .int i1), (2, .int i2), (3, .int i3)] [.int i2] rfl ?_
      refine sm_if (pc1 := 168) (lv1 := []) (pc2 := 58) (lv2 := [(0, .ref a0), (1, .int i1), (2, .int i2), (3, .int i3)]) (st1 := []) rfl rfl rfl (fun h2 => ?_) (fun h2 => ?_)
      · exact sm_rV rfl rfl
      · refine sm_seg 3 62 [(0, .ref a0), (1, .int i1), (2, .int i2), (3, .int i3)] [.int (99 : Int32), .int (1 : Int32), .ref a0] rfl ?_
        refine sm_gd fun h3 => ?_
        refine sm_cV (as := [.int (1 : Int32), .int (99 : Int32)]) (rest := []) rfl rfl rfl rfl h3 (Nat.le_of_ble_eq_true rfl) (ca_70  a0 (1 : Int32) (99 : Int32) w) fun v4 h5 => ?_
        show sm _ _ _ _ 65 [(0, .ref a0), (1, .int i1), (2, .int i2), (3, .int i3)] [.int v4.1] _ _
        refine sm_seg 3 69 [(4, .int v4.1), (0, .ref a0), (1, .int i1), (2, .int i2), (3, .int i3)] [.ref a0, .ref a0] rfl ?_
        refine sm_gd fun h6 => ?_
        refine sm_gR rfl h6 rfl rfl fun r7 h8 => ?_
        show sm _ _ _ _ 72 [(4, .int v4.1), (0, .ref a0), (1, .int i1), (2, .int i2), (3, .int i3)] [.ref r7, .ref a0] _ _
        refine sm_gd fun h9 => ?_
        refine sm_gR rfl h9 rfl rfl fun r10 h11 => ?_
        show sm _ _ _ _ 75 [(4, .int v4.1), (0, .ref a0), (1, .int i1), (2, .int i2), (3, .int i3)] [.ref r10, .ref a0] _ _
        refine sm_seg 1 76 [(4, .int v4.1), (0, .ref a0), (1, .int i1), (2, .int i2), (3, .int i3)] [.ref a0, .ref r10, .ref a0] rfl ?_
        refine sm_gR rfl h6 rfl rfl fun r12 h13 => ?_
        show sm _ _ _ _ 79 [(4, .int v4.1), (0, .ref a0), (1, .int i1), (2, .int i2), (3, .int i3)] [.ref r12, .ref r10, .ref a0] _ _
        refine sm_gd fun h14 => ?_
        refine sm_gR rfl h14 rfl rfl fun r15 h16 => ?_
        show sm _ _ _ _ 82 [(4, .int v4.1), (0, .ref a0), (1, .int i1), (2, .int i2), (3, .int i3)] [.ref r15, .ref r10, .ref a0] _ _
        refine sm_gd fun h17 => ?_
        refine sm_gI rfl h17 rfl ?_
        show sm _ _ _ _ 85 [(4, .int v4.1), (0, .ref a0), (1, .int i1), (2, .int i2), (3, .int i3)] [.int (cm_I v4.2 r15 2), .ref r10, .ref a0] _ _
        refine sm_cV (as := [.ref r10, .int (cm_I v4.2 r15 2)]) (rest := []) rfl rfl rfl rfl h6 (Nat.le_of_ble_eq_true rfl) (ca_68 v4.2 a0 r10 (cm_I v4.2 r15 2)) fun v18 h19 => ?_
        show sm _ _ _ _ 88 [(4, .int v4.1), (0, .ref a0), (1, .int i1), (2, .int i2), (3, .int i3)] [.int v18] _ _
        refine sm_seg 4 94 [(5, .int v18), (4, .int v4.1), (0, .ref a0), (1, .int i1), (2, .int i2), (3, .int i3)] [.int (-1 : Int32), .int v18, .ref a0] rfl ?_
        refine sm_if (pc1 := 114) (lv1 := [(0, .ref a0), (1, .int i1), (3, .int i3), (4, .int v4.1), (5, .int v18)]) (pc2 := 97) (lv2 := [(5, .int v18), (4, .int v4.1), (0, .ref a0), (1, .int i1), (2, .int i2), (3, .int i3)]) (st1 := [.ref a0]) rfl rfl rfl (fun h20 => ?_) (fun h20 => ?_)
        · refine sm_seg 1 115 [(0, .ref a0), (1, .int i1), (3, .int i3), (4, .int v4.1), (5, .int v18)] [.int (0 : Int32), .ref a0] rfl ?_
          refine sm_cV (as := [.int (0 : Int32)]) (rest := []) rfl rfl rfl rfl h6 (Nat.le_of_ble_eq_true rfl) (ca_66  a0 (0 : Int32) v4.2) fun w21 h22 => ?_
          show sm _ _ _ _ 118 [(0, .ref a0), (1, .int i1), (3, .int i3), (4, .int v4.1), (5, .int v18)] [] _ _
          refine sm_seg 1 119 [(0, .ref a0), (1, .int i1), (3, .int i3), (4, .int v4.1), (5, .int v18)] [.ref a0] rfl ?_
          refine sm_gd fun h23 => ?_
          refine sm_gR rfl h23 rfl rfl fun r24 h25 => ?_
          show sm _ _ _ _ 122 [(0, .ref a0), (1, .int i1), (3, .int i3), (4, .int v4.1), (5, .int v18)] [.ref r24] _ _
          refine sm_seg 3 127 [(0, .ref a0), (1, .int i1), (3, .int i3), (4, .int v4.1), (5, .int v18)] [.int v4.1, .int v18, .int i1, .ref r24] rfl ?_
          refine sm_gd fun h26 => ?_
          refine sm_cV (as := [.int i1, .int v18, .int v4.1]) (rest := []) rfl rfl rfl rfl h26 (Nat.le_of_ble_eq_true rfl) (ca_77  r24 i1 v18 v4.1 w21) fun w27 h28 => ?_
          show sm _ _ _ _ 130 [(0, .ref a0), (1, .int i1), (3, .int i3), (4, .int v4.1), (5, .int v18)] [] _ _
          refine sm_seg 2 133 [(0, .ref a0), (1, .int i1), (3, .int i3), (4, .int v4.1), (5, .int v18)] [.int (44 : Int32), .ref a0] rfl ?_
          refine sm_gd fun h29 => ?_
          refine sm_cV (as := [.int (44 : Int32)]) (rest := []) rfl rfl rfl rfl h29 (Nat.le_of_ble_eq_true rfl) (ca_79 w27 a0 (44 : Int32)) fun v30 h31 => ?_
          show sm _ _ _ _ 136 [(0, .ref a0), (1, .int i1), (3, .int i3), (4, .int v4.1), (5, .int v18)] [.int (cm_b v30)] _ _
          refine sm_if (pc1 := 151) (lv1 := [(0, .ref a0), (1, .int i1), (3, .int i3)]) (pc2 := 139) (lv2 := [(0, .ref a0), (1, .int i1), (3, .int i3), (4, .int v4.1), (5, .int v18)]) (st1 := []) rfl rfl rfl (fun h32 => ?_) (fun h32 => ?_)
          · exact jt_80_151  (fn_80_48 n) ih a0 i1 i3 w27
          · refine sm_seg 1 140 [(0, .ref a0), (1, .int i1), (3, .int i3), (4, .int v4.1), (5, .int v18)] [.ref a0] rfl ?_
            refine sm_gI rfl h29 rfl ?_
            show sm _ _ _ _ 143 [(0, .ref a0), (1, .int i1), (3, .int i3), (4, .int v4.1), (5, .int v18)] [.int (cm_I w27 a0 7)] _ _
            refine sm_seg 1 144 [(0, .ref a0), (1, .int i1), (3, .int i3), (4, .int v4.1), (5, .int v18)] [.int (-1 : Int32), .int (cm_I w27 a0 7)] rfl ?_
            refine sm_if (pc1 := 151) (lv1 := [(0, .ref a0), (1, .int i1), (3, .int i3)]) (pc2 := 147) (lv2 := [(0, .ref a0), (1, .int i1), (3, .int i3), (4, .int v4.1), (5, .int v18)]) (st1 := []) rfl rfl rfl (fun h33 => ?_) (fun h33 => ?_)
            · exact jt_80_151  (fn_80_48 n) ih a0 i1 i3 w27
            · refine sm_seg 4 154 [(2, .int (1 : Int32)), (0, .ref a0), (1, .int i1), (3, .int i3)] [.int (1 : Int32)] rfl ?_
              refine sm_iff (c := (1 : Int32) = 0) (pc1 := 162) (pc2 := 157) (lv1 := [(2, .int (1 : Int32)), (0, .ref a0), (1, .int i1), (3, .int i3)]) (st1 := []) rfl (by decide) rfl ?_
              refine sm_seg 2 159 [(2, .int (1 : Int32)), (0, .ref a0), (1, .int i1), (3, .int i3)] [.int (1 : Int32), .ref a0] rfl ?_
              refine sm_cV (as := [.int (1 : Int32)]) (rest := []) rfl rfl rfl rfl h29 (Nat.le_of_ble_eq_true rfl) (ca_66  a0 (1 : Int32) w27) fun w34 h35 => ?_
              show sm _ _ _ _ 162 [(0, .ref a0), (1, .int i1), (2, .int (1 : Int32)), (3, .int i3)] [] _ _
              exact jt_80_162  (fn_80_48 n) ih a0 i1 (1 : Int32) i3 w34
        · refine sm_seg 1 98 [(5, .int v18), (4, .int v4.1), (0, .ref a0), (1, .int i1), (2, .int i2), (3, .int i3)] [.ref a0, .ref a0] rfl ?_
          refine sm_gR rfl h6 rfl rfl fun r36 h37 => ?_
          show sm _ _ _ _ 101 [(5, .int v18), (4, .int v4.1), (0, .ref a0), (1, .int i1), (2, .int i2), (3, .int i3)] [.ref r36, .ref a0] _ _
          refine sm_seg 2 104 [(5, .int v18), (4, .int v4.1), (0, .ref a0), (1, .int i1), (2, .int i2), (3, .int i3)] [.int v18, .int i1, .ref r36, .ref a0] rfl ?_
          refine sm_gd fun h38 => ?_
          refine sm_cV (as := [.int i1, .int v18]) (rest := [.ref a0]) rfl rfl rfl rfl h38 (Nat.le_of_ble_eq_true rfl) (ca_8 v4.2 r36 i1 v18) fun v39 h40 => ?_
          show sm _ _ _ _ 107 [(5, .int v18), (4, .int v4.1), (0, .ref a0), (1, .int i1), (2, .int i2), (3, .int i3)] [.int v39, .ref a0] _ _
          refine sm_if (pc1 := 114) (lv1 := [(0, .ref a0), (1, .int i1), (3, .int i3), (4, .int v4.1), (5, .int v18)]) (pc2 := 110) (lv2 := [(5, .int v18), (4, .int v4.1), (0, .ref a0), (1, .int i1), (2, .int i2), (3, .int i3)]) (st1 := [.ref a0]) rfl rfl rfl (fun h41 => ?_) (fun h41 => ?_)
          · refine sm_seg 1 115 [(0, .ref a0), (1, .int i1), (3, .int i3), (4, .int v4.1), (5, .int v18)] [.int (0 : Int32), .ref a0] rfl ?_
            refine sm_cV (as := [.int (0 : Int32)]) (rest := []) rfl rfl rfl rfl h6 (Nat.le_of_ble_eq_true rfl) (ca_66  a0 (0 : Int32) v4.2) fun w42 h43 => ?_
            show sm _ _ _ _ 118 [(0, .ref a0), (1, .int i1), (3, .int i3), (4, .int v4.1), (5, .int v18)] [] _ _
            refine sm_seg 1 119 [(0, .ref a0), (1, .int i1), (3, .int i3), (4, .int v4.1), (5, .int v18)] [.ref a0] rfl ?_
            refine sm_gd fun h44 => ?_
            refine sm_gR rfl h44 rfl rfl fun r45 h46 => ?_
            show sm _ _ _ _ 122 [(0, .ref a0), (1, .int i1), (3, .int i3), (4, .int v4.1), (5, .int v18)] [.ref r45] _ _
            refine sm_seg 3 127 [(0, .ref a0), (1, .int i1), (3, .int i3), (4, .int v4.1), (5, .int v18)] [.int v4.1, .int v18, .int i1, .ref r45] rfl ?_
            refine sm_gd fun h47 => ?_
            refine sm_cV (as := [.int i1, .int v18, .int v4.1]) (rest := []) rfl rfl rfl rfl h47 (Nat.le_of_ble_eq_true rfl) (ca_77  r45 i1 v18 v4.1 w42) fun w48 h49 => ?_
            show sm _ _ _ _ 130 [(0, .ref a0), (1, .int i1), (3, .int i3), (4, .int v4.1), (5, .int v18)] [] _ _
            refine sm_seg 2 133 [(0, .ref a0), (1, .int i1), (3, .int i3), (4, .int v4.1), (5, .int v18)] [.int (44 : Int32), .ref a0] rfl ?_
            refine sm_gd fun h50 => ?_
            refine sm_cV (as := [.int (44 : Int32)]) (rest := []) rfl rfl rfl rfl h50 (Nat.le_of_ble_eq_true rfl) (ca_79 w48 a0 (44 : Int32)) fun v51 h52 => ?_
            show sm _ _ _ _ 136 [(0, .ref a0), (1, .int i1), (3, .int i3), (4, .int v4.1), (5, .int v18)] [.int (cm_b v51)] _ _
            refine sm_if (pc1 := 151) (lv1 := [(0, .ref a0), (1, .int i1), (3, .int i3)]) (pc2 := 139) (lv2 := [(0, .ref a0), (1, .int i1), (3, .int i3), (4, .int v4.1), (5, .int v18)]) (st1 := []) rfl rfl rfl (fun h53 => ?_) (fun h53 => ?_)
            · exact jt_80_151  (fn_80_48 n) ih a0 i1 i3 w48
            · refine sm_seg 1 140 [(0, .ref a0), (1, .int i1), (3, .int i3), (4, .int v4.1), (5, .int v18)] [.ref a0] rfl ?_
              refine sm_gI rfl h50 rfl ?_
              show sm _ _ _ _ 143 [(0, .ref a0), (1, .int i1), (3, .int i3), (4, .int v4.1), (5, .int v18)] [.int (cm_I w48 a0 7)] _ _
              refine sm_seg 1 144 [(0, .ref a0), (1, .int i1), (3, .int i3), (4, .int v4.1), (5, .int v18)] [.int (-1 : Int32), .int (cm_I w48 a0 7)] rfl ?_
              refine sm_if (pc1 := 151) (lv1 := [(0, .ref a0), (1, .int i1), (3, .int i3)]) (pc2 := 147) (lv2 := [(0, .ref a0), (1, .int i1), (3, .int i3), (4, .int v4.1), (5, .int v18)]) (st1 := []) rfl rfl rfl (fun h54 => ?_) (fun h54 => ?_)
              · exact jt_80_151  (fn_80_48 n) ih a0 i1 i3 w48
              · refine sm_seg 4 154 [(2, .int (1 : Int32)), (0, .ref a0), (1, .int i1), (3, .int i3)] [.int (1 : Int32)] rfl ?_
                refine sm_iff (c := (1 : Int32) = 0) (pc1 := 162) (pc2 := 157) (lv1 := [(2, .int (1 : Int32)), (0, .ref a0), (1, .int i1), (3, .int i3)]) (st1 := []) rfl (by decide) rfl ?_
                refine sm_seg 2 159 [(2, .int (1 : Int32)), (0, .ref a0), (1, .int i1), (3, .int i3)] [.int (1 : Int32), .ref a0] rfl ?_
                refine sm_cV (as := [.int (1 : Int32)]) (rest := []) rfl rfl rfl rfl h50 (Nat.le_of_ble_eq_true rfl) (ca_66  a0 (1 : Int32) w48) fun w55 h56 => ?_
                show sm _ _ _ _ 162 [(0, .ref a0), (1, .int i1), (2, .int (1 : Int32)), (3, .int i3)] [] _ _
                exact jt_80_162  (fn_80_48 n) ih a0 i1 (1 : Int32) i3 w55
          · refine sm_seg 2 115 [(0, .ref a0), (1, .int i1), (3, .int i3), (4, .int v4.1), (5, .int v18)] [.int (1 : Int32), .ref a0] rfl ?_
            refine sm_cV (as := [.int (1 : Int32)]) (rest := []) rfl rfl rfl rfl h6 (Nat.le_of_ble_eq_true rfl) (ca_66  a0 (1 : Int32) v4.2) fun w57 h58 => ?_
            show sm _ _ _ _ 118 [(0, .ref a0), (1, .int i1), (3, .int i3), (4, .int v4.1), (5, .int v18)] [] _ _
            refine sm_seg 1 119 [(0, .ref a0), (1, .int i1), (3, .int i3), (4, .int v4.1), (5, .int v18)] [.ref a0] rfl ?_
            refine sm_gd fun h59 => ?_
            refine sm_gR rfl h59 rfl rfl fun r60 h61 => ?_
            show sm _ _ _ _ 122 [(0, .ref a0), (1, .int i1), (3, .int i3), (4, .int v4.1), (5, .int v18)] [.ref r60] _ _
            refine sm_seg 3 127 [(0, .ref a0), (1, .int i1), (3, .int i3), (4, .int v4.1), (5, .int v18)] [.int v4.1, .int v18, .int i1, .ref r60] rfl ?_
            refine sm_gd fun h62 => ?_
            refine sm_cV (as := [.int i1, .int v18, .int v4.1]) (rest := []) rfl rfl rfl rfl h62 (Nat.le_of_ble_eq_true rfl) (ca_77  r60 i1 v18 v4.1 w57) fun w63 h64 => ?_
            show sm _ _ _ _ 130 [(0, .ref a0), (1, .int i1), (3, .int i3), (4, .int v4.1), (5, .int v18)] [] _ _
            refine sm_seg 2 133 [(0, .ref a0), (1, .int i1), (3, .int i3), (4, .int v4.1), (5, .int v18)] [.int (44 : Int32), .ref a0] rfl ?_
            refine sm_gd fun h65 => ?_
            refine sm_cV (as := [.int (44 : Int32)]) (rest := []) rfl rfl rfl rfl h65 (Nat.le_of_ble_eq_true rfl) (ca_79 w63 a0 (44 : Int32)) fun v66 h67 => ?_
            show sm _ _ _ _ 136 [(0, .ref a0), (1, .int i1), (3, .int i3), (4, .int v4.1), (5, .int v18)] [.int (cm_b v66)] _ _
            refine sm_if (pc1 := 151) (lv1 := [(0, .ref a0), (1, .int i1), (3, .int i3)]) (pc2 := 139) (lv2 := [(0, .ref a0), (1, .int i1), (3, .int i3), (4, .int v4.1), (5, .int v18)]) (st1 := []) rfl rfl rfl (fun h68 => ?_) (fun h68 => ?_)
            · exact jt_80_151  (fn_80_48 n) ih a0 i1 i3 w63
            · refine sm_seg 1 140 [(0, .ref a0), (1, .int i1), (3, .int i3), (4, .int v4.1), (5, .int v18)] [.ref a0] rfl ?_
              refine sm_gI rfl h65 rfl ?_
              show sm _ _ _ _ 143 [(0, .ref a0), (1, .int i1), (3, .int i3), (4, .int v4.1), (5, .int v18)] [.int (cm_I w63 a0 7)] _ _
              refine sm_seg 1 144 [(0, .ref a0), (1, .int i1), (3, .int i3), (4, .int v4.1), (5, .int v18)] [.int (-1 : Int32), .int (cm_I w63 a0 7)] rfl ?_
              refine sm_if (pc1 := 151) (lv1 := [(0, .ref a0), (1, .int i1), (3, .int i3)]) (pc2 := 147) (lv2 := [(0, .ref a0), (1, .int i1), (3, .int i3), (4, .int v4.1), (5, .int v18)]) (st1 := []) rfl rfl rfl (fun h69 => ?_) (fun h69 => ?_)
              · exact jt_80_151  (fn_80_48 n) ih a0 i1 i3 w63
              · refine sm_seg 4 154 [(2, .int (1 : Int32)), (0, .ref a0), (1, .int i1), (3, .int i3)] [.int (1 : Int32)] rfl ?_
                refine sm_iff (c := (1 : Int32) = 0) (pc1 := 162) (pc2 := 157) (lv1 := [(2, .int (1 : Int32)), (0, .ref a0), (1, .int i1), (3, .int i3)]) (st1 := []) rfl (by decide) rfl ?_
                refine sm_seg 2 159 [(2, .int (1 : Int32)), (0, .ref a0), (1, .int i1), (3, .int i3)] [.int (1 : Int32), .ref a0] rfl ?_
                refine sm_cV (as := [.int (1 : Int32)]) (rest := []) rfl rfl rfl rfl h65 (Nat.le_of_ble_eq_true rfl) (ca_66  a0 (1 : Int32) w63) fun w70 h71 => ?_
                show sm _ _ _ _ 162 [(0, .ref a0), (1, .int i1), (2, .int (1 : Int32)), (3, .int i3)] [] _ _
                exact jt_80_162  (fn_80_48 n) ih a0 i1 (1 : Int32) i3 w70
def fn_80 (a0 : Nat) (w : cm_W) : Option cm_W := (if cm_sh w a0 = some (.inl 4) then (cm_R w a0 8).bind fun r73 => (if cm_sh w r73 = some (.inl 9) then (cm_R w r73 2).bind fun r76 => (cm_R w a0 8).bind fun r78 => (if cm_sh w r78 = some (.inl 9) then (cm_R w r78 3).bind fun r81 => (if cm_sh w r81 = some (.inl 7) then (fn_68 w a0 r76 (cm_I w r81 2)).bind fun v84 => (if v84 = (-1 : Int32) then (fn_66 a0 (0 : Int32) w).bind fun w87 => (if cm_sh w87 a0 = some (.inl 4) then (cm_R w87 a0 8).bind fun r90 => (if cm_sh w87 r90 = some (.inl 9) then (fn_78 r90 v84 w87).bind fun w93 => fn_80_48  cm_N a0 v84 (1 : Int32) (0 : Int32) w93 else none) else none) else (fn_66 a0 (1 : Int32) w).bind fun w95 => (if cm_sh w95 a0 = some (.inl 4) then (cm_R w95 a0 8).bind fun r98 => (if cm_sh w95 r98 = some (.inl 9) then (fn_78 r98 v84 w95).bind fun w101 => fn_80_48  cm_N a0 v84 (1 : Int32) (0 : Int32) w101 else none) else none)) else none) else none) else none) else none)
theorem jt_80_0 (a0 : Nat) (w : cm_W) : sm cm_g 80 ck_80 kq_80 0 [(0, .ref a0)] [] w ((fn_80 a0 w).map cm_gV) := by
  unfold fn_80
  refine sm_seg 2 2 [(0, .ref a0)] [.ref a0, .ref a0] rfl ?_
  refine sm_gd fun h72 => ?_
  refine sm_gR rfl h72 rfl rfl fun r73 h74 => ?_
  show sm _ _ _ _ 5 [(0, .ref a0)] [.ref r73, .ref a0] _ _
  refine sm_gd fun h75 => ?_
  refine sm_gR rfl h75 rfl rfl fun r76 h77 => ?_
  show sm _ _ _ _ 8 [(0, .ref a0)] [.ref r76, .ref a0] _ _
  refine sm_seg 1 9 [(0, .ref a0)] [.ref a0, .ref r76, .ref a0] rfl ?_
  refine sm_gR rfl h72 rfl rfl fun r78 h79 => ?_
  show sm _ _ _ _ 12 [(0, .ref a0)] [.ref r78, .ref r76, .ref a0] _ _
  refine sm_gd fun h80 => ?_
  refine sm_gR rfl h80 rfl rfl fun r81 h82 => ?_
  show sm _ _ _ _ 15 [(0, .ref a0)] [.ref r81, .ref r76, .ref a0] _ _
  refine sm_gd fun h83 => ?_
  refine sm_gI rfl h83 rfl ?_
  show sm _ _ _ _ 18 [(0, .ref a0)] [.int (cm_I w r81 2), .ref r76, .ref a0] _ _
  refine sm_cV (as := [.ref r76, .int (cm_I w r81 2)]) (rest := []) rfl rfl rfl rfl h72 (Nat.le_of_ble_eq_true rfl) (ca_68 w a0 r76 (cm_I w r81 2)) fun v84 h85 => ?_
  show sm _ _ _ _ 21 [(0, .ref a0)] [.int v84] _ _
  refine sm_seg 4 25 [(1, .int v84), (0, .ref a0)] [.int (-1 : Int32), .int v84, .ref a0] rfl ?_
  refine sm_if (pc1 := 32) (lv1 := [(0, .ref a0), (1, .int v84)]) (pc2 := 28) (lv2 := [(1, .int v84), (0, .ref a0)]) (st1 := [.ref a0]) rfl rfl rfl (fun h86 => ?_) (fun h86 => ?_)
  · refine sm_seg 1 33 [(0, .ref a0), (1, .int v84)] [.int (0 : Int32), .ref a0] rfl ?_
    refine sm_cV (as := [.int (0 : Int32)]) (rest := []) rfl rfl rfl rfl h72 (Nat.le_of_ble_eq_true rfl) (ca_66  a0 (0 : Int32) w) fun w87 h88 => ?_
    show sm _ _ _ _ 36 [(0, .ref a0), (1, .int v84)] [] _ _
    refine sm_seg 1 37 [(0, .ref a0), (1, .int v84)] [.ref a0] rfl ?_
    refine sm_gd fun h89 => ?_
    refine sm_gR rfl h89 rfl rfl fun r90 h91 => ?_
    show sm _ _ _ _ 40 [(0, .ref a0), (1, .int v84)] [.ref r90] _ _
    refine sm_seg 1 41 [(0, .ref a0), (1, .int v84)] [.int v84, .ref r90] rfl ?_
    refine sm_gd fun h92 => ?_
    refine sm_cV (as := [.int v84]) (rest := []) rfl rfl rfl rfl h92 (Nat.le_of_ble_eq_true rfl) (ca_78  r90 v84 w87) fun w93 h94 => ?_
    show sm _ _ _ _ 44 [(0, .ref a0), (1, .int v84)] [] _ _
    refine sm_seg 4 48 [(0, .ref a0), (1, .int v84), (2, .int (1 : Int32)), (3, .int (0 : Int32))] [] rfl ?_
    exact jt_80_48  cm_N a0 v84 (1 : Int32) (0 : Int32) w93
  · refine sm_seg 2 33 [(0, .ref a0), (1, .int v84)] [.int (1 : Int32), .ref a0] rfl ?_
    refine sm_cV (as := [.int (1 : Int32)]) (rest := []) rfl rfl rfl rfl h72 (Nat.le_of_ble_eq_true rfl) (ca_66  a0 (1 : Int32) w) fun w95 h96 => ?_
    show sm _ _ _ _ 36 [(0, .ref a0), (1, .int v84)] [] _ _
    refine sm_seg 1 37 [(0, .ref a0), (1, .int v84)] [.ref a0] rfl ?_
    refine sm_gd fun h97 => ?_
    refine sm_gR rfl h97 rfl rfl fun r98 h99 => ?_
    show sm _ _ _ _ 40 [(0, .ref a0), (1, .int v84)] [.ref r98] _ _
    refine sm_seg 1 41 [(0, .ref a0), (1, .int v84)] [.int v84, .ref r98] rfl ?_
    refine sm_gd fun h100 => ?_
    refine sm_cV (as := [.int v84]) (rest := []) rfl rfl rfl rfl h100 (Nat.le_of_ble_eq_true rfl) (ca_78  r98 v84 w95) fun w101 h102 => ?_
    show sm _ _ _ _ 44 [(0, .ref a0), (1, .int v84)] [] _ _
    refine sm_seg 4 48 [(0, .ref a0), (1, .int v84), (2, .int (1 : Int32)), (3, .int (0 : Int32))] [] rfl ?_
    exact jt_80_48  cm_N a0 v84 (1 : Int32) (0 : Int32) w101
theorem ca_80 (a0 : Nat) (w : cm_W) : cm_ca cm_g 80 [.ref a0] w ((fn_80 a0 w).map cm_gV) := cm_ca_of (cm_me_of rfl rfl) rfl (jt_80_0 a0 w)
-- NailedBoxes$Village.addPair(III)V
def fn_81 (a0 : Nat) (i1 : Int32) (i2 : Int32) (i3 : Int32) (w : cm_W) : Option cm_W := (if cm_sh w a0 = some (.inl 9) then (cm_R w a0 5).bind fun r2 => (if cm_sh w r2 = some (.inl 7) then (fn_71 r2 w).bind fun v5 => (if cm_sh v5.2 a0 = some (.inl 9) then (cm_R v5.2 a0 5).bind fun r8 => (if cm_sh v5.2 r8 = some (.inl 7) then (fn_72 r8 v5.1 (0 : Int32) i1 v5.2).bind fun w11 => (if cm_sh w11 a0 = some (.inl 9) then (cm_R w11 a0 5).bind fun r14 => (if cm_sh w11 r14 = some (.inl 7) then (fn_72 r14 v5.1 (1 : Int32) i2 w11).bind fun w17 => (if cm_sh w17 a0 = some (.inl 9) then (cm_R w17 a0 5).bind fun r20 => (if cm_sh w17 r20 = some (.inl 7) then (fn_72 r20 v5.1 (2 : Int32) i3 w17).bind fun w23 => some w23 else none) else none) else none) else none) else none) else none) else none) else none)
theorem jt_81_0 (a0 : Nat) (i1 : Int32) (i2 : Int32) (i3 : Int32) (w : cm_W) : sm cm_g 81 ck_81 kq_81 0 [(0, .ref a0), (1, .int i1), (2, .int i2), (3, .int i3)] [] w ((fn_81 a0 i1 i2 i3 w).map cm_gV) := by
  unfold fn_81
  refine sm_seg 1 1 [(0, .ref a0), (1, .int i1), (2, .int i2), (3, .int i3)] [.ref a0] rfl ?_
  refine sm_gd fun h1 => ?_
  refine sm_gR rfl h1 rfl rfl fun r2 h3 => ?_
  show sm _ _ _ _ 4 [(0, .ref a0), (1, .int i1), (2, .int i2), (3, .int i3)] [.ref r2] _ _
  refine sm_gd fun h4 => ?_
  refine sm_cV (as := []) (rest := []) rfl rfl rfl rfl h4 (Nat.le_of_ble_eq_true rfl) (ca_71  r2 w) fun v5 h6 => ?_
  show sm _ _ _ _ 7 [(0, .ref a0), (1, .int i1), (2, .int i2), (3, .int i3)] [.int v5.1] _ _
  refine sm_seg 2 10 [(4, .int v5.1), (0, .ref a0), (1, .int i1), (2, .int i2), (3, .int i3)] [.ref a0] rfl ?_
  refine sm_gd fun h7 => ?_
  refine sm_gR rfl h7 rfl rfl fun r8 h9 => ?_
  show sm _ _ _ _ 13 [(4, .int v5.1), (0, .ref a0), (1, .int i1), (2, .int i2), (3, .int i3)] [.ref r8] _ _
  refine sm_seg 3 17 [(4, .int v5.1), (0, .ref a0), (1, .int i1), (2, .int i2), (3, .int i3)] [.int i1, .int (0 : Int32), .int v5.1, .ref r8] rfl ?_
  refine sm_gd fun h10 => ?_
  refine sm_cV (as := [.int v5.1, .int (0 : Int32), .int i1]) (rest := []) rfl rfl rfl rfl h10 (Nat.le_of_ble_eq_true rfl) (ca_72  r8 v5.1 (0 : Int32) i1 v5.2) fun w11 h12 => ?_
  show sm _ _ _ _ 20 [(4, .int v5.1), (0, .ref a0), (1, .int i1), (2, .int i2), (3, .int i3)] [] _ _
  refine sm_seg 1 21 [(4, .int v5.1), (0, .ref a0), (1, .int i1), (2, .int i2), (3, .int i3)] [.ref a0] rfl ?_
  refine sm_gd fun h13 => ?_
  refine sm_gR rfl h13 rfl rfl fun r14 h15 => ?_
  show sm _ _ _ _ 24 [(4, .int v5.1), (0, .ref a0), (1, .int i1), (2, .int i2), (3, .int i3)] [.ref r14] _ _
  refine sm_seg 3 28 [(4, .int v5.1), (0, .ref a0), (1, .int i1), (2, .int i2), (3, .int i3)] [.int i2, .int (1 : Int32), .int v5.1, .ref r14] rfl ?_
  refine sm_gd fun h16 => ?_
  refine sm_cV (as := [.int v5.1, .int (1 : Int32), .int i2]) (rest := []) rfl rfl rfl rfl h16 (Nat.le_of_ble_eq_true rfl) (ca_72  r14 v5.1 (1 : Int32) i2 w11) fun w17 h18 => ?_
  show sm _ _ _ _ 31 [(4, .int v5.1), (0, .ref a0), (1, .int i1), (2, .int i2), (3, .int i3)] [] _ _
  refine sm_seg 1 32 [(4, .int v5.1), (0, .ref a0), (1, .int i1), (2, .int i2), (3, .int i3)] [.ref a0] rfl ?_
  refine sm_gd fun h19 => ?_
  refine sm_gR rfl h19 rfl rfl fun r20 h21 => ?_
  show sm _ _ _ _ 35 [(4, .int v5.1), (0, .ref a0), (1, .int i1), (2, .int i2), (3, .int i3)] [.ref r20] _ _
  refine sm_seg 3 39 [(4, .int v5.1), (0, .ref a0), (1, .int i1), (2, .int i2), (3, .int i3)] [.int i3, .int (2 : Int32), .int v5.1, .ref r20] rfl ?_
  refine sm_gd fun h22 => ?_
  refine sm_cV (as := [.int v5.1, .int (2 : Int32), .int i3]) (rest := []) rfl rfl rfl rfl h22 (Nat.le_of_ble_eq_true rfl) (ca_72  r20 v5.1 (2 : Int32) i3 w17) fun w23 h24 => ?_
  show sm _ _ _ _ 42 [(4, .int v5.1), (0, .ref a0), (1, .int i1), (2, .int i2), (3, .int i3)] [] _ _
  exact sm_rV rfl rfl
theorem ca_81 (a0 : Nat) (i1 : Int32) (i2 : Int32) (i3 : Int32) (w : cm_W) : cm_ca cm_g 81 [.ref a0, .int i1, .int i2, .int i3] w ((fn_81 a0 i1 i2 i3 w).map cm_gV) := cm_ca_of (cm_me_of rfl rfl) rfl (jt_81_0 a0 i1 i2 i3 w)
-- NailedBoxes$Reader.readPair()V
def fn_82 (a0 : Nat) (w : cm_W) : Option cm_W := (if cm_sh w a0 = some (.inl 4) then (cm_R w a0 8).bind fun r2 => (if cm_sh w r2 = some (.inl 9) then (cm_R w r2 0).bind fun r5 => (cm_R w a0 8).bind fun r7 => (if cm_sh w r7 = some (.inl 9) then (cm_R w r7 1).bind fun r10 => (if cm_sh w r10 = some (.inl 7) then (fn_68 w a0 r5 (cm_I w r10 2)).bind fun v13 => (if v13 = (-1 : Int32) then (fn_66 a0 (0 : Int32) w).bind fun w16 => (if cm_sh w16 a0 = some (.inl 4) then (cm_R w16 a0 8).bind fun r19 => (if cm_sh w16 r19 = some (.inl 9) then (cm_R w16 r19 0).bind fun r22 => (cm_R w16 a0 8).bind fun r24 => (if cm_sh w16 r24 = some (.inl 9) then (cm_R w16 r24 1).bind fun r27 => (if cm_sh w16 r27 = some (.inl 7) then (fn_68 w16 a0 r22 (cm_I w16 r27 2)).bind fun v30 => (if v30 = (-1 : Int32) then (fn_66 a0 (0 : Int32) w16).bind fun w33 => (if cm_sh w33 a0 = some (.inl 4) then (fn_70 a0 (1 : Int32) (999 : Int32) w33).bind fun v36 => (if cm_sh v36.2 a0 = some (.inl 4) then (if ¬ (cm_I v36.2 a0 7) = (-1 : Int32) then some v36.2 else (cm_R v36.2 a0 8).bind fun r40 => (if cm_sh v36.2 r40 = some (.inl 9) then (fn_81 r40 v13 v30 v36.1 v36.2).bind fun w43 => some w43 else none)) else none) else none) else (if v30 = v13 then (fn_66 a0 (0 : Int32) w16).bind fun w46 => (if cm_sh w46 a0 = some (.inl 4) then (fn_70 a0 (1 : Int32) (999 : Int32) w46).bind fun v49 => (if cm_sh v49.2 a0 = some (.inl 4) then (if ¬ (cm_I v49.2 a0 7) = (-1 : Int32) then some v49.2 else (cm_R v49.2 a0 8).bind fun r53 => (if cm_sh v49.2 r53 = some (.inl 9) then (fn_81 r53 v13 v30 v49.1 v49.2).bind fun w56 => some w56 else none)) else none) else none) else (fn_66 a0 (1 : Int32) w16).bind fun w58 => (if cm_sh w58 a0 = some (.inl 4) then (fn_70 a0 (1 : Int32) (999 : Int32) w58).bind fun v61 => (if cm_sh v61.2 a0 = some (.inl 4) then (if ¬ (cm_I v61.2 a0 7) = (-1 : Int32) then some v61.2 else (cm_R v61.2 a0 8).bind fun r65 => (if cm_sh v61.2 r65 = some (.inl 9) then (fn_81 r65 v13 v30 v61.1 v61.2).bind fun w68 => some w68 else none)) else none) else none))) else none) else none) else none) else none) else (fn_66 a0 (1 : Int32) w).bind fun w70 => (if cm_sh w70 a0 = some (.inl 4) then (cm_R w70 a0 8).bind fun r73 => (if cm_sh w70 r73 = some (.inl 9) then (cm_R w70 r73 0).bind fun r76 => (cm_R w70 a0 8).bind fun r78 => (if cm_sh w70 r78 = some (.inl 9) then (cm_R w70 r78 1).bind fun r81 => (if cm_sh w70 r81 = some (.inl 7) then (fn_68 w70 a0 r76 (cm_I w70 r81 2)).bind fun v84 => (if v84 = (-1 : Int32) then (fn_66 a0 (0 : Int32) w70).bind fun w87 => (if cm_sh w87 a0 = some (.inl 4) then (fn_70 a0 (1 : Int32) (999 : Int32) w87).bind fun v90 => (if cm_sh v90.2 a0 = some (.inl 4) then (if ¬ (cm_I v90.2 a0 7) = (-1 : Int32) then some v90.2 else (cm_R v90.2 a0 8).bind fun r94 => (if cm_sh v90.2 r94 = some (.inl 9) then (fn_81 r94 v13 v84 v90.1 v90.2).bind fun w97 => some w97 else none)) else none) else none) else (if v84 = v13 then (fn_66 a0 (0 : Int32) w70).bind fun w100 => (if cm_sh w100 a0 = some (.inl 4) then (fn_70 a0 (1 : Int32) (999 : Int32) w100).bind fun v103 => (if cm_sh v103.2 a0 = some (.inl 4) then (if ¬ (cm_I v103.2 a0 7) = (-1 : Int32) then some v103.2 else (cm_R v103.2 a0 8).bind fun r107 => (if cm_sh v103.2 r107 = some (.inl 9) then (fn_81 r107 v13 v84 v103.1 v103.2).bind fun w110 => some w110 else none)) else none) else none) else (fn_66 a0 (1 : Int32) w70).bind fun w112 => (if cm_sh w112 a0 = some (.inl 4) then (fn_70 a0 (1 : Int32) (999 : Int32) w112).bind fun v115 => (if cm_sh v115.2 a0 = some (.inl 4) then (if ¬ (cm_I v115.2 a0 7) = (-1 : Int32) then some v115.2 else (cm_R v115.2 a0 8).bind fun r119 => (if cm_sh v115.2 r119 = some (.inl 9) then (fn_81 r119 v13 v84 v115.1 v115.2).bind fun w122 => some w122 else none)) else none) else none))) else none) else none) else none) else none)) else none) else none) else none) else none)
theorem jt_82_0 (a0 : Nat) (w : cm_W) : sm cm_g 82 ck_82 kq_82 0 [(0, .ref a0)] [] w ((fn_82 a0 w).map cm_gV) := by
  unfold fn_82
  refine sm_seg 2 2 [(0, .ref a0)] [.ref a0, .ref a0] rfl ?_
  refine sm_gd fun h1 => ?_
  refine sm_gR rfl h1 rfl rfl fun r2 h3 => ?_
  show sm _ _ _ _ 5 [(0, .ref a0)] [.ref r2, .ref a0] _ _
  refine sm_gd fun h4 => ?_
  refine sm_gR rfl h4 rfl rfl fun r5 h6 => ?_
  show sm _ _ _ _ 8 [(0, .ref a0)] [.ref r5, .ref a0] _ _
  refine sm_seg 1 9 [(0, .ref a0)] [.ref a0, .ref r5, .ref a0] rfl ?_
  refine sm_gR rfl h1 rfl rfl fun r7 h8 => ?_
  show sm _ _ _ _ 12 [(0, .ref a0)] [.ref r7, .ref r5, .ref a0] _ _
  refine sm_gd fun h9 => ?_
  refine sm_gR rfl h9 rfl rfl fun r10 h11 => ?_
  show sm _ _ _ _ 15 [(0, .ref a0)] [.ref r10, .ref r5, .ref a0] _ _
  refine sm_gd fun h12 => ?_
  refine sm_gI rfl h12 rfl ?_
  show sm _ _ _ _ 18 [(0, .ref a0)] [.int (cm_I w r10 2), .ref r5, .ref a0] _ _
  refine sm_cV (as := [.ref r5, .int (cm_I w r10 2)]) (rest := []) rfl rfl rfl rfl h1 (Nat.le_of_ble_eq_true rfl) (ca_68 w a0 r5 (cm_I w r10 2)) fun v13 h14 => ?_
  show sm _ _ _ _ 21 [(0, .ref a0)] [.int v13] _ _
  refine sm_seg 4 25 [(1, .int v13), (0, .ref a0)] [.int (-1 : Int32), .int v13, .ref a0] rfl ?_
  refine sm_if (pc1 := 32) (lv1 := [(0, .ref a0), (1, .int v13)]) (pc2 := 28) (lv2 := [(1, .int v13), (0, .ref a0)]) (st1 := [.ref a0]) rfl rfl rfl (fun h15 => ?_) (fun h15 => ?_)
  · refine sm_seg 1 33 [(0, .ref a0), (1, .int v13)] [.int (0 : Int32), .ref a0] rfl ?_
    refine sm_cV (as := [.int (0 : Int32)]) (rest := []) rfl rfl rfl rfl h1 (Nat.le_of_ble_eq_true rfl) (ca_66  a0 (0 : Int32) w) fun w16 h17 => ?_
    show sm _ _ _ _ 36 [(0, .ref a0), (1, .int v13)] [] _ _
    refine sm_seg 2 38 [(0, .ref a0), (1, .int v13)] [.ref a0, .ref a0] rfl ?_
    refine sm_gd fun h18 => ?_
    refine sm_gR rfl h18 rfl rfl fun r19 h20 => ?_
    show sm _ _ _ _ 41 [(0, .ref a0), (1, .int v13)] [.ref r19, .ref a0] _ _
    refine sm_gd fun h21 => ?_
    refine sm_gR rfl h21 rfl rfl fun r22 h23 => ?_
    show sm _ _ _ _ 44 [(0, .ref a0), (1, .int v13)] [.ref r22, .ref a0] _ _
    refine sm_seg 1 45 [(0, .ref a0), (1, .int v13)] [.ref a0, .ref r22, .ref a0] rfl ?_
    refine sm_gR rfl h18 rfl rfl fun r24 h25 => ?_
    show sm _ _ _ _ 48 [(0, .ref a0), (1, .int v13)] [.ref r24, .ref r22, .ref a0] _ _
    refine sm_gd fun h26 => ?_
    refine sm_gR rfl h26 rfl rfl fun r27 h28 => ?_
    show sm _ _ _ _ 51 [(0, .ref a0), (1, .int v13)] [.ref r27, .ref r22, .ref a0] _ _
    refine sm_gd fun h29 => ?_
    refine sm_gI rfl h29 rfl ?_
    show sm _ _ _ _ 54 [(0, .ref a0), (1, .int v13)] [.int (cm_I w16 r27 2), .ref r22, .ref a0] _ _
    refine sm_cV (as := [.ref r22, .int (cm_I w16 r27 2)]) (rest := []) rfl rfl rfl rfl h18 (Nat.le_of_ble_eq_true rfl) (ca_68 w16 a0 r22 (cm_I w16 r27 2)) fun v30 h31 => ?_
    show sm _ _ _ _ 57 [(0, .ref a0), (1, .int v13)] [.int v30] _ _
    refine sm_seg 4 61 [(2, .int v30), (0, .ref a0), (1, .int v13)] [.int (-1 : Int32), .int v30, .ref a0] rfl ?_
    refine sm_if (pc1 := 73) (lv1 := [(0, .ref a0), (1, .int v13), (2, .int v30)]) (pc2 := 64) (lv2 := [(2, .int v30), (0, .ref a0), (1, .int v13)]) (st1 := [.ref a0]) rfl rfl rfl (fun h32 => ?_) (fun h32 => ?_)
    · refine sm_seg 1 74 [(0, .ref a0), (1, .int v13), (2, .int v30)] [.int (0 : Int32), .ref a0] rfl ?_
      refine sm_cV (as := [.int (0 : Int32)]) (rest := []) rfl rfl rfl rfl h18 (Nat.le_of_ble_eq_true rfl) (ca_66  a0 (0 : Int32) w16) fun w33 h34 => ?_
      show sm _ _ _ _ 77 [(0, .ref a0), (1, .int v13), (2, .int v30)] [] _ _
      refine sm_seg 3 82 [(0, .ref a0), (1, .int v13), (2, .int v30)] [.int (999 : Int32), .int (1 : Int32), .ref a0] rfl ?_
      refine sm_gd fun h35 => ?_
      refine sm_cV (as := [.int (1 : Int32), .int (999 : Int32)]) (rest := []) rfl rfl rfl rfl h35 (Nat.le_of_ble_eq_true rfl) (ca_70  a0 (1 : Int32) (999 : Int32) w33) fun v36 h37 => ?_
      show sm _ _ _ _ 85 [(0, .ref a0), (1, .int v13), (2, .int v30)] [.int v36.1] _ _
      refine sm_seg 2 87 [(3, .int v36.1), (0, .ref a0), (1, .int v13), (2, .int v30)] [.ref a0] rfl ?_
      refine sm_gd fun h38 => ?_
      refine sm_gI rfl h38 rfl ?_
      show sm _ _ _ _ 90 [(3, .int v36.1), (0, .ref a0), (1, .int v13), (2, .int v30)] [.int (cm_I v36.2 a0 7)] _ _
      refine sm_seg 1 91 [(3, .int v36.1), (0, .ref a0), (1, .int v13), (2, .int v30)] [.int (-1 : Int32), .int (cm_I v36.2 a0 7)] rfl ?_
      refine sm_if (pc1 := 104) (lv1 := []) (pc2 := 94) (lv2 := [(3, .int v36.1), (0, .ref a0), (1, .int v13), (2, .int v30)]) (st1 := []) rfl rfl rfl (fun h39 => ?_) (fun h39 => ?_)
      · exact sm_rV rfl rfl
      · refine sm_seg 1 95 [(3, .int v36.1), (0, .ref a0), (1, .int v13), (2, .int v30)] [.ref a0] rfl ?_
        refine sm_gR rfl h38 rfl rfl fun r40 h41 => ?_
        show sm _ _ _ _ 98 [(3, .int v36.1), (0, .ref a0), (1, .int v13), (2, .int v30)] [.ref r40] _ _
        refine sm_seg 3 101 [(3, .int v36.1), (0, .ref a0), (1, .int v13), (2, .int v30)] [.int v36.1, .int v30, .int v13, .ref r40] rfl ?_
        refine sm_gd fun h42 => ?_
        refine sm_cV (as := [.int v13, .int v30, .int v36.1]) (rest := []) rfl rfl rfl rfl h42 (Nat.le_of_ble_eq_true rfl) (ca_81  r40 v13 v30 v36.1 v36.2) fun w43 h44 => ?_
        show sm _ _ _ _ 104 [] [] _ _
        exact sm_rV rfl rfl
    · refine sm_seg 2 66 [(2, .int v30), (0, .ref a0), (1, .int v13)] [.int v13, .int v30, .ref a0] rfl ?_
      refine sm_if (pc1 := 73) (lv1 := [(0, .ref a0), (1, .int v13), (2, .int v30)]) (pc2 := 69) (lv2 := [(2, .int v30), (0, .ref a0), (1, .int v13)]) (st1 := [.ref a0]) rfl rfl rfl (fun h45 => ?_) (fun h45 => ?_)
      · refine sm_seg 1 74 [(0, .ref a0), (1, .int v13), (2, .int v30)] [.int (0 : Int32), .ref a0] rfl ?_
        refine sm_cV (as := [.int (0 : Int32)]) (rest := []) rfl rfl rfl rfl h18 (Nat.le_of_ble_eq_true rfl) (ca_66  a0 (0 : Int32) w16) fun w46 h47 => ?_
        show sm _ _ _ _ 77 [(0, .ref a0), (1, .int v13), (2, .int v30)] [] _ _
        refine sm_seg 3 82 [(0, .ref a0), (1, .int v13), (2, .int v30)] [.int (999 : Int32), .int (1 : Int32), .ref a0] rfl ?_
        refine sm_gd fun h48 => ?_
        refine sm_cV (as := [.int (1 : Int32), .int (999 : Int32)]) (rest := []) rfl rfl rfl rfl h48 (Nat.le_of_ble_eq_true rfl) (ca_70  a0 (1 : Int32) (999 : Int32) w46) fun v49 h50 => ?_
        show sm _ _ _ _ 85 [(0, .ref a0), (1, .int v13), (2, .int v30)] [.int v49.1] _ _
        refine sm_seg 2 87 [(3, .int v49.1), (0, .ref a0), (1, .int v13), (2, .int v30)] [.ref a0] rfl ?_
        refine sm_gd fun h51 => ?_
        refine sm_gI rfl h51 rfl ?_
        show sm _ _ _ _ 90 [(3, .int v49.1), (0, .ref a0), (1, .int v13), (2, .int v30)] [.int (cm_I v49.2 a0 7)] _ _
        refine sm_seg 1 91 [(3, .int v49.1), (0, .ref a0), (1, .int v13), (2, .int v30)] [.int (-1 : Int32), .int (cm_I v49.2 a0 7)] rfl ?_
        refine sm_if (pc1 := 104) (lv1 := []) (pc2 := 94) (lv2 := [(3, .int v49.1), (0, .ref a0), (1, .int v13), (2, .int v30)]) (st1 := []) rfl rfl rfl (fun h52 => ?_) (fun h52 => ?_)
        · exact sm_rV rfl rfl
        · refine sm_seg 1 95 [(3, .int v49.1), (0, .ref a0), (1, .int v13), (2, .int v30)] [.ref a0] rfl ?_
          refine sm_gR rfl h51 rfl rfl fun r53 h54 => ?_
          show sm _ _ _ _ 98 [(3, .int v49.1), (0, .ref a0), (1, .int v13), (2, .int v30)] [.ref r53] _ _
          refine sm_seg 3 101 [(3, .int v49.1), (0, .ref a0), (1, .int v13), (2, .int v30)] [.int v49.1, .int v30, .int v13, .ref r53] rfl ?_
          refine sm_gd fun h55 => ?_
          refine sm_cV (as := [.int v13, .int v30, .int v49.1]) (rest := []) rfl rfl rfl rfl h55 (Nat.le_of_ble_eq_true rfl) (ca_81  r53 v13 v30 v49.1 v49.2) fun w56 h57 => ?_
          show sm _ _ _ _ 104 [] [] _ _
          exact sm_rV rfl rfl
      · refine sm_seg 2 74 [(0, .ref a0), (1, .int v13), (2, .int v30)] [.int (1 : Int32), .ref a0] rfl ?_
        refine sm_cV (as := [.int (1 : Int32)]) (rest := []) rfl rfl rfl rfl h18 (Nat.le_of_ble_eq_true rfl) (ca_66  a0 (1 : Int32) w16) fun w58 h59 => ?_
        show sm _ _ _ _ 77 [(0, .ref a0), (1, .int v13), (2, .int v30)] [] _ _
        refine sm_seg 3 82 [(0, .ref a0), (1, .int v13), (2, .int v30)] [.int (999 : Int32), .int (1 : Int32), .ref a0] rfl ?_
        refine sm_gd fun h60 => ?_
        refine sm_cV (as := [.int (1 : Int32), .int (999 : Int32)]) (rest := []) rfl rfl rfl rfl h60 (Nat.le_of_ble_eq_true rfl) (ca_70  a0 (1 : Int32) (999 : Int32) w58) fun v61 h62 => ?_
        show sm _ _ _ _ 85 [(0, .ref a0), (1, .int v13), (2, .int v30)] [.int v61.1] _ _
        refine sm_seg 2 87 [(3, .int v61.1), (0, .ref a0), (1, .int v13), (2, .int v30)] [.ref a0] rfl ?_
        refine sm_gd fun h63 => ?_
        refine sm_gI rfl h63 rfl ?_
        show sm _ _ _ _ 90 [(3, .int v61.1), (0, .ref a0), (1, .int v13), (2, .int v30)] [.int (cm_I v61.2 a0 7)] _ _
        refine sm_seg 1 91 [(3, .int v61.1), (0, .ref a0), (1, .int v13), (2, .int v30)] [.int (-1 : Int32), .int (cm_I v61.2 a0 7)] rfl ?_
        refine sm_if (pc1 := 104) (lv1 := []) (pc2 := 94) (lv2 := [(3, .int v61.1), (0, .ref a0), (1, .int v13), (2, .int v30)]) (st1 := []) rfl rfl rfl (fun h64 => ?_) (fun h64 => ?_)
        · exact sm_rV rfl rfl
        · refine sm_seg 1 95 [(3, .int v61.1), (0, .ref a0), (1, .int v13), (2, .int v30)] [.ref a0] rfl ?_
          refine sm_gR rfl h63 rfl rfl fun r65 h66 => ?_
          show sm _ _ _ _ 98 [(3, .int v61.1), (0, .ref a0), (1, .int v13), (2, .int v30)] [.ref r65] _ _
          refine sm_seg 3 101 [(3, .int v61.1), (0, .ref a0), (1, .int v13), (2, .int v30)] [.int v61.1, .int v30, .int v13, .ref r65] rfl ?_
          refine sm_gd fun h67 => ?_
          refine sm_cV (as := [.int v13, .int v30, .int v61.1]) (rest := []) rfl rfl rfl rfl h67 (Nat.le_of_ble_eq_true rfl) (ca_81  r65 v13 v30 v61.1 v61.2) fun w68 h69 => ?_
          show sm _ _ _ _ 104 [] [] _ _
          exact sm_rV rfl rfl
  · refine sm_seg 2 33 [(0, .ref a0), (1, .int v13)] [.int (1 : Int32), .ref a0] rfl ?_
    refine sm_cV (as := [.int (1 : Int32)]) (rest := []) rfl rfl rfl rfl h1 (Nat.le_of_ble_eq_true rfl) (ca_66  a0 (1 : Int32) w) fun w70 h71 => ?_
    show sm _ _ _ _ 36 [(0, .ref a0), (1, .int v13)] [] _ _
    refine sm_seg 2 38 [(0, .ref a0), (1, .int v13)] [.ref a0, .ref a0] rfl ?_
    refine sm_gd fun h72 => ?_
    refine sm_gR rfl h72 rfl rfl fun r73 h74 => ?_
    show sm _ _ _ _ 41 [(0, .ref a0), (1, .int v13)] [.ref r73, .ref a0] _ _
    refine sm_gd fun h75 => ?_
    refine sm_gR rfl h75 rfl rfl fun r76 h77 => ?_
    show sm _ _ _ _ 44 [(0, .ref a0), (1, .int v13)] [.ref r76, .ref a0] _ _
    refine sm_seg 1 45 [(0, .ref a0), (1, .int v13)] [.ref a0, .ref r76, .ref a0] rfl ?_
    refine sm_gR rfl h72 rfl rfl fun r78 h79 => ?_
    show sm _ _ _ _ 48 [(0, .ref a0), (1, .int v13)] [.ref r78, .ref r76, .ref a0] _ _
    refine sm_gd fun h80 => ?_
    refine sm_gR rfl h80 rfl rfl fun r81 h82 => ?_
    show sm _ _ _ _ 51 [(0, .ref a0), (1, .int v13)] [.ref r81, .ref r76, .ref a0] _ _
    refine sm_gd fun h83 => ?_
    refine sm_gI rfl h83 rfl ?_
    show sm _ _ _ _ 54 [(0, .ref a0), (1, .int v13)] [.int (cm_I w70 r81 2), .ref r76, .ref a0] _ _
    refine sm_cV (as := [.ref r76, .int (cm_I w70 r81 2)]) (rest := []) rfl rfl rfl rfl h72 (Nat.le_of_ble_eq_true rfl) (ca_68 w70 a0 r76 (cm_I w70 r81 2)) fun v84 h85 => ?_
    show sm _ _ _ _ 57 [(0, .ref a0), (1, .int v13)] [.int v84] _ _
    refine sm_seg 4 61 [(2, .int v84), (0, .ref a0), (1, .int v13)] [.int (-1 : Int32), .int v84, .ref a0] rfl ?_
    refine sm_if (pc1 := 73) (lv1 := [(0, .ref a0), (1, .int v13), (2, .int v84)]) (pc2 := 64) (lv2 := [(2, .int v84), (0, .ref a0), (1, .int v13)]) (st1 := [.ref a0]) rfl rfl rfl (fun h86 => ?_) (fun h86 => ?_)
    · refine sm_seg 1 74 [(0, .ref a0), (1, .int v13), (2, .int v84)] [.int (0 : Int32), .ref a0] rfl ?_
      refine sm_cV (as := [.int (0 : Int32)]) (rest := []) rfl rfl rfl rfl h72 (Nat.le_of_ble_eq_true rfl) (ca_66  a0 (0 : Int32) w70) fun w87 h88 => ?_
      show sm _ _ _ _ 77 [(0, .ref a0), (1, .int v13), (2, .int v84)] [] _ _
      refine sm_seg 3 82 [(0, .ref a0), (1, .int v13), (2, .int v84)] [.int (999 : Int32), .int (1 : Int32), .ref a0] rfl ?_
      refine sm_gd fun h89 => ?_
      refine sm_cV (as := [.int (1 : Int32), .int (999 : Int32)]) (rest := []) rfl rfl rfl rfl h89 (Nat.le_of_ble_eq_true rfl) (ca_70  a0 (1 : Int32) (999 : Int32) w87) fun v90 h91 => ?_
      show sm _ _ _ _ 85 [(0, .ref a0), (1, .int v13), (2, .int v84)] [.int v90.1] _ _
      refine sm_seg 2 87 [(3, .int v90.1), (0, .ref a0), (1, .int v13), (2, .int v84)] [.ref a0] rfl ?_
      refine sm_gd fun h92 => ?_
      refine sm_gI rfl h92 rfl ?_
      show sm _ _ _ _ 90 [(3, .int v90.1), (0, .ref a0), (1, .int v13), (2, .int v84)] [.int (cm_I v90.2 a0 7)] _ _
      refine sm_seg 1 91 [(3, .int v90.1), (0, .ref a0), (1, .int v13), (2, .int v84)] [.int (-1 : Int32), .int (cm_I v90.2 a0 7)] rfl ?_
      refine sm_if (pc1 := 104) (lv1 := []) (pc2 := 94) (lv2 := [(3, .int v90.1), (0, .ref a0), (1, .int v13), (2, .int v84)]) (st1 := []) rfl rfl rfl (fun h93 => ?_) (fun h93 => ?_)
      · exact sm_rV rfl rfl
      · refine sm_seg 1 95 [(3, .int v90.1), (0, .ref a0), (1, .int v13), (2, .int v84)] [.ref a0] rfl ?_
        refine sm_gR rfl h92 rfl rfl fun r94 h95 => ?_
        show sm _ _ _ _ 98 [(3, .int v90.1), (0, .ref a0), (1, .int v13), (2, .int v84)] [.ref r94] _ _
        refine sm_seg 3 101 [(3, .int v90.1), (0, .ref a0), (1, .int v13), (2, .int v84)] [.int v90.1, .int v84, .int v13, .ref r94] rfl ?_
        refine sm_gd fun h96 => ?_
        refine sm_cV (as := [.int v13, .int v84, .int v90.1]) (rest := []) rfl rfl rfl rfl h96 (Nat.le_of_ble_eq_true rfl) (ca_81  r94 v13 v84 v90.1 v90.2) fun w97 h98 => ?_
        show sm _ _ _ _ 104 [] [] _ _
        exact sm_rV rfl rfl
    · refine sm_seg 2 66 [(2, .int v84), (0, .ref a0), (1, .int v13)] [.int v13, .int v84, .ref a0] rfl ?_
      refine sm_if (pc1 := 73) (lv1 := [(0, .ref a0), (1, .int v13), (2, .int v84)]) (pc2 := 69) (lv2 := [(2, .int v84), (0, .ref a0), (1, .int v13)]) (st1 := [.ref a0]) rfl rfl rfl (fun h99 => ?_) (fun h99 => ?_)
      · refine sm_seg 1 74 [(0, .ref a0), (1, .int v13), (2, .int v84)] [.int (0 : Int32), .ref a0] rfl ?_
        refine sm_cV (as := [.int (0 : Int32)]) (rest := []) rfl rfl rfl rfl h72 (Nat.le_of_ble_eq_true rfl) (ca_66  a0 (0 : Int32) w70) fun w100 h101 => ?_
        show sm _ _ _ _ 77 [(0, .ref a0), (1, .int v13), (2, .int v84)] [] _ _
        refine sm_seg 3 82 [(0, .ref a0), (1, .int v13), (2, .int v84)] [.int (999 : Int32), .int (1 : Int32), .ref a0] rfl ?_
        refine sm_gd fun h102 => ?_
        refine sm_cV (as := [.int (1 : Int32), .int (999 : Int32)]) (rest := []) rfl rfl rfl rfl h102 (Nat.le_of_ble_eq_true rfl) (ca_70  a0 (1 : Int32) (999 : Int32) w100) fun v103 h104 => ?_
        show sm _ _ _ _ 85 [(0, .ref a0), (1, .int v13), (2, .int v84)] [.int v103.1] _ _
        refine sm_seg 2 87 [(3, .int v103.1), (0, .ref a0), (1, .int v13), (2, .int v84)] [.ref a0] rfl ?_
        refine sm_gd fun h105 => ?_
        refine sm_gI rfl h105 rfl ?_
        show sm _ _ _ _ 90 [(3, .int v103.1), (0, .ref a0), (1, .int v13), (2, .int v84)] [.int (cm_I v103.2 a0 7)] _ _
        refine sm_seg 1 91 [(3, .int v103.1), (0, .ref a0), (1, .int v13), (2, .int v84)] [.int (-1 : Int32), .int (cm_I v103.2 a0 7)] rfl ?_
        refine sm_if (pc1 := 104) (lv1 := []) (pc2 := 94) (lv2 := [(3, .int v103.1), (0, .ref a0), (1, .int v13), (2, .int v84)]) (st1 := []) rfl rfl rfl (fun h106 => ?_) (fun h106 => ?_)
        · exact sm_rV rfl rfl
        · refine sm_seg 1 95 [(3, .int v103.1), (0, .ref a0), (1, .int v13), (2, .int v84)] [.ref a0] rfl ?_
          refine sm_gR rfl h105 rfl rfl fun r107 h108 => ?_
          show sm _ _ _ _ 98 [(3, .int v103.1), (0, .ref a0), (1, .int v13), (2, .int v84)] [.ref r107] _ _
          refine sm_seg 3 101 [(3, .int v103.1), (0, .ref a0), (1, .int v13), (2, .int v84)] [.int v103.1, .int v84, .int v13, .ref r107] rfl ?_
          refine sm_gd fun h109 => ?_
          refine sm_cV (as := [.int v13, .int v84, .int v103.1]) (rest := []) rfl rfl rfl rfl h109 (Nat.le_of_ble_eq_true rfl) (ca_81  r107 v13 v84 v103.1 v103.2) fun w110 h111 => ?_
          show sm _ _ _ _ 104 [] [] _ _
          exact sm_rV rfl rfl
      · refine sm_seg 2 74 [(0, .ref a0), (1, .int v13), (2, .int v84)] [.int (1 : Int32), .ref a0] rfl ?_
        refine sm_cV (as := [.int (1 : Int32)]) (rest := []) rfl rfl rfl rfl h72 (Nat.le_of_ble_eq_true rfl) (ca_66  a0 (1 : Int32) w70) fun w112 h113 => ?_
        show sm _ _ _ _ 77 [(0, .ref a0), (1, .int v13), (2, .int v84)] [] _ _
        refine sm_seg 3 82 [(0, .ref a0), (1, .int v13), (2, .int v84)] [.int (999 : Int32), .int (1 : Int32), .ref a0] rfl ?_
        refine sm_gd fun h114 => ?_
        refine sm_cV (as := [.int (1 : Int32), .int (999 : Int32)]) (rest := []) rfl rfl rfl rfl h114 (Nat.le_of_ble_eq_true rfl) (ca_70  a0 (1 : Int32) (999 : Int32) w112) fun v115 h116 => ?_
        show sm _ _ _ _ 85 [(0, .ref a0), (1, .int v13), (2, .int v84)] [.int v115.1] _ _
        refine sm_seg 2 87 [(3, .int v115.1), (0, .ref a0), (1, .int v13), (2, .int v84)] [.ref a0] rfl ?_
        refine sm_gd fun h117 => ?_
        refine sm_gI rfl h117 rfl ?_
        show sm _ _ _ _ 90 [(3, .int v115.1), (0, .ref a0), (1, .int v13), (2, .int v84)] [.int (cm_I v115.2 a0 7)] _ _
        refine sm_seg 1 91 [(3, .int v115.1), (0, .ref a0), (1, .int v13), (2, .int v84)] [.int (-1 : Int32), .int (cm_I v115.2 a0 7)] rfl ?_
        refine sm_if (pc1 := 104) (lv1 := []) (pc2 := 94) (lv2 := [(3, .int v115.1), (0, .ref a0), (1, .int v13), (2, .int v84)]) (st1 := []) rfl rfl rfl (fun h118 => ?_) (fun h118 => ?_)
        · exact sm_rV rfl rfl
        · refine sm_seg 1 95 [(3, .int v115.1), (0, .ref a0), (1, .int v13), (2, .int v84)] [.ref a0] rfl ?_
          refine sm_gR rfl h117 rfl rfl fun r119 h120 => ?_
          show sm _ _ _ _ 98 [(3, .int v115.1), (0, .ref a0), (1, .int v13), (2, .int v84)] [.ref r119] _ _
          refine sm_seg 3 101 [(3, .int v115.1), (0, .ref a0), (1, .int v13), (2, .int v84)] [.int v115.1, .int v84, .int v13, .ref r119] rfl ?_
          refine sm_gd fun h121 => ?_
          refine sm_cV (as := [.int v13, .int v84, .int v115.1]) (rest := []) rfl rfl rfl rfl h121 (Nat.le_of_ble_eq_true rfl) (ca_81  r119 v13 v84 v115.1 v115.2) fun w122 h123 => ?_
          show sm _ _ _ _ 104 [] [] _ _
          exact sm_rV rfl rfl
theorem ca_82 (a0 : Nat) (w : cm_W) : cm_ca cm_g 82 [.ref a0] w ((fn_82 a0 w).map cm_gV) := cm_ca_of (cm_me_of rfl rfl) rfl (jt_82_0 a0 w)
-- NailedBoxes$Reader.readStatement()V
def fn_83_99 (a0 : Nat) (w : cm_W) : Option cm_W := (if cm_sh w a0 = some (.inl 4) then (fn_76 a0 w).bind fun w2 => some w2 else none)
theorem jt_83_99 (a0 : Nat) (w : cm_W) : sm cm_g 83 ck_83 kq_83 99 [(0, .ref a0)] [] w ((fn_83_99 a0 w).map cm_gV) := by
  unfold fn_83_99
  refine sm_seg 1 100 [(0, .ref a0)] [.ref a0] rfl ?_
  refine sm_gd fun h1 => ?_
  refine sm_cV (as := []) (rest := []) rfl rfl rfl rfl h1 (Nat.le_of_ble_eq_true rfl) (ca_76  a0 w) fun w2 h3 => ?_
  show sm _ _ _ _ 103 [(0, .ref a0)] [] _ _
  refine sm_seg 1 171 [] [] rfl ?_
  exact sm_rV rfl rfl
def fn_83_106 (a0 : Nat) (w : cm_W) : Option cm_W := (if cm_sh w a0 = some (.inl 4) then (fn_80 a0 w).bind fun w5 => some w5 else none)
theorem jt_83_106 (a0 : Nat) (w : cm_W) : sm cm_g 83 ck_83 kq_83 106 [(0, .ref a0)] [] w ((fn_83_106 a0 w).map cm_gV) := by
  unfold fn_83_106
  refine sm_seg 1 107 [(0, .ref a0)] [.ref a0] rfl ?_
  refine sm_gd fun h4 => ?_
  refine sm_cV (as := []) (rest := []) rfl rfl rfl rfl h4 (Nat.le_of_ble_eq_true rfl) (ca_80  a0 w) fun w5 h6 => ?_
  show sm _ _ _ _ 110 [(0, .ref a0)] [] _ _
  refine sm_seg 1 171 [] [] rfl ?_
  exact sm_rV rfl rfl
def fn_83_113 (a0 : Nat) (w : cm_W) : Option cm_W := (if cm_sh w a0 = some (.inl 4) then (fn_82 a0 w).bind fun w8 => some w8 else none)
theorem jt_83_113 (a0 : Nat) (w : cm_W) : sm cm_g 83 ck_83 kq_83 113 [(0, .ref a0)] [] w ((fn_83_113 a0 w).map cm_gV) := by
  unfold fn_83_113
  refine sm_seg 1 114 [(0, .ref a0)] [.ref a0] rfl ?_
  refine sm_gd fun h7 => ?_
  refine sm_cV (as := []) (rest := []) rfl rfl rfl rfl h7 (Nat.le_of_ble_eq_true rfl) (ca_82  a0 w) fun w8 h9 => ?_
  show sm _ _ _ _ 117 [(0, .ref a0)] [] _ _
  refine sm_seg 1 171 [] [] rfl ?_
  exact sm_rV rfl rfl
def fn_83_120 (a0 : Nat) (w : cm_W) : Option cm_W := (if cm_sh w a0 = some (.inl 4) then (cm_R w a0 8).bind fun r11 => (fn_70 a0 (0 : Int32) (10 : Int32) w).bind fun v13 => (if cm_sh v13.2 r11 = some (.inl 9) then (if cm_w2 4 30 r11 = true then some (cm_sI v13.2 r11 6 v13.1) else none) else none) else none)
theorem jt_83_120 (a0 : Nat) (w : cm_W) : sm cm_g 83 ck_83 kq_83 120 [(0, .ref a0)] [] w ((fn_83_120 a0 w).map cm_gV) := by
  unfold fn_83_120
  refine sm_seg 1 121 [(0, .ref a0)] [.ref a0] rfl ?_
  refine sm_gd fun h10 => ?_
  refine sm_gR rfl h10 rfl rfl fun r11 h12 => ?_
  show sm _ _ _ _ 124 [(0, .ref a0)] [.ref r11] _ _
  refine sm_seg 3 128 [(0, .ref a0)] [.int (10 : Int32), .int (0 : Int32), .ref a0, .ref r11] rfl ?_
  refine sm_cV (as := [.int (0 : Int32), .int (10 : Int32)]) (rest := [.ref r11]) rfl rfl rfl rfl h10 (Nat.le_of_ble_eq_true rfl) (ca_70  a0 (0 : Int32) (10 : Int32) w) fun v13 h14 => ?_
  show sm _ _ _ _ 131 [(0, .ref a0)] [.int v13.1, .ref r11] _ _
  refine sm_gd fun h15 => ?_
  refine sm_gd fun h16 => ?_
  refine sm_pI rfl h15 rfl h16 rfl ?_
  show sm _ _ _ _ 134 [(0, .ref a0)] [] _ _
  refine sm_seg 1 171 [] [] rfl ?_
  exact sm_rV rfl rfl
def fn_83_137 (a0 : Nat) (w : cm_W) : Option cm_W := (if cm_sh w a0 = some (.inl 4) then (cm_R w a0 8).bind fun r18 => (fn_70 a0 (0 : Int32) (10 : Int32) w).bind fun v20 => (if cm_sh v20.2 r18 = some (.inl 9) then (if cm_w2 4 30 r18 = true then some (cm_sI v20.2 r18 7 v20.1) else none) else none) else none)
theorem jt_83_137 (a0 : Nat) (w : cm_W) : sm cm_g 83 ck_83 kq_83 137 [(0, .ref a0)] [] w ((fn_83_137 a0 w).map cm_gV) := by
  unfold fn_83_137
  refine sm_seg 1 138 [(0, .ref a0)] [.ref a0] rfl ?_
  refine sm_gd fun h17 => ?_
  refine sm_gR rfl h17 rfl rfl fun r18 h19 => ?_
  show sm _ _ _ _ 141 [(0, .ref a0)] [.ref r18] _ _
  refine sm_seg 3 145 [(0, .ref a0)] [.int (10 : Int32), .int (0 : Int32), .ref a0, .ref r18] rfl ?_
  refine sm_cV (as := [.int (0 : Int32), .int (10 : Int32)]) (rest := [.ref r18]) rfl rfl rfl rfl h17 (Nat.le_of_ble_eq_true rfl) (ca_70  a0 (0 : Int32) (10 : Int32) w) fun v20 h21 => ?_
  show sm _ _ _ _ 148 [(0, .ref a0)] [.int v20.1, .ref r18] _ _
  refine sm_gd fun h22 => ?_
  refine sm_gd fun h23 => ?_
  refine sm_pI rfl h22 rfl h23 rfl ?_
  show sm _ _ _ _ 151 [(0, .ref a0)] [] _ _
  refine sm_seg 1 171 [] [] rfl ?_
  exact sm_rV rfl rfl
def fn_83_154 (a0 : Nat) (w : cm_W) : Option cm_W := (if cm_sh w a0 = some (.inl 4) then (cm_R w a0 8).bind fun r25 => (fn_70 a0 (0 : Int32) (10 : Int32) w).bind fun v27 => (if cm_sh v27.2 r25 = some (.inl 9) then (if cm_w2 4 30 r25 = true then some (cm_sI v27.2 r25 8 v27.1) else none) else none) else none)
theorem jt_83_154 (a0 : Nat) (w : cm_W) : sm cm_g 83 ck_83 kq_83 154 [(0, .ref a0)] [] w ((fn_83_154 a0 w).map cm_gV) := by
  unfold fn_83_154
  refine sm_seg 1 155 [(0, .ref a0)] [.ref a0] rfl ?_
  refine sm_gd fun h24 => ?_
  refine sm_gR rfl h24 rfl rfl fun r25 h26 => ?_
  show sm _ _ _ _ 158 [(0, .ref a0)] [.ref r25] _ _
  refine sm_seg 3 162 [(0, .ref a0)] [.int (10 : Int32), .int (0 : Int32), .ref a0, .ref r25] rfl ?_
  refine sm_cV (as := [.int (0 : Int32), .int (10 : Int32)]) (rest := [.ref r25]) rfl rfl rfl rfl h24 (Nat.le_of_ble_eq_true rfl) (ca_70  a0 (0 : Int32) (10 : Int32) w) fun v27 h28 => ?_
  show sm _ _ _ _ 165 [(0, .ref a0)] [.int v27.1, .ref r25] _ _
  refine sm_gd fun h29 => ?_
  refine sm_gd fun h30 => ?_
  refine sm_pI rfl h29 rfl h30 rfl ?_
  show sm _ _ _ _ 168 [(0, .ref a0)] [] _ _
  refine sm_seg 1 171 [] [] rfl ?_
  exact sm_rV rfl rfl
def fn_83 (a0 : Nat) (w : cm_W) : Option cm_W := (if cm_sh w a0 = some (.inl 4) then (cm_R w a0 4).bind fun r32 => (if cm_ga w .int r32 (cm_I w a0 6) = true then (if (cm_I w r32 (cm_I w a0 6).toNatClampNeg) < 0 then (fn_66 a0 (0 : Int32) w).bind fun w36 => (if (cm_I w r32 (cm_I w a0 6).toNatClampNeg) = (0 : Int32) then (if cm_sh w36 a0 = some (.inl 4) then (fn_74 a0 w36).bind fun w40 => some w40 else none) else (if (cm_I w r32 (cm_I w a0 6).toNatClampNeg) = (1 : Int32) then fn_83_99  a0 w36 else (if (cm_I w r32 (cm_I w a0 6).toNatClampNeg) = (2 : Int32) then fn_83_106  a0 w36 else (if (cm_I w r32 (cm_I w a0 6).toNatClampNeg) = (3 : Int32) then fn_83_113  a0 w36 else (if (cm_I w r32 (cm_I w a0 6).toNatClampNeg) = (4 : Int32) then fn_83_120  a0 w36 else (if (cm_I w r32 (cm_I w a0 6).toNatClampNeg) = (5 : Int32) then fn_83_137  a0 w36 else (if (cm_I w r32 (cm_I w a0 6).toNatClampNeg) = (6 : Int32) then fn_83_154  a0 w36 else some w36))))))) else (if (6 : Int32) < (cm_I w r32 (cm_I w a0 6).toNatClampNeg) then (fn_66 a0 (0 : Int32) w).bind fun w49 => (if (cm_I w r32 (cm_I w a0 6).toNatClampNeg) = (0 : Int32) then (if cm_sh w49 a0 = some (.inl 4) then (fn_74 a0 w49).bind fun w53 => some w53 else none) else (if (cm_I w r32 (cm_I w a0 6).toNatClampNeg) = (1 : Int32) then fn_83_99  a0 w49 else (if (cm_I w r32 (cm_I w a0 6).toNatClampNeg) = (2 : Int32) then fn_83_106  a0 w49 else (if (cm_I w r32 (cm_I w a0 6).toNatClampNeg) = (3 : Int32) then fn_83_113  a0 w49 else (if (cm_I w r32 (cm_I w a0 6).toNatClampNeg) = (4 : Int32) then fn_83_120  a0 w49 else (if (cm_I w r32 (cm_I w a0 6).toNatClampNeg) = (5 : Int32) then fn_83_137  a0 w49 else (if (cm_I w r32 (cm_I w a0 6).toNatClampNeg) = (6 : Int32) then fn_83_154  a0 w49 else some w49))))))) else (if ¬ (cm_I w r32 (cm_I w a0 6).toNatClampNeg) = (3 : Int32) then (fn_66 a0 (1 : Int32) w).bind fun w62 => (if (cm_I w r32 (cm_I w a0 6).toNatClampNeg) = (0 : Int32) then (if cm_sh w62 a0 = some (.inl 4) then (fn_74 a0 w62).bind fun w66 => some w66 else none) else (if (cm_I w r32 (cm_I w a0 6).toNatClampNeg) = (1 : Int32) then fn_83_99  a0 w62 else (if (cm_I w r32 (cm_I w a0 6).toNatClampNeg) = (2 : Int32) then fn_83_106  a0 w62 else (if (cm_I w r32 (cm_I w a0 6).toNatClampNeg) = (3 : Int32) then fn_83_113  a0 w62 else (if (cm_I w r32 (cm_I w a0 6).toNatClampNeg) = (4 : Int32) then fn_83_120  a0 w62 else (if (cm_I w r32 (cm_I w a0 6).toNatClampNeg) = (5 : Int32) then fn_83_137  a0 w62 else (if (cm_I w r32 (cm_I w a0 6).toNatClampNeg) = (6 : Int32) then fn_83_154  a0 w62 else some w62))))))) else (cm_R w a0 8).bind fun r74 => (if cm_sh w r74 = some (.inl 9) then (cm_R w r74 5).bind fun r77 => (if cm_sh w r77 = some (.inl 7) then (fn_64 w r77).bind fun v80 => (if ¬ (cm_b v80) = 0 then (fn_66 a0 (0 : Int32) w).bind fun w83 => (if (cm_I w r32 (cm_I w a0 6).toNatClampNeg) = (0 : Int32) then (if cm_sh w83 a0 = some (.inl 4) then (fn_74 a0 w83).bind fun w87 => some w87 else none) else (if (cm_I w r32 (cm_I w a0 6).toNatClampNeg) = (1 : Int32) then fn_83_99  a0 w83 else (if (cm_I w r32 (cm_I w a0 6).toNatClampNeg) = (2 : Int32) then fn_83_106  a0 w83 else (if (cm_I w r32 (cm_I w a0 6).toNatClampNeg) = (3 : Int32) then fn_83_113  a0 w83 else (if (cm_I w r32 (cm_I w a0 6).toNatClampNeg) = (4 : Int32) then fn_83_120  a0 w83 else (if (cm_I w r32 (cm_I w a0 6).toNatClampNeg) = (5 : Int32) then fn_83_137  a0 w83 else (if (cm_I w r32 (cm_I w a0 6).toNatClampNeg) = (6 : Int32) then fn_83_154  a0 w83 else some w83))))))) else (fn_66 a0 (1 : Int32) w).bind fun w95 => (if (cm_I w r32 (cm_I w a0 6).toNatClampNeg) = (0 : Int32) then (if cm_sh w95 a0 = some (.inl 4) then (fn_74 a0 w95).bind fun w99 => some w99 else none) else (if (cm_I w r32 (cm_I w a0 6).toNatClampNeg) = (1 : Int32) then fn_83_99  a0 w95 else (if (cm_I w r32 (cm_I w a0 6).toNatClampNeg) = (2 : Int32) then fn_83_106  a0 w95 else (if (cm_I w r32 (cm_I w a0 6).toNatClampNeg) = (3 : Int32) then fn_83_113  a0 w95 else (if (cm_I w r32 (cm_I w a0 6).toNatClampNeg) = (4 : Int32) then fn_83_120  a0 w95 else (if (cm_I w r32 (cm_I w a0 6).toNatClampNeg) = (5 : Int32) then fn_83_137  a0 w95 else (if (cm_I w r32 (cm_I w a0 6).toNatClampNeg) = (6 : Int32) then fn_83_154  a0 w95 else some w95)))))))) else none) else none)))) else none) else none)
theorem jt_83_0 (a0 : Nat) (w : cm_W) : sm cm_g 83 ck_83 kq_83 0 [(0, .ref a0)] [] w ((fn_83 a0 w).map cm_gV) := by
  unfold fn_83
  refine sm_seg 1 1 [(0, .ref a0)] [.ref a0] rfl ?_
  refine sm_gd fun h31 => ?_
  refine sm_gR rfl h31 rfl rfl fun r32 h33 => ?_
  show sm _ _ _ _ 4 [(0, .ref a0)] [.ref r32] _ _
  refine sm_seg 1 5 [(0, .ref a0)] [.ref a0, .ref r32] rfl ?_
  refine sm_gI rfl h31 rfl ?_
  show sm _ _ _ _ 8 [(0, .ref a0)] [.int (cm_I w a0 6), .ref r32] _ _
  refine sm_gd fun h34 => ?_
  refine sm_ai rfl h34 rfl ?_
  show sm _ _ _ _ 9 [(0, .ref a0)] [.int (cm_I w r32 (cm_I w a0 6).toNatClampNeg)] _ _
  refine sm_seg 3 12 [(1, .int (cm_I w r32 (cm_I w a0 6).toNatClampNeg)), (0, .ref a0)] [.int (cm_I w r32 (cm_I w a0 6).toNatClampNeg), .ref a0] rfl ?_
  refine sm_if (pc1 := 43) (lv1 := [(0, .ref a0), (1, .int (cm_I w r32 (cm_I w a0 6).toNatClampNeg))]) (pc2 := 15) (lv2 := [(1, .int (cm_I w r32 (cm_I w a0 6).toNatClampNeg)), (0, .ref a0)]) (st1 := [.ref a0]) rfl rfl rfl (fun h35 => ?_) (fun h35 => ?_)
  · refine sm_seg 1 44 [(0, .ref a0), (1, .int (cm_I w r32 (cm_I w a0 6).toNatClampNeg))] [.int (0 : Int32), .ref a0] rfl ?_
    refine sm_cV (as := [.int (0 : Int32)]) (rest := []) rfl rfl rfl rfl h31 (Nat.le_of_ble_eq_true rfl) (ca_66  a0 (0 : Int32) w) fun w36 h37 => ?_
    show sm _ _ _ _ 47 [(0, .ref a0), (1, .int (cm_I w r32 (cm_I w a0 6).toNatClampNeg))] [] _ _
    refine sm_seg 1 48 [(0, .ref a0), (1, .int (cm_I w r32 (cm_I w a0 6).toNatClampNeg))] [.int (cm_I w r32 (cm_I w a0 6).toNatClampNeg)] rfl ?_
    refine sm_br (fun h38 => ?_) (fun h38 => ?_)
    · refine sm_ts (off := (44)) (pc1 := 92) (lv1 := [(0, .ref a0), (1, .int (cm_I w r32 (cm_I w a0 6).toNatClampNeg))]) rfl (by rw [h38]; rfl) rfl rfl ?_
      refine sm_seg 1 93 [(0, .ref a0), (1, .int (cm_I w r32 (cm_I w a0 6).toNatClampNeg))] [.ref a0] rfl ?_
      refine sm_gd fun h39 => ?_
      refine sm_cV (as := []) (rest := []) rfl rfl rfl rfl h39 (Nat.le_of_ble_eq_true rfl) (ca_74  a0 w36) fun w40 h41 => ?_
      show sm _ _ _ _ 96 [(0, .ref a0), (1, .int (cm_I w r32 (cm_I w a0 6).toNatClampNeg))] [] _ _
      refine sm_seg 1 171 [] [] rfl ?_
      exact sm_rV rfl rfl
    refine sm_br (fun h42 => ?_) (fun h42 => ?_)
    · refine sm_ts (off := (51)) (pc1 := 99) (lv1 := [(0, .ref a0)]) rfl (by rw [h42]; rfl) rfl rfl ?_
      exact jt_83_99  a0 w36
    refine sm_br (fun h43 => ?_) (fun h43 => ?_)
    · refine sm_ts (off := (58)) (pc1 := 106) (lv1 := [(0, .ref a0)]) rfl (by rw [h43]; rfl) rfl rfl ?_
      exact jt_83_106  a0 w36
    refine sm_br (fun h44 => ?_) (fun h44 => ?_)
    · refine sm_ts (off := (65)) (pc1 := 113) (lv1 := [(0, .ref a0)]) rfl (by rw [h44]; rfl) rfl rfl ?_
      exact jt_83_113  a0 w36
    refine sm_br (fun h45 => ?_) (fun h45 => ?_)
    · refine sm_ts (off := (72)) (pc1 := 120) (lv1 := [(0, .ref a0)]) rfl (by rw [h45]; rfl) rfl rfl ?_
      exact jt_83_120  a0 w36
    refine sm_br (fun h46 => ?_) (fun h46 => ?_)
    · refine sm_ts (off := (89)) (pc1 := 137) (lv1 := [(0, .ref a0)]) rfl (by rw [h46]; rfl) rfl rfl ?_
      exact jt_83_137  a0 w36
    refine sm_br (fun h47 => ?_) (fun h47 => ?_)
    · refine sm_ts (off := (106)) (pc1 := 154) (lv1 := [(0, .ref a0)]) rfl (by rw [h47]; rfl) rfl rfl ?_
      exact jt_83_154  a0 w36
    refine sm_ts (off := (123)) (pc1 := 171) (lv1 := []) rfl (cm_tsd (n := 7) rfl rfl (fun j hj => match j, hj with | 0, _ => .inr (cm_ne h38 rfl) | 1, _ => .inr (cm_ne h42 rfl) | 2, _ => .inr (cm_ne h43 rfl) | 3, _ => .inr (cm_ne h44 rfl) | 4, _ => .inr (cm_ne h45 rfl) | 5, _ => .inr (cm_ne h46 rfl) | 6, _ => .inr (cm_ne h47 rfl) | _ + 7, h => absurd h (by omega))) rfl rfl ?_
    exact sm_rV rfl rfl
  · refine sm_seg 2 18 [(1, .int (cm_I w r32 (cm_I w a0 6).toNatClampNeg)), (0, .ref a0)] [.int (6 : Int32), .int (cm_I w r32 (cm_I w a0 6).toNatClampNeg), .ref a0] rfl ?_
    refine sm_if (pc1 := 43) (lv1 := [(0, .ref a0), (1, .int (cm_I w r32 (cm_I w a0 6).toNatClampNeg))]) (pc2 := 21) (lv2 := [(1, .int (cm_I w r32 (cm_I w a0 6).toNatClampNeg)), (0, .ref a0)]) (st1 := [.ref a0]) rfl rfl rfl (fun h48 => ?_) (fun h48 => ?_)
    · refine sm_seg 1 44 [(0, .ref a0), (1, .int (cm_I w r32 (cm_I w a0 6).toNatClampNeg))] [.int (0 : Int32), .ref a0] rfl ?_
      refine sm_cV (as := [.int (0 : Int32)]) (rest := []) rfl rfl rfl rfl h31 (Nat.le_of_ble_eq_true rfl) (ca_66  a0 (0 : Int32) w) fun w49 h50 => ?_
      show sm _ _ _ _ 47 [(0, .ref a0), (1, .int (cm_I w r32 (cm_I w a0 6).toNatClampNeg))] [] _ _
      refine sm_seg 1 48 [(0, .ref a0), (1, .int (cm_I w r32 (cm_I w a0 6).toNatClampNeg))] [.int (cm_I w r32 (cm_I w a0 6).toNatClampNeg)] rfl ?_
      refine sm_br (fun h51 => ?_) (fun h51 => ?_)
      · refine sm_ts (off := (44)) (pc1 := 92) (lv1 := [(0, .ref a0), (1, .int (cm_I w r32 (cm_I w a0 6).toNatClampNeg))]) rfl (by rw [h51]; rfl) rfl rfl ?_
        refine sm_seg 1 93 [(0, .ref a0), (1, .int (cm_I w r32 (cm_I w a0 6).toNatClampNeg))] [.ref a0] rfl ?_
        refine sm_gd fun h52 => ?_
        refine sm_cV (as := []) (rest := []) rfl rfl rfl rfl h52 (Nat.le_of_ble_eq_true rfl) (ca_74  a0 w49) fun w53 h54 => ?_
        show sm _ _ _ _ 96 [(0, .ref a0), (1, .int (cm_I w r32 (cm_I w a0 6).toNatClampNeg))] [] _ _
        refine sm_seg 1 171 [] [] rfl ?_
        exact sm_rV rfl rfl
      refine sm_br (fun h55 => ?_) (fun h55 => ?_)
      · refine sm_ts (off := (51)) (pc1 := 99) (lv1 := [(0, .ref a0)]) rfl (by rw [h55]; rfl) rfl rfl ?_
        exact jt_83_99  a0 w49
      refine sm_br (fun h56 => ?_) (fun h56 => ?_)
      · refine sm_ts (off := (58)) (pc1 := 106) (lv1 := [(0, .ref a0)]) rfl (by rw [h56]; rfl) rfl rfl ?_
        exact jt_83_106  a0 w49
      refine sm_br (fun h57 => ?_) (fun h57 => ?_)
      · refine sm_ts (off := (65)) (pc1 := 113) (lv1 := [(0, .ref a0)]) rfl (by rw [h57]; rfl) rfl rfl ?_
        exact jt_83_113  a0 w49
      refine sm_br (fun h58 => ?_) (fun h58 => ?_)
      · refine sm_ts (off := (72)) (pc1 := 120) (lv1 := [(0, .ref a0)]) rfl (by rw [h58]; rfl) rfl rfl ?_
        exact jt_83_120  a0 w49
      refine sm_br (fun h59 => ?_) (fun h59 => ?_)
      · refine sm_ts (off := (89)) (pc1 := 137) (lv1 := [(0, .ref a0)]) rfl (by rw [h59]; rfl) rfl rfl ?_
        exact jt_83_137  a0 w49
      refine sm_br (fun h60 => ?_) (fun h60 => ?_)
      · refine sm_ts (off := (106)) (pc1 := 154) (lv1 := [(0, .ref a0)]) rfl (by rw [h60]; rfl) rfl rfl ?_
        exact jt_83_154  a0 w49
      refine sm_ts (off := (123)) (pc1 := 171) (lv1 := []) rfl (cm_tsd (n := 7) rfl rfl (fun j hj => match j, hj with | 0, _ => .inr (cm_ne h51 rfl) | 1, _ => .inr (cm_ne h55 rfl) | 2, _ => .inr (cm_ne h56 rfl) | 3, _ => .inr (cm_ne h57 rfl) | 4, _ => .inr (cm_ne h58 rfl) | 5, _ => .inr (cm_ne h59 rfl) | 6, _ => .inr (cm_ne h60 rfl) | _ + 7, h => absurd h (by omega))) rfl rfl ?_
      exact sm_rV rfl rfl
    · refine sm_seg 2 23 [(1, .int (cm_I w r32 (cm_I w a0 6).toNatClampNeg)), (0, .ref a0)] [.int (3 : Int32), .int (cm_I w r32 (cm_I w a0 6).toNatClampNeg), .ref a0] rfl ?_
      refine sm_if (pc1 := 39) (lv1 := [(0, .ref a0), (1, .int (cm_I w r32 (cm_I w a0 6).toNatClampNeg))]) (pc2 := 26) (lv2 := [(1, .int (cm_I w r32 (cm_I w a0 6).toNatClampNeg)), (0, .ref a0)]) (st1 := [.ref a0]) rfl rfl rfl (fun h61 => ?_) (fun h61 => ?_)
      · refine sm_seg 2 44 [(0, .ref a0), (1, .int (cm_I w r32 (cm_I w a0 6).toNatClampNeg))] [.int (1 : Int32), .ref a0] rfl ?_
        refine sm_cV (as := [.int (1 : Int32)]) (rest := []) rfl rfl rfl rfl h31 (Nat.le_of_ble_eq_true rfl) (ca_66  a0 (1 : Int32) w) fun w62 h63 => ?_
        show sm _ _ _ _ 47 [(0, .ref a0), (1, .int (cm_I w r32 (cm_I w a0 6).toNatClampNeg))] [] _ _
        refine sm_seg 1 48 [(0, .ref a0), (1, .int (cm_I w r32 (cm_I w a0 6).toNatClampNeg))] [.int (cm_I w r32 (cm_I w a0 6).toNatClampNeg)] rfl ?_
        refine sm_br (fun h64 => ?_) (fun h64 => ?_)
        · refine sm_ts (off := (44)) (pc1 := 92) (lv1 := [(0, .ref a0), (1, .int (cm_I w r32 (cm_I w a0 6).toNatClampNeg))]) rfl (by rw [h64]; rfl) rfl rfl ?_
          refine sm_seg 1 93 [(0, .ref a0), (1, .int (cm_I w r32 (cm_I w a0 6).toNatClampNeg))] [.ref a0] rfl ?_
          refine sm_gd fun h65 => ?_
          refine sm_cV (as := []) (rest := []) rfl rfl rfl rfl h65 (Nat.le_of_ble_eq_true rfl) (ca_74  a0 w62) fun w66 h67 => ?_
          show sm _ _ _ _ 96 [(0, .ref a0), (1, .int (cm_I w r32 (cm_I w a0 6).toNatClampNeg))] [] _ _
          refine sm_seg 1 171 [] [] rfl ?_
          exact sm_rV rfl rfl
        refine sm_br (fun h68 => ?_) (fun h68 => ?_)
        · refine sm_ts (off := (51)) (pc1 := 99) (lv1 := [(0, .ref a0)]) rfl (by rw [h68]; rfl) rfl rfl ?_
          exact jt_83_99  a0 w62
        refine sm_br (fun h69 => ?_) (fun h69 => ?_)
        · refine sm_ts (off := (58)) (pc1 := 106) (lv1 := [(0, .ref a0)]) rfl (by rw [h69]; rfl) rfl rfl ?_
          exact jt_83_106  a0 w62
        refine sm_br (fun h70 => ?_) (fun h70 => ?_)
        · refine sm_ts (off := (65)) (pc1 := 113) (lv1 := [(0, .ref a0)]) rfl (by rw [h70]; rfl) rfl rfl ?_
          exact jt_83_113  a0 w62
        refine sm_br (fun h71 => ?_) (fun h71 => ?_)
        · refine sm_ts (off := (72)) (pc1 := 120) (lv1 := [(0, .ref a0)]) rfl (by rw [h71]; rfl) rfl rfl ?_
          exact jt_83_120  a0 w62
        refine sm_br (fun h72 => ?_) (fun h72 => ?_)
        · refine sm_ts (off := (89)) (pc1 := 137) (lv1 := [(0, .ref a0)]) rfl (by rw [h72]; rfl) rfl rfl ?_
          exact jt_83_137  a0 w62
        refine sm_br (fun h73 => ?_) (fun h73 => ?_)
        · refine sm_ts (off := (106)) (pc1 := 154) (lv1 := [(0, .ref a0)]) rfl (by rw [h73]; rfl) rfl rfl ?_
          exact jt_83_154  a0 w62
        refine sm_ts (off := (123)) (pc1 := 171) (lv1 := []) rfl (cm_tsd (n := 7) rfl rfl (fun j hj => match j, hj with | 0, _ => .inr (cm_ne h64 rfl) | 1, _ => .inr (cm_ne h68 rfl) | 2, _ => .inr (cm_ne h69 rfl) | 3, _ => .inr (cm_ne h70 rfl) | 4, _ => .inr (cm_ne h71 rfl) | 5, _ => .inr (cm_ne h72 rfl) | 6, _ => .inr (cm_ne h73 rfl) | _ + 7, h => absurd h (by omega))) rfl rfl ?_
        exact sm_rV rfl rfl
      · refine sm_seg 1 27 [(1, .int (cm_I w r32 (cm_I w a0 6).toNatClampNeg)), (0, .ref a0)] [.ref a0, .ref a0] rfl ?_
        refine sm_gR rfl h31 rfl rfl fun r74 h75 => ?_
        show sm _ _ _ _ 30 [(1, .int (cm_I w r32 (cm_I w a0 6).toNatClampNeg)), (0, .ref a0)] [.ref r74, .ref a0] _ _
        refine sm_gd fun h76 => ?_
        refine sm_gR rfl h76 rfl rfl fun r77 h78 => ?_
        show sm _ _ _ _ 33 [(1, .int (cm_I w r32 (cm_I w a0 6).toNatClampNeg)), (0, .ref a0)] [.ref r77, .ref a0] _ _
        refine sm_gd fun h79 => ?_
        refine sm_cV (as := []) (rest := [.ref a0]) rfl rfl rfl rfl h79 (Nat.le_of_ble_eq_true rfl) (ca_64 w r77) fun v80 h81 => ?_
        show sm _ _ _ _ 36 [(1, .int (cm_I w r32 (cm_I w a0 6).toNatClampNeg)), (0, .ref a0)] [.int (cm_b v80), .ref a0] _ _
        refine sm_if (pc1 := 43) (lv1 := [(0, .ref a0), (1, .int (cm_I w r32 (cm_I w a0 6).toNatClampNeg))]) (pc2 := 39) (lv2 := [(0, .ref a0), (1, .int (cm_I w r32 (cm_I w a0 6).toNatClampNeg))]) (st1 := [.ref a0]) rfl rfl rfl (fun h82 => ?_) (fun h82 => ?_)
        · refine sm_seg 1 44 [(0, .ref a0), (1, .int (cm_I w r32 (cm_I w a0 6).toNatClampNeg))] [.int (0 : Int32), .ref a0] rfl ?_
          refine sm_cV (as := [.int (0 : Int32)]) (rest := []) rfl rfl rfl rfl h31 (Nat.le_of_ble_eq_true rfl) (ca_66  a0 (0 : Int32) w) fun w83 h84 => ?_
          show sm _ _ _ _ 47 [(0, .ref a0), (1, .int (cm_I w r32 (cm_I w a0 6).toNatClampNeg))] [] _ _
          refine sm_seg 1 48 [(0, .ref a0), (1, .int (cm_I w r32 (cm_I w a0 6).toNatClampNeg))] [.int (cm_I w r32 (cm_I w a0 6).toNatClampNeg)] rfl ?_
          refine sm_br (fun h85 => ?_) (fun h85 => ?_)
          · refine sm_ts (off := (44)) (pc1 := 92) (lv1 := [(0, .ref a0), (1, .int (cm_I w r32 (cm_I w a0 6).toNatClampNeg))]) rfl (by rw [h85]; rfl) rfl rfl ?_
            refine sm_seg 1 93 [(0, .ref a0), (1, .int (cm_I w r32 (cm_I w a0 6).toNatClampNeg))] [.ref a0] rfl ?_
            refine sm_gd fun h86 => ?_
            refine sm_cV (as := []) (rest := []) rfl rfl rfl rfl h86 (Nat.le_of_ble_eq_true rfl) (ca_74  a0 w83) fun w87 h88 => ?_
            show sm _ _ _ _ 96 [(0, .ref a0), (1, .int (cm_I w r32 (cm_I w a0 6).toNatClampNeg))] [] _ _
            refine sm_seg 1 171 [] [] rfl ?_
            exact sm_rV rfl rfl
          refine sm_br (fun h89 => ?_) (fun h89 => ?_)
          · refine sm_ts (off := (51)) (pc1 := 99) (lv1 := [(0, .ref a0)]) rfl (by rw [h89]; rfl) rfl rfl ?_
            exact jt_83_99  a0 w83
          refine sm_br (fun h90 => ?_) (fun h90 => ?_)
          · refine sm_ts (off := (58)) (pc1 := 106) (lv1 := [(0, .ref a0)]) rfl (by rw [h90]; rfl) rfl rfl ?_
            exact jt_83_106  a0 w83
          refine sm_br (fun h91 => ?_) (fun h91 => ?_)
          · refine sm_ts (off := (65)) (pc1 := 113) (lv1 := [(0, .ref a0)]) rfl (by rw [h91]; rfl) rfl rfl ?_
            exact jt_83_113  a0 w83
          refine sm_br (fun h92 => ?_) (fun h92 => ?_)
          · refine sm_ts (off := (72)) (pc1 := 120) (lv1 := [(0, .ref a0)]) rfl (by rw [h92]; rfl) rfl rfl ?_
            exact jt_83_120  a0 w83
          refine sm_br (fun h93 => ?_) (fun h93 => ?_)
          · refine sm_ts (off := (89)) (pc1 := 137) (lv1 := [(0, .ref a0)]) rfl (by rw [h93]; rfl) rfl rfl ?_
            exact jt_83_137  a0 w83
          refine sm_br (fun h94 => ?_) (fun h94 => ?_)
          · refine sm_ts (off := (106)) (pc1 := 154) (lv1 := [(0, .ref a0)]) rfl (by rw [h94]; rfl) rfl rfl ?_
            exact jt_83_154  a0 w83
          refine sm_ts (off := (123)) (pc1 := 171) (lv1 := []) rfl (cm_tsd (n := 7) rfl rfl (fun j hj => match j, hj with | 0, _ => .inr (cm_ne h85 rfl) | 1, _ => .inr (cm_ne h89 rfl) | 2, _ => .inr (cm_ne h90 rfl) | 3, _ => .inr (cm_ne h91 rfl) | 4, _ => .inr (cm_ne h92 rfl) | 5, _ => .inr (cm_ne h93 rfl) | 6, _ => .inr (cm_ne h94 rfl) | _ + 7, h => absurd h (by omega))) rfl rfl ?_
          exact sm_rV rfl rfl
        · refine sm_seg 2 44 [(0, .ref a0), (1, .int (cm_I w r32 (cm_I w a0 6).toNatClampNeg))] [.int (1 : Int32), .ref a0] rfl ?_
          refine sm_cV (as := [.int (1 : Int32)]) (rest := []) rfl rfl rfl rfl h31 (Nat.le_of_ble_eq_true rfl) (ca_66  a0 (1 : Int32) w) fun w95 h96 => ?_
          show sm _ _ _ _ 47 [(0, .ref a0), (1, .int (cm_I w r32 (cm_I w a0 6).toNatClampNeg))] [] _ _
          refine sm_seg 1 48 [(0, .ref a0), (1, .int (cm_I w r32 (cm_I w a0 6).toNatClampNeg))] [.int (cm_I w r32 (cm_I w a0 6).toNatClampNeg)] rfl ?_
          refine sm_br (fun h97 => ?_) (fun h97 => ?_)
          · refine sm_ts (off := (44)) (pc1 := 92) (lv1 := [(0, .ref a0), (1, .int (cm_I w r32 (cm_I w a0 6).toNatClampNeg))]) rfl (by rw [h97]; rfl) rfl rfl ?_
            refine sm_seg 1 93 [(0, .ref a0), (1, .int (cm_I w r32 (cm_I w a0 6).toNatClampNeg))] [.ref a0] rfl ?_
            refine sm_gd fun h98 => ?_
            refine sm_cV (as := []) (rest := []) rfl rfl rfl rfl h98 (Nat.le_of_ble_eq_true rfl) (ca_74  a0 w95) fun w99 h100 => ?_
            show sm _ _ _ _ 96 [(0, .ref a0), (1, .int (cm_I w r32 (cm_I w a0 6).toNatClampNeg))] [] _ _
            refine sm_seg 1 171 [] [] rfl ?_
            exact sm_rV rfl rfl
          refine sm_br (fun h101 => ?_) (fun h101 => ?_)
          · refine sm_ts (off := (51)) (pc1 := 99) (lv1 := [(0, .ref a0)]) rfl (by rw [h101]; rfl) rfl rfl ?_
            exact jt_83_99  a0 w95
          refine sm_br (fun h102 => ?_) (fun h102 => ?_)
          · refine sm_ts (off := (58)) (pc1 := 106) (lv1 := [(0, .ref a0)]) rfl (by rw [h102]; rfl) rfl rfl ?_
            exact jt_83_106  a0 w95
          refine sm_br (fun h103 => ?_) (fun h103 => ?_)
          · refine sm_ts (off := (65)) (pc1 := 113) (lv1 := [(0, .ref a0)]) rfl (by rw [h103]; rfl) rfl rfl ?_
            exact jt_83_113  a0 w95
          refine sm_br (fun h104 => ?_) (fun h104 => ?_)
          · refine sm_ts (off := (72)) (pc1 := 120) (lv1 := [(0, .ref a0)]) rfl (by rw [h104]; rfl) rfl rfl ?_
            exact jt_83_120  a0 w95
          refine sm_br (fun h105 => ?_) (fun h105 => ?_)
          · refine sm_ts (off := (89)) (pc1 := 137) (lv1 := [(0, .ref a0)]) rfl (by rw [h105]; rfl) rfl rfl ?_
            exact jt_83_137  a0 w95
          refine sm_br (fun h106 => ?_) (fun h106 => ?_)
          · refine sm_ts (off := (106)) (pc1 := 154) (lv1 := [(0, .ref a0)]) rfl (by rw [h106]; rfl) rfl rfl ?_
            exact jt_83_154  a0 w95
          refine sm_ts (off := (123)) (pc1 := 171) (lv1 := []) rfl (cm_tsd (n := 7) rfl rfl (fun j hj => match j, hj with | 0, _ => .inr (cm_ne h97 rfl) | 1, _ => .inr (cm_ne h101 rfl) | 2, _ => .inr (cm_ne h102 rfl) | 3, _ => .inr (cm_ne h103 rfl) | 4, _ => .inr (cm_ne h104 rfl) | 5, _ => .inr (cm_ne h105 rfl) | 6, _ => .inr (cm_ne h106 rfl) | _ + 7, h => absurd h (by omega))) rfl rfl ?_
          exact sm_rV rfl rfl
theorem ca_83 (a0 : Nat) (w : cm_W) : cm_ca cm_g 83 [.ref a0] w ((fn_83 a0 w).map cm_gV) := cm_ca_of (cm_me_of rfl rfl) rfl (jt_83_0 a0 w)
-- NailedBoxes$Village.addUp(I)I
def fn_84_4 (w : cm_W) : Nat → Nat → Int32 → Int32 → Int32 → Option Int32
  | 0, _, _, _, _ => none
  | n + 1, a0, i1, i2, i3 => (if cm_sh w a0 = some (.inl 9) then (cm_R w a0 1).bind fun r2 => (if cm_sh w r2 = some (.inl 7) then (if (cm_I w r2 2) ≤ i3 then some i2 else (fn_8 w a0 i1 i3).bind fun v6 => fn_84_4 w n a0 i1 (i2 + v6) (i3 + (1 : Int32))) else none) else none)
theorem jt_84_4 (w : cm_W) : ∀ (n : Nat) (a0 : Nat) (i1 : Int32) (i2 : Int32) (i3 : Int32), sm cm_g 84 ck_84 kq_84 4 [(0, .ref a0), (1, .int i1), (2, .int i2), (3, .int i3)] [] w ((fn_84_4 w n a0 i1 i2 i3).map (cm_fI w)) := by
  intro n
  induction n with
  | zero => intro a0 i1 i2 i3; exact sm_no
  | succ n ih =>
    intro a0 i1 i2 i3
    rw [fn_84_4]
    refine sm_seg 2 6 [(0, .ref a0), (1, .int i1), (2, .int i2), (3, .int i3)] [.ref a0, .int i3] rfl ?_
    refine sm_gd fun h1 => ?_
    refine sm_gR rfl h1 rfl rfl fun r2 h3 => ?_
    show sm _ _ _ _ 9 [(0, .ref a0), (1, .int i1), (2, .int i2), (3, .int i3)] [.ref r2, .int i3] _ _
    refine sm_gd fun h4 => ?_
    refine sm_gI rfl h4 rfl ?_
    show sm _ _ _ _ 12 [(0, .ref a0), (1, .int i1), (2, .int i2), (3, .int i3)] [.int (cm_I w r2 2), .int i3] _ _
    refine sm_if (pc1 := 30) (lv1 := [(2, .int i2)]) (pc2 := 15) (lv2 := [(0, .ref a0), (1, .int i1), (2, .int i2), (3, .int i3)]) (st1 := []) rfl rfl rfl (fun h5 => ?_) (fun h5 => ?_)
    · refine sm_seg 1 31 [(2, .int i2)] [.int i2] rfl ?_
      exact sm_rI rfl rfl
    · refine sm_seg 4 19 [(0, .ref a0), (1, .int i1), (2, .int i2), (3, .int i3)] [.int i3, .int i1, .ref a0, .int i2] rfl ?_
      refine sm_cV (as := [.int i1, .int i3]) (rest := [.int i2]) rfl rfl rfl rfl h1 (Nat.le_of_ble_eq_true rfl) (ca_8 w a0 i1 i3) fun v6 h7 => ?_
      show sm _ _ _ _ 22 [(0, .ref a0), (1, .int i1), (2, .int i2), (3, .int i3)] [.int v6, .int i2] _ _
      refine sm_seg 4 4 [(0, .ref a0), (1, .int i1), (2, .int (i2 + v6)), (3, .int (i3 + (1 : Int32)))] [] rfl ?_
      exact ih a0 i1 (i2 + v6) (i3 + (1 : Int32))
def fn_84 (w : cm_W) (a0 : Nat) (i1 : Int32) : Option Int32 := fn_84_4 w cm_N a0 i1 (0 : Int32) (0 : Int32)
theorem jt_84_0 (w : cm_W) (a0 : Nat) (i1 : Int32) : sm cm_g 84 ck_84 kq_84 0 [(0, .ref a0), (1, .int i1)] [] w ((fn_84 w a0 i1).map (cm_fI w)) := by
  unfold fn_84
  refine sm_seg 4 4 [(0, .ref a0), (1, .int i1), (2, .int (0 : Int32)), (3, .int (0 : Int32))] [] rfl ?_
  exact jt_84_4 w cm_N a0 i1 (0 : Int32) (0 : Int32)
theorem ca_84 (w : cm_W) (a0 : Nat) (i1 : Int32) : cm_ca cm_g 84 [.ref a0, .int i1] w ((fn_84 w a0 i1).map (cm_fI w)) := cm_ca_of (cm_me_of rfl rfl) rfl (jt_84_0 w a0 i1)
-- NailedBoxes$Village.sumShares()V
def fn_85_49 (k_2 : Nat → Int32 → cm_W → Option cm_W) (a0 : Nat) (i1 : Int32) (i2 : Int32) (w : cm_W) : Option cm_W := (if cm_sh w a0 = some (.inl 9) then (cm_R w a0 3).bind fun r2 => (if ¬ i2 = 0 then (if cm_sh w r2 = some (.inl 7) then (fn_72 r2 i1 (2 : Int32) i2 w).bind fun w6 => k_2 a0 (i1 + (1 : Int32)) w6 else none) else (cm_R w a0 1).bind fun r8 => (if cm_sh w r8 = some (.inl 7) then (if cm_sh w r2 = some (.inl 7) then (fn_72 r2 i1 (2 : Int32) (cm_I w r8 2) w).bind fun w12 => k_2 a0 (i1 + (1 : Int32)) w12 else none) else none)) else none)
theorem jt_85_49 (k_2 : Nat → Int32 → cm_W → Option cm_W) (hk_2 : ∀ (a0 : Nat) (i1 : Int32) (w : cm_W), sm cm_g 85 ck_85 kq_85 2 [(0, .ref a0), (1, .int i1)] [] w ((k_2 a0 i1 w).map cm_gV)) (a0 : Nat) (i1 : Int32) (i2 : Int32) (w : cm_W) : sm cm_g 85 ck_85 kq_85 49 [(0, .ref a0), (1, .int i1), (2, .int i2)] [] w ((fn_85_49 k_2 a0 i1 i2 w).map cm_gV) := by
  unfold fn_85_49
  refine sm_seg 1 50 [(0, .ref a0), (1, .int i1), (2, .int i2)] [.ref a0] rfl ?_
  refine sm_gd fun h1 => ?_
  refine sm_gR rfl h1 rfl rfl fun r2 h3 => ?_
  show sm _ _ _ _ 53 [(0, .ref a0), (1, .int i1), (2, .int i2)] [.ref r2] _ _
  refine sm_seg 3 56 [(0, .ref a0), (1, .int i1), (2, .int i2)] [.int i2, .int (2 : Int32), .int i1, .ref r2] rfl ?_
  refine sm_if (pc1 := 69) (lv1 := [(0, .ref a0), (1, .int i1), (2, .int i2)]) (pc2 := 59) (lv2 := [(0, .ref a0), (1, .int i1), (2, .int i2)]) (st1 := [.int (2 : Int32), .int i1, .ref r2]) rfl rfl rfl (fun h4 => ?_) (fun h4 => ?_)
  · refine sm_seg 1 70 [(0, .ref a0), (1, .int i1)] [.int i2, .int (2 : Int32), .int i1, .ref r2] rfl ?_
    refine sm_gd fun h5 => ?_
    refine sm_cV (as := [.int i1, .int (2 : Int32), .int i2]) (rest := []) rfl rfl rfl rfl h5 (Nat.le_of_ble_eq_true rfl) (ca_72  r2 i1 (2 : Int32) i2 w) fun w6 h7 => ?_
    show sm _ _ _ _ 73 [(0, .ref a0), (1, .int i1)] [] _ _
    refine sm_seg 2 2 [(0, .ref a0), (1, .int (i1 + (1 : Int32)))] [] rfl ?_
    exact hk_2 a0 (i1 + (1 : Int32)) w6
  · refine sm_seg 1 60 [(0, .ref a0), (1, .int i1), (2, .int i2)] [.ref a0, .int (2 : Int32), .int i1, .ref r2] rfl ?_
    refine sm_gR rfl h1 rfl rfl fun r8 h9 => ?_
    show sm _ _ _ _ 63 [(0, .ref a0), (1, .int i1), (2, .int i2)] [.ref r8, .int (2 : Int32), .int i1, .ref r2] _ _
    refine sm_gd fun h10 => ?_
    refine sm_gI rfl h10 rfl ?_
    show sm _ _ _ _ 66 [(0, .ref a0), (1, .int i1), (2, .int i2)] [.int (cm_I w r8 2), .int (2 : Int32), .int i1, .ref r2] _ _
    refine sm_seg 1 70 [(0, .ref a0), (1, .int i1)] [.int (cm_I w r8 2), .int (2 : Int32), .int i1, .ref r2] rfl ?_
    refine sm_gd fun h11 => ?_
    refine sm_cV (as := [.int i1, .int (2 : Int32), .int (cm_I w r8 2)]) (rest := []) rfl rfl rfl rfl h11 (Nat.le_of_ble_eq_true rfl) (ca_72  r2 i1 (2 : Int32) (cm_I w r8 2) w) fun w12 h13 => ?_
    show sm _ _ _ _ 73 [(0, .ref a0), (1, .int i1)] [] _ _
    refine sm_seg 2 2 [(0, .ref a0), (1, .int (i1 + (1 : Int32)))] [] rfl ?_
    exact hk_2 a0 (i1 + (1 : Int32)) w12
def fn_85_21 (k_2 : Nat → Int32 → cm_W → Option cm_W) : Nat → Nat → Int32 → Int32 → Int32 → cm_W → Option cm_W
  | 0, _, _, _, _, _ => none
  | n + 1, a0, i1, i2, i3, w => (if cm_sh w a0 = some (.inl 9) then (cm_R w a0 1).bind fun r15 => (if cm_sh w r15 = some (.inl 7) then (if (cm_I w r15 2) ≤ i3 then fn_85_49  k_2 a0 i1 i2 w else (if ¬ i2 = 0 then fn_85_49  k_2 a0 i1 i2 w else (fn_77 a0 i1 i3 (1 : Int32) w).bind fun w20 => fn_85_21 k_2 n a0 i1 i2 (i3 + (1 : Int32)) w20)) else none) else none)
theorem jt_85_21 (k_2 : Nat → Int32 → cm_W → Option cm_W) (hk_2 : ∀ (a0 : Nat) (i1 : Int32) (w : cm_W), sm cm_g 85 ck_85 kq_85 2 [(0, .ref a0), (1, .int i1)] [] w ((k_2 a0 i1 w).map cm_gV)) : ∀ (n : Nat) (a0 : Nat) (i1 : Int32) (i2 : Int32) (i3 : Int32) (w : cm_W), sm cm_g 85 ck_85 kq_85 21 [(0, .ref a0), (1, .int i1), (2, .int i2), (3, .int i3)] [] w ((fn_85_21 k_2 n a0 i1 i2 i3 w).map cm_gV) := by
  intro n
  induction n with
  | zero => intro a0 i1 i2 i3 w; exact sm_no
  | succ n ih =>
    intro a0 i1 i2 i3 w
    rw [fn_85_21]
    refine sm_seg 2 23 [(0, .ref a0), (1, .int i1), (2, .int i2), (3, .int i3)] [.ref a0, .int i3] rfl ?_
    refine sm_gd fun h14 => ?_
    refine sm_gR rfl h14 rfl rfl fun r15 h16 => ?_
    show sm _ _ _ _ 26 [(0, .ref a0), (1, .int i1), (2, .int i2), (3, .int i3)] [.ref r15, .int i3] _ _
    refine sm_gd fun h17 => ?_
    refine sm_gI rfl h17 rfl ?_
    show sm _ _ _ _ 29 [(0, .ref a0), (1, .int i1), (2, .int i2), (3, .int i3)] [.int (cm_I w r15 2), .int i3] _ _
    refine sm_if (pc1 := 49) (lv1 := [(0, .ref a0), (1, .int i1), (2, .int i2)]) (pc2 := 32) (lv2 := [(0, .ref a0), (1, .int i1), (2, .int i2), (3, .int i3)]) (st1 := []) rfl rfl rfl (fun h18 => ?_) (fun h18 => ?_)
    · exact jt_85_49  k_2 hk_2 a0 i1 i2 w
    · refine sm_seg 1 33 [(0, .ref a0), (1, .int i1), (2, .int i2), (3, .int i3)] [.int i2] rfl ?_
      refine sm_if (pc1 := 49) (lv1 := [(0, .ref a0), (1, .int i1), (2, .int i2)]) (pc2 := 36) (lv2 := [(0, .ref a0), (1, .int i1), (2, .int i2), (3, .int i3)]) (st1 := []) rfl rfl rfl (fun h19 => ?_) (fun h19 => ?_)
      · exact jt_85_49  k_2 hk_2 a0 i1 i2 w
      · refine sm_seg 4 40 [(0, .ref a0), (1, .int i1), (2, .int i2), (3, .int i3)] [.int (1 : Int32), .int i3, .int i1, .ref a0] rfl ?_
        refine sm_cV (as := [.int i1, .int i3, .int (1 : Int32)]) (rest := []) rfl rfl rfl rfl h14 (Nat.le_of_ble_eq_true rfl) (ca_77  a0 i1 i3 (1 : Int32) w) fun w20 h21 => ?_
        show sm _ _ _ _ 43 [(0, .ref a0), (1, .int i1), (2, .int i2), (3, .int i3)] [] _ _
        refine sm_seg 2 21 [(0, .ref a0), (1, .int i1), (2, .int i2), (3, .int (i3 + (1 : Int32)))] [] rfl ?_
        exact ih a0 i1 i2 (i3 + (1 : Int32)) w20
def fn_85_2 : Nat → Nat → Int32 → cm_W → Option cm_W
  | 0, _, _, _ => none
  | n + 1, a0, i1, w => (if cm_sh w a0 = some (.inl 9) then (cm_R w a0 3).bind fun r23 => (if cm_sh w r23 = some (.inl 7) then (if (cm_I w r23 2) ≤ i1 then some w else (fn_84 w a0 i1).bind fun v27 => fn_85_21  (fn_85_2 n) cm_N a0 i1 v27 (0 : Int32) w) else none) else none)
theorem jt_85_2 : ∀ (n : Nat) (a0 : Nat) (i1 : Int32) (w : cm_W), sm cm_g 85 ck_85 kq_85 2 [(0, .ref a0), (1, .int i1)] [] w ((fn_85_2 n a0 i1 w).map cm_gV) := by
  intro n
  induction n with
  | zero => intro a0 i1 w; exact sm_no
  | succ n ih =>
    intro a0 i1 w
    rw [fn_85_2]
    refine sm_seg 2 4 [(0, .ref a0), (1, .int i1)] [.ref a0, .int i1] rfl ?_
    refine sm_gd fun h22 => ?_
    refine sm_gR rfl h22 rfl rfl fun r23 h24 => ?_
    show sm _ _ _ _ 7 [(0, .ref a0), (1, .int i1)] [.ref r23, .int i1] _ _
    refine sm_gd fun h25 => ?_
    refine sm_gI rfl h25 rfl ?_
    show sm _ _ _ _ 10 [(0, .ref a0), (1, .int i1)] [.int (cm_I w r23 2), .int i1] _ _
    refine sm_if (pc1 := 79) (lv1 := []) (pc2 := 13) (lv2 := [(0, .ref a0), (1, .int i1)]) (st1 := []) rfl rfl rfl (fun h26 => ?_) (fun h26 => ?_)
    · exact sm_rV rfl rfl
    · refine sm_seg 2 15 [(0, .ref a0), (1, .int i1)] [.int i1, .ref a0] rfl ?_
      refine sm_cV (as := [.int i1]) (rest := []) rfl rfl rfl rfl h22 (Nat.le_of_ble_eq_true rfl) (ca_84 w a0 i1) fun v27 h28 => ?_
      show sm _ _ _ _ 18 [(0, .ref a0), (1, .int i1)] [.int v27] _ _
      refine sm_seg 3 21 [(0, .ref a0), (1, .int i1), (2, .int v27), (3, .int (0 : Int32))] [] rfl ?_
      exact jt_85_21  (fn_85_2 n) ih cm_N a0 i1 v27 (0 : Int32) w
def fn_85 (a0 : Nat) (w : cm_W) : Option cm_W := fn_85_2  cm_N a0 (0 : Int32) w
theorem jt_85_0 (a0 : Nat) (w : cm_W) : sm cm_g 85 ck_85 kq_85 0 [(0, .ref a0)] [] w ((fn_85 a0 w).map cm_gV) := by
  unfold fn_85
  refine sm_seg 2 2 [(0, .ref a0), (1, .int (0 : Int32))] [] rfl ?_
  exact jt_85_2  cm_N a0 (0 : Int32) w
theorem ca_85 (a0 : Nat) (w : cm_W) : cm_ca cm_g 85 [.ref a0] w ((fn_85 a0 w).map cm_gV) := cm_ca_of (cm_me_of rfl rfl) rfl (jt_85_0 a0 w)
-- NailedBoxes$Reader.read([BI)I
def fn_86_111 (a0 : Nat) (w : cm_W) : Option (Int32 × cm_W) := (if cm_sh w a0 = some (.inl 4) then (cm_R w a0 8).bind fun r2 => (if cm_sh w r2 = some (.inl 9) then (fn_85 r2 w).bind fun w5 => (if cm_sh w5 a0 = some (.inl 4) then some ((cm_I w5 a0 7), w5) else none) else none) else none)
theorem jt_86_111 (a0 : Nat) (w : cm_W) : sm cm_g 86 ck_86 kq_86 111 [(0, .ref a0)] [] w ((fn_86_111 a0 w).map cm_gI) := by
  unfold fn_86_111
  refine sm_seg 1 112 [(0, .ref a0)] [.ref a0] rfl ?_
  refine sm_gd fun h1 => ?_
  refine sm_gR rfl h1 rfl rfl fun r2 h3 => ?_
  show sm _ _ _ _ 115 [(0, .ref a0)] [.ref r2] _ _
  refine sm_gd fun h4 => ?_
  refine sm_cV (as := []) (rest := []) rfl rfl rfl rfl h4 (Nat.le_of_ble_eq_true rfl) (ca_85  r2 w) fun w5 h6 => ?_
  show sm _ _ _ _ 118 [(0, .ref a0)] [] _ _
  refine sm_seg 1 119 [(0, .ref a0)] [.ref a0] rfl ?_
  refine sm_gd fun h7 => ?_
  refine sm_gI rfl h7 rfl ?_
  show sm _ _ _ _ 122 [(0, .ref a0)] [.int (cm_I w5 a0 7)] _ _
  exact sm_rIW rfl rfl
def fn_86_95 (a0 : Nat) (w : cm_W) : Option (Int32 × cm_W) := (if cm_sh w a0 = some (.inl 4) then (cm_R w a0 1).bind fun r9 => (if cm_ga w .int r9 (cm_I w a0 6) = true then (if (cm_I w r9 (cm_I w a0 6).toNatClampNeg) = 0 then fn_86_111  a0 w else (fn_65 a0 w).bind fun w13 => fn_86_111  a0 w13) else none) else none)
theorem jt_86_95 (a0 : Nat) (w : cm_W) : sm cm_g 86 ck_86 kq_86 95 [(0, .ref a0)] [] w ((fn_86_95 a0 w).map cm_gI) := by
  unfold fn_86_95
  refine sm_seg 1 96 [(0, .ref a0)] [.ref a0] rfl ?_
  refine sm_gd fun h8 => ?_
  refine sm_gR rfl h8 rfl rfl fun r9 h10 => ?_
  show sm _ _ _ _ 99 [(0, .ref a0)] [.ref r9] _ _
  refine sm_seg 1 100 [(0, .ref a0)] [.ref a0, .ref r9] rfl ?_
  refine sm_gI rfl h8 rfl ?_
  show sm _ _ _ _ 103 [(0, .ref a0)] [.int (cm_I w a0 6), .ref r9] _ _
  refine sm_gd fun h11 => ?_
  refine sm_ai rfl h11 rfl ?_
  show sm _ _ _ _ 104 [(0, .ref a0)] [.int (cm_I w r9 (cm_I w a0 6).toNatClampNeg)] _ _
  refine sm_if (pc1 := 111) (lv1 := [(0, .ref a0)]) (pc2 := 107) (lv2 := [(0, .ref a0)]) (st1 := []) rfl rfl rfl (fun h12 => ?_) (fun h12 => ?_)
  · exact jt_86_111  a0 w
  · refine sm_seg 1 108 [(0, .ref a0)] [.ref a0] rfl ?_
    refine sm_cV (as := []) (rest := []) rfl rfl rfl rfl h8 (Nat.le_of_ble_eq_true rfl) (ca_65  a0 w) fun w13 h14 => ?_
    show sm _ _ _ _ 111 [(0, .ref a0)] [] _ _
    exact jt_86_111  a0 w13
def fn_86_36 : Nat → Nat → Int32 → cm_W → Option (Int32 × cm_W)
  | 0, _, _, _ => none
  | n + 1, a0, i3, w => (if (50 : Int32) ≤ i3 then fn_86_95  a0 w else (if cm_sh w a0 = some (.inl 4) then (cm_R w a0 1).bind fun r17 => (if cm_ga w .int r17 (cm_I w a0 6) = true then (if (cm_I w r17 (cm_I w a0 6).toNatClampNeg) = 0 then fn_86_95  a0 w else (if ¬ (cm_I w a0 7) = (-1 : Int32) then fn_86_95  a0 w else (fn_83 a0 w).bind fun w22 => (if cm_sh w22 a0 = some (.inl 4) then (fn_79 w22 a0 (59 : Int32)).bind fun v25 => (fn_66 a0 (cm_b v25) w22).bind fun w27 => (if cm_sh w27 a0 = some (.inl 4) then (cm_R w27 a0 8).bind fun r30 => (if cm_sh w27 r30 = some (.inl 9) then (if cm_w2 4 30 r30 = true then fn_86_36 n a0 (i3 + (1 : Int32)) (cm_sI w27 r30 9 ((cm_I w27 r30 9) + (1 : Int32))) else none) else none) else none) else none))) else none) else none))
theorem jt_86_36 : ∀ (n : Nat) (a0 : Nat) (i3 : Int32) (w : cm_W), sm cm_g 86 ck_86 kq_86 36 [(0, .ref a0), (3, .int i3)] [] w ((fn_86_36 n a0 i3 w).map cm_gI) := by
  intro n
  induction n with
  | zero => intro a0 i3 w; exact sm_no
  | succ n ih =>
    intro a0 i3 w
    rw [fn_86_36]
    refine sm_seg 2 39 [(0, .ref a0), (3, .int i3)] [.int (50 : Int32), .int i3] rfl ?_
    refine sm_if (pc1 := 95) (lv1 := [(0, .ref a0)]) (pc2 := 42) (lv2 := [(0, .ref a0), (3, .int i3)]) (st1 := []) rfl rfl rfl (fun h15 => ?_) (fun h15 => ?_)
    · exact jt_86_95  a0 w
    · refine sm_seg 1 43 [(0, .ref a0), (3, .int i3)] [.ref a0] rfl ?_
      refine sm_gd fun h16 => ?_
      refine sm_gR rfl h16 rfl rfl fun r17 h18 => ?_
      show sm _ _ _ _ 46 [(0, .ref a0), (3, .int i3)] [.ref r17] _ _
      refine sm_seg 1 47 [(0, .ref a0), (3, .int i3)] [.ref a0, .ref r17] rfl ?_
      refine sm_gI rfl h16 rfl ?_
      show sm _ _ _ _ 50 [(0, .ref a0), (3, .int i3)] [.int (cm_I w a0 6), .ref r17] _ _
      refine sm_gd fun h19 => ?_
      refine sm_ai rfl h19 rfl ?_
      show sm _ _ _ _ 51 [(0, .ref a0), (3, .int i3)] [.int (cm_I w r17 (cm_I w a0 6).toNatClampNeg)] _ _
      refine sm_if (pc1 := 95) (lv1 := [(0, .ref a0)]) (pc2 := 54) (lv2 := [(0, .ref a0), (3, .int i3)]) (st1 := []) rfl rfl rfl (fun h20 => ?_) (fun h20 => ?_)
      · exact jt_86_95  a0 w
      · refine sm_seg 1 55 [(0, .ref a0), (3, .int i3)] [.ref a0] rfl ?_
        refine sm_gI rfl h16 rfl ?_
        show sm _ _ _ _ 58 [(0, .ref a0), (3, .int i3)] [.int (cm_I w a0 7)] _ _
        refine sm_seg 1 59 [(0, .ref a0), (3, .int i3)] [.int (-1 : Int32), .int (cm_I w a0 7)] rfl ?_
        refine sm_if (pc1 := 95) (lv1 := [(0, .ref a0)]) (pc2 := 62) (lv2 := [(0, .ref a0), (3, .int i3)]) (st1 := []) rfl rfl rfl (fun h21 => ?_) (fun h21 => ?_)
        · exact jt_86_95  a0 w
        · refine sm_seg 1 63 [(0, .ref a0), (3, .int i3)] [.ref a0] rfl ?_
          refine sm_cV (as := []) (rest := []) rfl rfl rfl rfl h16 (Nat.le_of_ble_eq_true rfl) (ca_83  a0 w) fun w22 h23 => ?_
          show sm _ _ _ _ 66 [(0, .ref a0), (3, .int i3)] [] _ _
          refine sm_seg 3 70 [(0, .ref a0), (3, .int i3)] [.int (59 : Int32), .ref a0, .ref a0] rfl ?_
          refine sm_gd fun h24 => ?_
          refine sm_cV (as := [.int (59 : Int32)]) (rest := [.ref a0]) rfl rfl rfl rfl h24 (Nat.le_of_ble_eq_true rfl) (ca_79 w22 a0 (59 : Int32)) fun v25 h26 => ?_
          show sm _ _ _ _ 73 [(0, .ref a0), (3, .int i3)] [.int (cm_b v25), .ref a0] _ _
          refine sm_cV (as := [.int (cm_b v25)]) (rest := []) rfl rfl rfl rfl h24 (Nat.le_of_ble_eq_true rfl) (ca_66  a0 (cm_b v25) w22) fun w27 h28 => ?_
          show sm _ _ _ _ 76 [(0, .ref a0), (3, .int i3)] [] _ _
          refine sm_seg 1 77 [(0, .ref a0), (3, .int i3)] [.ref a0] rfl ?_
          refine sm_gd fun h29 => ?_
          refine sm_gR rfl h29 rfl rfl fun r30 h31 => ?_
          show sm _ _ _ _ 80 [(0, .ref a0), (3, .int i3)] [.ref r30] _ _
          refine sm_seg 1 81 [(0, .ref a0), (3, .int i3)] [.ref r30, .ref r30] rfl ?_
          refine sm_gd fun h32 => ?_
          refine sm_gI rfl h32 rfl ?_
          show sm _ _ _ _ 84 [(0, .ref a0), (3, .int i3)] [.int (cm_I w27 r30 9), .ref r30] _ _
          refine sm_seg 2 86 [(0, .ref a0), (3, .int i3)] [.int ((cm_I w27 r30 9) + (1 : Int32)), .ref r30] rfl ?_
          refine sm_gd fun h33 => ?_
          refine sm_pI rfl h32 rfl h33 rfl ?_
          show sm _ _ _ _ 89 [(0, .ref a0), (3, .int i3)] [] _ _
          refine sm_seg 2 36 [(0, .ref a0), (3, .int (i3 + (1 : Int32)))] [] rfl ?_
          exact ih a0 (i3 + (1 : Int32)) (cm_sI w27 r30 9 ((cm_I w27 r30 9) + (1 : Int32)))
def fn_86 (a0 : Nat) (a1 : Nat) (i2 : Int32) (w : cm_W) : Option (Int32 × cm_W) := (cm_al w a1).bind fun n34 => (if cm_sh w a0 = some (.inl 4) then (fn_61 a0 a1 (if (if (Int32.ofNat n34) < (900 : Int32) then (Int32.ofNat n34) else (900 : Int32)) < i2 then (if (Int32.ofNat n34) < (900 : Int32) then (Int32.ofNat n34) else (900 : Int32)) else i2) w).bind fun w37 => (if cm_sh w37 a0 = some (.inl 4) then (cm_R w37 a0 8).bind fun r40 => (if cm_sh w37 r40 = some (.inl 9) then (fn_63 r40 w37).bind fun w43 => (if cm_sh w43 a0 = some (.inl 4) then (if cm_w2 4 30 a0 = true then fn_86_36  cm_N a0 (0 : Int32) (cm_sI (cm_sI w43 a0 6 (0 : Int32)) a0 7 (-1 : Int32)) else none) else none) else none) else none) else none)
theorem jt_86_0 (a0 : Nat) (a1 : Nat) (i2 : Int32) (w : cm_W) : sm cm_g 86 ck_86 kq_86 0 [(0, .ref a0), (1, .ref a1), (2, .int i2)] [] w ((fn_86 a0 a1 i2 w).map cm_gI) := by
  unfold fn_86
  refine sm_seg 5 7 [(0, .ref a0), (1, .ref a1), (2, .int i2)] [.ref a1, .int (900 : Int32), .int i2, .ref a1, .ref a0] rfl ?_
  refine sm_len rfl rfl fun n34 h35 => ?_
  show sm _ _ _ _ 8 [(0, .ref a0), (1, .ref a1), (2, .int i2)] [.int (Int32.ofNat n34), .int (900 : Int32), .int i2, .ref a1, .ref a0] _ _
  refine sm_at rfl rfl rfl ?_
  show sm _ _ _ _ 11 [(0, .ref a0), (1, .ref a1), (2, .int i2)] [.int (if (Int32.ofNat n34) < (900 : Int32) then (Int32.ofNat n34) else (900 : Int32)), .int i2, .ref a1, .ref a0] _ _
  refine sm_at rfl rfl rfl ?_
  show sm _ _ _ _ 14 [(0, .ref a0), (1, .ref a1), (2, .int i2)] [.int (if (if (Int32.ofNat n34) < (900 : Int32) then (Int32.ofNat n34) else (900 : Int32)) < i2 then (if (Int32.ofNat n34) < (900 : Int32) then (Int32.ofNat n34) else (900 : Int32)) else i2), .ref a1, .ref a0] _ _
  refine sm_gd fun h36 => ?_
  refine sm_cV (as := [.ref a1, .int (if (if (Int32.ofNat n34) < (900 : Int32) then (Int32.ofNat n34) else (900 : Int32)) < i2 then (if (Int32.ofNat n34) < (900 : Int32) then (Int32.ofNat n34) else (900 : Int32)) else i2)]) (rest := []) rfl rfl rfl rfl h36 (Nat.le_of_ble_eq_true rfl) (ca_61  a0 a1 (if (if (Int32.ofNat n34) < (900 : Int32) then (Int32.ofNat n34) else (900 : Int32)) < i2 then (if (Int32.ofNat n34) < (900 : Int32) then (Int32.ofNat n34) else (900 : Int32)) else i2) w) fun w37 h38 => ?_
  show sm _ _ _ _ 17 [(0, .ref a0), (1, .ref a1), (2, .int i2)] [] _ _
  refine sm_seg 1 18 [(0, .ref a0), (1, .ref a1), (2, .int i2)] [.ref a0] rfl ?_
  refine sm_gd fun h39 => ?_
  refine sm_gR rfl h39 rfl rfl fun r40 h41 => ?_
  show sm _ _ _ _ 21 [(0, .ref a0), (1, .ref a1), (2, .int i2)] [.ref r40] _ _
  refine sm_gd fun h42 => ?_
  refine sm_cV (as := []) (rest := []) rfl rfl rfl rfl h42 (Nat.le_of_ble_eq_true rfl) (ca_63  r40 w37) fun w43 h44 => ?_
  show sm _ _ _ _ 24 [(0, .ref a0), (1, .ref a1), (2, .int i2)] [] _ _
  refine sm_seg 2 26 [(0, .ref a0), (1, .ref a1), (2, .int i2)] [.int (0 : Int32), .ref a0] rfl ?_
  refine sm_gd fun h45 => ?_
  refine sm_gd fun h46 => ?_
  refine sm_pI rfl h45 rfl h46 rfl ?_
  show sm _ _ _ _ 29 [(0, .ref a0), (1, .ref a1), (2, .int i2)] [] _ _
  refine sm_seg 2 31 [(0, .ref a0), (1, .ref a1), (2, .int i2)] [.int (-1 : Int32), .ref a0] rfl ?_
  refine sm_pI rfl h45 rfl h46 rfl ?_
  show sm _ _ _ _ 34 [(0, .ref a0), (1, .ref a1), (2, .int i2)] [] _ _
  refine sm_seg 2 36 [(0, .ref a0), (3, .int (0 : Int32))] [] rfl ?_
  exact jt_86_36  cm_N a0 (0 : Int32) (cm_sI (cm_sI w43 a0 6 (0 : Int32)) a0 7 (-1 : Int32))
theorem ca_86 (a0 : Nat) (a1 : Nat) (i2 : Int32) (w : cm_W) : cm_ca cm_g 86 [.ref a0, .ref a1, .int i2] w ((fn_86 a0 a1 i2 w).map cm_gI) := cm_ca_of (cm_me_of rfl rfl) rfl (jt_86_0 a0 a1 i2 w)
-- NailedBoxes$Sayings.prepare(LNailedBoxes$Village;II)V
def fn_88_83 (k_11 : Nat → Nat → Int32 → Int32 → Int32 → Int32 → cm_W → Option cm_W) (a0 : Nat) (a1 : Nat) (i2 : Int32) (i3 : Int32) (i4 : Int32) (i5 : Int32) (w : cm_W) : Option cm_W := k_11 a0 a1 i2 i3 i4 (i5 + (1 : Int32)) w
theorem jt_88_83 (k_11 : Nat → Nat → Int32 → Int32 → Int32 → Int32 → cm_W → Option cm_W) (hk_11 : ∀ (a0 : Nat) (a1 : Nat) (i2 : Int32) (i3 : Int32) (i4 : Int32) (i5 : Int32) (w : cm_W), sm cm_g 88 ck_88 kq_88 11 [(0, .ref a0), (1, .ref a1), (2, .int i2), (3, .int i3), (4, .int i4), (5, .int i5)] [] w ((k_11 a0 a1 i2 i3 i4 i5 w).map cm_gV)) (a0 : Nat) (a1 : Nat) (i2 : Int32) (i3 : Int32) (i4 : Int32) (i5 : Int32) (w : cm_W) : sm cm_g 88 ck_88 kq_88 83 [(0, .ref a0), (1, .ref a1), (2, .int i2), (3, .int i3), (4, .int i4), (5, .int i5)] [] w ((fn_88_83 k_11 a0 a1 i2 i3 i4 i5 w).map cm_gV) := by
  unfold fn_88_83
  refine sm_seg 2 11 [(0, .ref a0), (1, .ref a1), (2, .int i2), (3, .int i3), (4, .int i4), (5, .int (i5 + (1 : Int32)))] [] rfl ?_
  exact hk_11 a0 a1 i2 i3 i4 (i5 + (1 : Int32)) w
def fn_88_11 : Nat → Nat → Nat → Int32 → Int32 → Int32 → Int32 → cm_W → Option cm_W
  | 0, _, _, _, _, _, _, _ => none
  | n + 1, a0, a1, i2, i3, i4, i5, w => (if (8 : Int32) ≤ i5 then some w else (if cm_sh w a0 = some (.inl 5) then (cm_R w a0 0).bind fun r3 => (if cm_sh w a1 = some (.inl 9) then (fn_6 w a1 i5 i3).bind fun v6 => (if cm_ga w .int r3 i5 = true then (if cm_w2 55 58 r3 = true then (cm_R (cm_sI w r3 i5.toNatClampNeg v6) a0 1).bind fun r10 => (fn_8 (cm_sI w r3 i5.toNatClampNeg v6) a1 i2 i5).bind fun v12 => (if cm_ga w .int r10 i5 = true then (if cm_w2 55 58 r10 = true then (cm_R (cm_sI (cm_sI w r3 i5.toNatClampNeg v6) r10 i5.toNatClampNeg v12) a0 1).bind fun r16 => (if cm_ga w .int r16 i5 = true then (if (cm_I (cm_sI (cm_sI w r3 i5.toNatClampNeg v6) r10 i5.toNatClampNeg v12) r16 i5.toNatClampNeg) ≤ 0 then fn_88_83  (fn_88_11 n) a0 a1 i2 i3 i4 i5 (cm_sI (cm_sI w r3 i5.toNatClampNeg v6) r10 i5.toNatClampNeg v12) else (cm_R (cm_sI (cm_sI w r3 i5.toNatClampNeg v6) r10 i5.toNatClampNeg v12) a0 0).bind fun r20 => (if cm_ga w .int r20 i5 = true then (if (cm_I (cm_sI (cm_sI w r3 i5.toNatClampNeg v6) r10 i5.toNatClampNeg v12) r20 i5.toNatClampNeg) ≤ i4 then fn_88_83  (fn_88_11 n) a0 a1 i2 i3 i4 i5 (cm_sI (cm_sI w r3 i5.toNatClampNeg v6) r10 i5.toNatClampNeg v12) else (if cm_w2 55 58 a0 = true then (cm_R (cm_sI (cm_sI (cm_sI w r3 i5.toNatClampNeg v6) r10 i5.toNatClampNeg v12) a0 2 i5) a0 0).bind fun r25 => (if cm_ga w .int r25 i5 = true then fn_88_83  (fn_88_11 n) a0 a1 i2 i3 (cm_I (cm_sI (cm_sI (cm_sI w r3 i5.toNatClampNeg v6) r10 i5.toNatClampNeg v12) a0 2 i5) r25 i5.toNatClampNeg) i5 (cm_sI (cm_sI (cm_sI w r3 i5.toNatClampNeg v6) r10 i5.toNatClampNeg v12) a0 2 i5) else none) else none)) else none)) else none) else none) else none) else none) else none) else none) else none))
theorem jt_88_11 : ∀ (n : Nat) (a0 : Nat) (a1 : Nat) (i2 : Int32) (i3 : Int32) (i4 : Int32) (i5 : Int32) (w : cm_W), sm cm_g 88 ck_88 kq_88 11 [(0, .ref a0), (1, .ref a1), (2, .int i2), (3, .int i3), (4, .int i4), (5, .int i5)] [] w ((fn_88_11 n a0 a1 i2 i3 i4 i5 w).map cm_gV) := by
  intro n
  induction n with
  | zero => intro a0 a1 i2 i3 i4 i5 w; exact sm_no
  | succ n ih =>
    intro a0 a1 i2 i3 i4 i5 w
    rw [fn_88_11]
    refine sm_seg 2 15 [(0, .ref a0), (1, .ref a1), (2, .int i2), (3, .int i3), (4, .int i4), (5, .int i5)] [.int (8 : Int32), .int i5] rfl ?_
    refine sm_if (pc1 := 89) (lv1 := []) (pc2 := 18) (lv2 := [(0, .ref a0), (1, .ref a1), (2, .int i2), (3, .int i3), (4, .int i4), (5, .int i5)]) (st1 := []) rfl rfl rfl (fun h1 => ?_) (fun h1 => ?_)
    · exact sm_rV rfl rfl
    · refine sm_seg 1 19 [(0, .ref a0), (1, .ref a1), (2, .int i2), (3, .int i3), (4, .int i4), (5, .int i5)] [.ref a0] rfl ?_
      refine sm_gd fun h2 => ?_
      refine sm_gR rfl h2 rfl rfl fun r3 h4 => ?_
      show sm _ _ _ _ 22 [(0, .ref a0), (1, .ref a1), (2, .int i2), (3, .int i3), (4, .int i4), (5, .int i5)] [.ref r3] _ _
      refine sm_seg 4 28 [(0, .ref a0), (1, .ref a1), (2, .int i2), (3, .int i3), (4, .int i4), (5, .int i5)] [.int i3, .int i5, .ref a1, .int i5, .ref r3] rfl ?_
      refine sm_gd fun h5 => ?_
      refine sm_cV (as := [.int i5, .int i3]) (rest := [.int i5, .ref r3]) rfl rfl rfl rfl h5 (Nat.le_of_ble_eq_true rfl) (ca_6 w a1 i5 i3) fun v6 h7 => ?_
      show sm _ _ _ _ 31 [(0, .ref a0), (1, .ref a1), (2, .int i2), (3, .int i3), (4, .int i4), (5, .int i5)] [.int v6, .int i5, .ref r3] _ _
      refine sm_gd fun h8 => ?_
      refine sm_gd fun h9 => ?_
      refine sm_si rfl h8 h9 rfl rfl ?_
      show sm _ _ _ _ 32 [(0, .ref a0), (1, .ref a1), (2, .int i2), (3, .int i3), (4, .int i4), (5, .int i5)] [] _ _
      refine sm_seg 1 33 [(0, .ref a0), (1, .ref a1), (2, .int i2), (3, .int i3), (4, .int i4), (5, .int i5)] [.ref a0] rfl ?_
      refine sm_gR rfl h2 rfl rfl fun r10 h11 => ?_
      show sm _ _ _ _ 36 [(0, .ref a0), (1, .ref a1), (2, .int i2), (3, .int i3), (4, .int i4), (5, .int i5)] [.ref r10] _ _
      refine sm_seg 4 42 [(0, .ref a0), (1, .ref a1), (2, .int i2), (3, .int i3), (4, .int i4), (5, .int i5)] [.int i5, .int i2, .ref a1, .int i5, .ref r10] rfl ?_
      refine sm_cV (as := [.int i2, .int i5]) (rest := [.int i5, .ref r10]) rfl rfl rfl rfl h5 (Nat.le_of_ble_eq_true rfl) (ca_8 (cm_sI w r3 i5.toNatClampNeg v6) a1 i2 i5) fun v12 h13 => ?_
      show sm _ _ _ _ 45 [(0, .ref a0), (1, .ref a1), (2, .int i2), (3, .int i3), (4, .int i4), (5, .int i5)] [.int v12, .int i5, .ref r10] _ _
      refine sm_gd fun h14 => ?_
      refine sm_gd fun h15 => ?_
      refine sm_si rfl h14 h15 rfl rfl ?_
      show sm _ _ _ _ 46 [(0, .ref a0), (1, .ref a1), (2, .int i2), (3, .int i3), (4, .int i4), (5, .int i5)] [] _ _
      refine sm_seg 1 47 [(0, .ref a0), (1, .ref a1), (2, .int i2), (3, .int i3), (4, .int i4), (5, .int i5)] [.ref a0] rfl ?_
      refine sm_gR rfl h2 rfl rfl fun r16 h17 => ?_
      show sm _ _ _ _ 50 [(0, .ref a0), (1, .ref a1), (2, .int i2), (3, .int i3), (4, .int i4), (5, .int i5)] [.ref r16] _ _
      refine sm_seg 1 52 [(0, .ref a0), (1, .ref a1), (2, .int i2), (3, .int i3), (4, .int i4), (5, .int i5)] [.int i5, .ref r16] rfl ?_
      refine sm_gd fun h18 => ?_
      refine sm_ai rfl h18 rfl ?_
      show sm _ _ _ _ 53 [(0, .ref a0), (1, .ref a1), (2, .int i2), (3, .int i3), (4, .int i4), (5, .int i5)] [.int (cm_I (cm_sI (cm_sI w r3 i5.toNatClampNeg v6) r10 i5.toNatClampNeg v12) r16 i5.toNatClampNeg)] _ _
      refine sm_if (pc1 := 83) (lv1 := [(0, .ref a0), (1, .ref a1), (2, .int i2), (3, .int i3), (4, .int i4), (5, .int i5)]) (pc2 := 56) (lv2 := [(0, .ref a0), (1, .ref a1), (2, .int i2), (3, .int i3), (4, .int i4), (5, .int i5)]) (st1 := []) rfl rfl rfl (fun h19 => ?_) (fun h19 => ?_)
      · exact jt_88_83  (fn_88_11 n) ih a0 a1 i2 i3 i4 i5 (cm_sI (cm_sI w r3 i5.toNatClampNeg v6) r10 i5.toNatClampNeg v12)
      · refine sm_seg 1 57 [(0, .ref a0), (1, .ref a1), (2, .int i2), (3, .int i3), (4, .int i4), (5, .int i5)] [.ref a0] rfl ?_
        refine sm_gR rfl h2 rfl rfl fun r20 h21 => ?_
        show sm _ _ _ _ 60 [(0, .ref a0), (1, .ref a1), (2, .int i2), (3, .int i3), (4, .int i4), (5, .int i5)] [.ref r20] _ _
        refine sm_seg 1 62 [(0, .ref a0), (1, .ref a1), (2, .int i2), (3, .int i3), (4, .int i4), (5, .int i5)] [.int i5, .ref r20] rfl ?_
        refine sm_gd fun h22 => ?_
        refine sm_ai rfl h22 rfl ?_
        show sm _ _ _ _ 63 [(0, .ref a0), (1, .ref a1), (2, .int i2), (3, .int i3), (4, .int i4), (5, .int i5)] [.int (cm_I (cm_sI (cm_sI w r3 i5.toNatClampNeg v6) r10 i5.toNatClampNeg v12) r20 i5.toNatClampNeg)] _ _
        refine sm_seg 1 65 [(0, .ref a0), (1, .ref a1), (2, .int i2), (3, .int i3), (4, .int i4), (5, .int i5)] [.int i4, .int (cm_I (cm_sI (cm_sI w r3 i5.toNatClampNeg v6) r10 i5.toNatClampNeg v12) r20 i5.toNatClampNeg)] rfl ?_
        refine sm_if (pc1 := 83) (lv1 := [(0, .ref a0), (1, .ref a1), (2, .int i2), (3, .int i3), (4, .int i4), (5, .int i5)]) (pc2 := 68) (lv2 := [(0, .ref a0), (1, .ref a1), (2, .int i2), (3, .int i3), (4, .int i4), (5, .int i5)]) (st1 := []) rfl rfl rfl (fun h23 => ?_) (fun h23 => ?_)
        · exact jt_88_83  (fn_88_11 n) ih a0 a1 i2 i3 i4 i5 (cm_sI (cm_sI w r3 i5.toNatClampNeg v6) r10 i5.toNatClampNeg v12)
        · refine sm_seg 2 71 [(0, .ref a0), (1, .ref a1), (2, .int i2), (3, .int i3), (4, .int i4), (5, .int i5)] [.int i5, .ref a0] rfl ?_
          refine sm_gd fun h24 => ?_
          refine sm_pI rfl h2 rfl h24 rfl ?_
          show sm _ _ _ _ 74 [(0, .ref a0), (1, .ref a1), (2, .int i2), (3, .int i3), (4, .int i4), (5, .int i5)] [] _ _
          refine sm_seg 1 75 [(0, .ref a0), (1, .ref a1), (2, .int i2), (3, .int i3), (4, .int i4), (5, .int i5)] [.ref a0] rfl ?_
          refine sm_gR rfl h2 rfl rfl fun r25 h26 => ?_
          show sm _ _ _ _ 78 [(0, .ref a0), (1, .ref a1), (2, .int i2), (3, .int i3), (4, .int i4), (5, .int i5)] [.ref r25] _ _
          refine sm_seg 1 80 [(0, .ref a0), (1, .ref a1), (2, .int i2), (3, .int i3), (4, .int i4), (5, .int i5)] [.int i5, .ref r25] rfl ?_
          refine sm_gd fun h27 => ?_
          refine sm_ai rfl h27 rfl ?_
          show sm _ _ _ _ 81 [(0, .ref a0), (1, .ref a1), (2, .int i2), (3, .int i3), (4, .int i4), (5, .int i5)] [.int (cm_I (cm_sI (cm_sI (cm_sI w r3 i5.toNatClampNeg v6) r10 i5.toNatClampNeg v12) a0 2 i5) r25 i5.toNatClampNeg)] _ _
          refine sm_seg 1 83 [(0, .ref a0), (1, .ref a1), (2, .int i2), (3, .int i3), (4, .int (cm_I (cm_sI (cm_sI (cm_sI w r3 i5.toNatClampNeg v6) r10 i5.toNatClampNeg v12) a0 2 i5) r25 i5.toNatClampNeg)), (5, .int i5)] [] rfl ?_
          exact jt_88_83  (fn_88_11 n) ih a0 a1 i2 i3 (cm_I (cm_sI (cm_sI (cm_sI w r3 i5.toNatClampNeg v6) r10 i5.toNatClampNeg v12) a0 2 i5) r25 i5.toNatClampNeg) i5 (cm_sI (cm_sI (cm_sI w r3 i5.toNatClampNeg v6) r10 i5.toNatClampNeg v12) a0 2 i5)
def fn_88 (a0 : Nat) (a1 : Nat) (i2 : Int32) (i3 : Int32) (w : cm_W) : Option cm_W := (if cm_sh w a0 = some (.inl 5) then (if cm_w2 55 58 a0 = true then fn_88_11  cm_N a0 a1 i2 i3 (-1 : Int32) (0 : Int32) (cm_sI w a0 2 (-1 : Int32)) else none) else none)
theorem jt_88_0 (a0 : Nat) (a1 : Nat) (i2 : Int32) (i3 : Int32) (w : cm_W) : sm cm_g 88 ck_88 kq_88 0 [(0, .ref a0), (1, .ref a1), (2, .int i2), (3, .int i3)] [] w ((fn_88 a0 a1 i2 i3 w).map cm_gV) := by
  unfold fn_88
  refine sm_seg 2 2 [(0, .ref a0), (1, .ref a1), (2, .int i2), (3, .int i3)] [.int (-1 : Int32), .ref a0] rfl ?_
  refine sm_gd fun h28 => ?_
  refine sm_gd fun h29 => ?_
  refine sm_pI rfl h28 rfl h29 rfl ?_
  show sm _ _ _ _ 5 [(0, .ref a0), (1, .ref a1), (2, .int i2), (3, .int i3)] [] _ _
  refine sm_seg 4 11 [(0, .ref a0), (1, .ref a1), (2, .int i2), (3, .int i3), (4, .int (-1 : Int32)), (5, .int (0 : Int32))] [] rfl ?_
  exact jt_88_11  cm_N a0 a1 i2 i3 (-1 : Int32) (0 : Int32) (cm_sI w a0 2 (-1 : Int32))
theorem ca_88 (a0 : Nat) (a1 : Nat) (i2 : Int32) (i3 : Int32) (w : cm_W) : cm_ca cm_g 88 [.ref a0, .ref a1, .int i2, .int i3] w ((fn_88 a0 a1 i2 i3 w).map cm_gV) := cm_ca_of (cm_me_of rfl rfl) rfl (jt_88_0 a0 a1 i2 i3 w)
-- NailedBoxes$Sayings.leastWithout(I)I
def fn_89_69 (w : cm_W) (k_4 : Nat → Int32 → Int32 → Int32 → Option Int32) (a0 : Nat) (i1 : Int32) (i2 : Int32) (i3 : Int32) : Option Int32 := k_4 a0 i1 i2 (i3 + (1 : Int32))
theorem jt_89_69 (w : cm_W) (k_4 : Nat → Int32 → Int32 → Int32 → Option Int32) (hk_4 : ∀ (a0 : Nat) (i1 : Int32) (i2 : Int32) (i3 : Int32), sm cm_g 89 ck_89 kq_89 4 [(0, .ref a0), (1, .int i1), (2, .int i2), (3, .int i3)] [] w ((k_4 a0 i1 i2 i3).map (cm_fI w))) (a0 : Nat) (i1 : Int32) (i2 : Int32) (i3 : Int32) : sm cm_g 89 ck_89 kq_89 69 [(0, .ref a0), (1, .int i1), (2, .int i2), (3, .int i3)] [] w ((fn_89_69 w k_4 a0 i1 i2 i3).map (cm_fI w)) := by
  unfold fn_89_69
  refine sm_seg 2 4 [(0, .ref a0), (1, .int i1), (2, .int i2), (3, .int (i3 + (1 : Int32)))] [] rfl ?_
  exact hk_4 a0 i1 i2 (i3 + (1 : Int32))
def fn_89_67 (w : cm_W) (k_4 : Nat → Int32 → Int32 → Int32 → Option Int32) (a0 : Nat) (i1 : Int32) (i3 : Int32) : Option Int32 := fn_89_69 w k_4 a0 i1 i3 i3
theorem jt_89_67 (w : cm_W) (k_4 : Nat → Int32 → Int32 → Int32 → Option Int32) (hk_4 : ∀ (a0 : Nat) (i1 : Int32) (i2 : Int32) (i3 : Int32), sm cm_g 89 ck_89 kq_89 4 [(0, .ref a0), (1, .int i1), (2, .int i2), (3, .int i3)] [] w ((k_4 a0 i1 i2 i3).map (cm_fI w))) (a0 : Nat) (i1 : Int32) (i3 : Int32) : sm cm_g 89 ck_89 kq_89 67 [(0, .ref a0), (1, .int i1), (3, .int i3)] [] w ((fn_89_67 w k_4 a0 i1 i3).map (cm_fI w)) := by
  unfold fn_89_67
  refine sm_seg 2 69 [(0, .ref a0), (1, .int i1), (2, .int i3), (3, .int i3)] [] rfl ?_
  exact jt_89_69 w k_4 hk_4 a0 i1 i3 i3
def fn_89_39 (w : cm_W) (k_4 : Nat → Int32 → Int32 → Int32 → Option Int32) (a0 : Nat) (i1 : Int32) (i2 : Int32) (i3 : Int32) : Option Int32 := fn_89_69 w k_4 a0 i1 i2 i3
theorem jt_89_39 (w : cm_W) (k_4 : Nat → Int32 → Int32 → Int32 → Option Int32) (hk_4 : ∀ (a0 : Nat) (i1 : Int32) (i2 : Int32) (i3 : Int32), sm cm_g 89 ck_89 kq_89 4 [(0, .ref a0), (1, .int i1), (2, .int i2), (3, .int i3)] [] w ((k_4 a0 i1 i2 i3).map (cm_fI w))) (a0 : Nat) (i1 : Int32) (i2 : Int32) (i3 : Int32) : sm cm_g 89 ck_89 kq_89 39 [(0, .ref a0), (1, .int i1), (2, .int i2), (3, .int i3)] [] w ((fn_89_39 w k_4 a0 i1 i2 i3).map (cm_fI w)) := by
  unfold fn_89_39
  refine sm_seg 3 44 [(4, .int (0 : Int32)), (0, .ref a0), (1, .int i1), (2, .int i2), (3, .int i3)] [.int (0 : Int32)] rfl ?_
  refine sm_ift (c := (0 : Int32) = 0) (pc1 := 69) (pc2 := 47) (lv1 := [(0, .ref a0), (1, .int i1), (2, .int i2), (3, .int i3)]) (st1 := []) rfl (by decide) rfl ?_
  exact jt_89_69 w k_4 hk_4 a0 i1 i2 i3
def fn_89_4 (w : cm_W) : Nat → Nat → Int32 → Int32 → Int32 → Option Int32
  | 0, _, _, _, _ => none
  | n + 1, a0, i1, i2, i3 => (if (8 : Int32) ≤ i3 then some i2 else (if cm_sh w a0 = some (.inl 5) then (cm_R w a0 1).bind fun r3 => (if cm_ga w .int r3 i3 = true then (if (cm_I w r3 i3.toNatClampNeg) ≤ 0 then fn_89_39 w (fn_89_4 w n) a0 i1 i2 i3 else (if i3 = (cm_I w a0 2) then fn_89_39 w (fn_89_4 w n) a0 i1 i2 i3 else (if ¬ ((i1 >>> (i3 &&& 31)) &&& (1 : Int32)) = 0 then fn_89_39 w (fn_89_4 w n) a0 i1 i2 i3 else (if i2 = (-1 : Int32) then fn_89_67 w (fn_89_4 w n) a0 i1 i3 else (cm_R w a0 0).bind fun r10 => (if cm_ga w .int r10 i3 = true then (cm_R w a0 0).bind fun r13 => (if cm_ga w .int r13 i2 = true then (if (cm_I w r13 i2.toNatClampNeg) ≤ (cm_I w r10 i3.toNatClampNeg) then fn_89_69 w (fn_89_4 w n) a0 i1 i2 i3 else fn_89_67 w (fn_89_4 w n) a0 i1 i3) else none) else none))))) else none) else none))
theorem jt_89_4 (w : cm_W) : ∀ (n : Nat) (a0 : Nat) (i1 : Int32) (i2 : Int32) (i3 : Int32), sm cm_g 89 ck_89 kq_89 4 [(0, .ref a0), (1, .int i1), (2, .int i2), (3, .int i3)] [] w ((fn_89_4 w n a0 i1 i2 i3).map (cm_fI w)) := by
  intro n
  induction n with
  | zero => intro a0 i1 i2 i3; exact sm_no
  | succ n ih =>
    intro a0 i1 i2 i3
    rw [fn_89_4]
    refine sm_seg 2 7 [(0, .ref a0), (1, .int i1), (2, .int i2), (3, .int i3)] [.int (8 : Int32), .int i3] rfl ?_
    refine sm_if (pc1 := 75) (lv1 := [(2, .int i2)]) (pc2 := 10) (lv2 := [(0, .ref a0), (1, .int i1), (2, .int i2), (3, .int i3)]) (st1 := []) rfl rfl rfl (fun h1 => ?_) (fun h1 => ?_)
    · refine sm_seg 1 76 [(2, .int i2)] [.int i2] rfl ?_
      exact sm_rI rfl rfl
    · refine sm_seg 1 11 [(0, .ref a0), (1, .int i1), (2, .int i2), (3, .int i3)] [.ref a0] rfl ?_
      refine sm_gd fun h2 => ?_
      refine sm_gR rfl h2 rfl rfl fun r3 h4 => ?_
      show sm _ _ _ _ 14 [(0, .ref a0), (1, .int i1), (2, .int i2), (3, .int i3)] [.ref r3] _ _
      refine sm_seg 1 15 [(0, .ref a0), (1, .int i1), (2, .int i2), (3, .int i3)] [.int i3, .ref r3] rfl ?_
      refine sm_gd fun h5 => ?_
      refine sm_ai rfl h5 rfl ?_
      show sm _ _ _ _ 16 [(0, .ref a0), (1, .int i1), (2, .int i2), (3, .int i3)] [.int (cm_I w r3 i3.toNatClampNeg)] _ _
      refine sm_if (pc1 := 39) (lv1 := [(0, .ref a0), (1, .int i1), (2, .int i2), (3, .int i3)]) (pc2 := 19) (lv2 := [(0, .ref a0), (1, .int i1), (2, .int i2), (3, .int i3)]) (st1 := []) rfl rfl rfl (fun h6 => ?_) (fun h6 => ?_)
      · exact jt_89_39 w (fn_89_4 w n) ih a0 i1 i2 i3
      · refine sm_seg 2 21 [(0, .ref a0), (1, .int i1), (2, .int i2), (3, .int i3)] [.ref a0, .int i3] rfl ?_
        refine sm_gI rfl h2 rfl ?_
        show sm _ _ _ _ 24 [(0, .ref a0), (1, .int i1), (2, .int i2), (3, .int i3)] [.int (cm_I w a0 2), .int i3] _ _
        refine sm_if (pc1 := 39) (lv1 := [(0, .ref a0), (1, .int i1), (2, .int i2), (3, .int i3)]) (pc2 := 27) (lv2 := [(0, .ref a0), (1, .int i1), (2, .int i2), (3, .int i3)]) (st1 := []) rfl rfl rfl (fun h7 => ?_) (fun h7 => ?_)
        · exact jt_89_39 w (fn_89_4 w n) ih a0 i1 i2 i3
        · refine sm_seg 5 32 [(0, .ref a0), (1, .int i1), (2, .int i2), (3, .int i3)] [.int ((i1 >>> (i3 &&& 31)) &&& (1 : Int32))] rfl ?_
          refine sm_if (pc1 := 39) (lv1 := [(0, .ref a0), (1, .int i1), (2, .int i2), (3, .int i3)]) (pc2 := 35) (lv2 := [(0, .ref a0), (1, .int i1), (2, .int i2), (3, .int i3)]) (st1 := []) rfl rfl rfl (fun h8 => ?_) (fun h8 => ?_)
          · exact jt_89_39 w (fn_89_4 w n) ih a0 i1 i2 i3
          · refine sm_seg 4 44 [(4, .int (1 : Int32)), (0, .ref a0), (1, .int i1), (2, .int i2), (3, .int i3)] [.int (1 : Int32)] rfl ?_
            refine sm_iff (c := (1 : Int32) = 0) (pc1 := 69) (pc2 := 47) (lv1 := [(4, .int (1 : Int32)), (0, .ref a0), (1, .int i1), (2, .int i2), (3, .int i3)]) (st1 := []) rfl (by decide) rfl ?_
            refine sm_seg 2 49 [(4, .int (1 : Int32)), (0, .ref a0), (1, .int i1), (2, .int i2), (3, .int i3)] [.int (-1 : Int32), .int i2] rfl ?_
            refine sm_if (pc1 := 67) (lv1 := [(0, .ref a0), (1, .int i1), (3, .int i3)]) (pc2 := 52) (lv2 := [(4, .int (1 : Int32)), (0, .ref a0), (1, .int i1), (2, .int i2), (3, .int i3)]) (st1 := []) rfl rfl rfl (fun h9 => ?_) (fun h9 => ?_)
            · exact jt_89_67 w (fn_89_4 w n) ih a0 i1 i3
            · refine sm_seg 1 53 [(4, .int (1 : Int32)), (0, .ref a0), (1, .int i1), (2, .int i2), (3, .int i3)] [.ref a0] rfl ?_
              refine sm_gR rfl h2 rfl rfl fun r10 h11 => ?_
              show sm _ _ _ _ 56 [(4, .int (1 : Int32)), (0, .ref a0), (1, .int i1), (2, .int i2), (3, .int i3)] [.ref r10] _ _
              refine sm_seg 1 57 [(4, .int (1 : Int32)), (0, .ref a0), (1, .int i1), (2, .int i2), (3, .int i3)] [.int i3, .ref r10] rfl ?_
              refine sm_gd fun h12 => ?_
              refine sm_ai rfl h12 rfl ?_
              show sm _ _ _ _ 58 [(4, .int (1 : Int32)), (0, .ref a0), (1, .int i1), (2, .int i2), (3, .int i3)] [.int (cm_I w r10 i3.toNatClampNeg)] _ _
              refine sm_seg 1 59 [(4, .int (1 : Int32)), (0, .ref a0), (1, .int i1), (2, .int i2), (3, .int i3)] [.ref a0, .int (cm_I w r10 i3.toNatClampNeg)] rfl ?_
              refine sm_gR rfl h2 rfl rfl fun r13 h14 => ?_
              show sm _ _ _ _ 62 [(4, .int (1 : Int32)), (0, .ref a0), (1, .int i1), (2, .int i2), (3, .int i3)] [.ref r13, .int (cm_I w r10 i3.toNatClampNeg)] _ _
              refine sm_seg 1 63 [(4, .int (1 : Int32)), (0, .ref a0), (1, .int i1), (2, .int i2), (3, .int i3)] [.int i2, .ref r13, .int (cm_I w r10 i3.toNatClampNeg)] rfl ?_
              refine sm_gd fun h15 => ?_
              refine sm_ai rfl h15 rfl ?_
              show sm _ _ _ _ 64 [(4, .int (1 : Int32)), (0, .ref a0), (1, .int i1), (2, .int i2), (3, .int i3)] [.int (cm_I w r13 i2.toNatClampNeg), .int (cm_I w r10 i3.toNatClampNeg)] _ _
              refine sm_if (pc1 := 69) (lv1 := [(0, .ref a0), (1, .int i1), (2, .int i2), (3, .int i3)]) (pc2 := 67) (lv2 := [(0, .ref a0), (1, .int i1), (3, .int i3)]) (st1 := []) rfl rfl rfl (fun h16 => ?_) (fun h16 => ?_)
              · exact jt_89_69 w (fn_89_4 w n) ih a0 i1 i2 i3
              · exact jt_89_67 w (fn_89_4 w n) ih a0 i1 i3
def fn_89 (w : cm_W) (a0 : Nat) (i1 : Int32) : Option Int32 := fn_89_4 w cm_N a0 i1 (-1 : Int32) (0 : Int32)
theorem jt_89_0 (w : cm_W) (a0 : Nat) (i1 : Int32) : sm cm_g 89 ck_89 kq_89 0 [(0, .ref a0), (1, .int i1)] [] w ((fn_89 w a0 i1).map (cm_fI w)) := by
  unfold fn_89
  refine sm_seg 4 4 [(0, .ref a0), (1, .int i1), (2, .int (-1 : Int32)), (3, .int (0 : Int32))] [] rfl ?_
  exact jt_89_4 w cm_N a0 i1 (-1 : Int32) (0 : Int32)
theorem ca_89 (w : cm_W) (a0 : Nat) (i1 : Int32) : cm_ca cm_g 89 [.ref a0, .int i1] w ((fn_89 w a0 i1).map (cm_fI w)) := cm_ca_of (cm_me_of rfl rfl) rfl (jt_89_0 w a0 i1)
-- NailedBoxes$Sayings.honestCost()I
def fn_90_23 (w : cm_W) (a0 : Nat) (i1 : Int32) : Option Int32 := (if cm_sh w a0 = some (.inl 5) then (cm_R w a0 0).bind fun r2 => (if cm_ga w .int r2 (cm_I w a0 2) = true then (cm_R w a0 0).bind fun r5 => (if cm_ga w .int r5 i1 = true then some ((cm_I w r2 (cm_I w a0 2).toNatClampNeg) - (cm_I w r5 i1.toNatClampNeg)) else none) else none) else none)
theorem jt_90_23 (w : cm_W) (a0 : Nat) (i1 : Int32) : sm cm_g 90 ck_90 kq_90 23 [(0, .ref a0), (1, .int i1)] [] w ((fn_90_23 w a0 i1).map (cm_fI w)) := by
  unfold fn_90_23
  refine sm_seg 1 24 [(0, .ref a0), (1, .int i1)] [.ref a0] rfl ?_
  refine sm_gd fun h1 => ?_
  refine sm_gR rfl h1 rfl rfl fun r2 h3 => ?_
  show sm _ _ _ _ 27 [(0, .ref a0), (1, .int i1)] [.ref r2] _ _
  refine sm_seg 1 28 [(0, .ref a0), (1, .int i1)] [.ref a0, .ref r2] rfl ?_
  refine sm_gI rfl h1 rfl ?_
  show sm _ _ _ _ 31 [(0, .ref a0), (1, .int i1)] [.int (cm_I w a0 2), .ref r2] _ _
  refine sm_gd fun h4 => ?_
  refine sm_ai rfl h4 rfl ?_
  show sm _ _ _ _ 32 [(0, .ref a0), (1, .int i1)] [.int (cm_I w r2 (cm_I w a0 2).toNatClampNeg)] _ _
  refine sm_seg 1 33 [(0, .ref a0), (1, .int i1)] [.ref a0, .int (cm_I w r2 (cm_I w a0 2).toNatClampNeg)] rfl ?_
  refine sm_gR rfl h1 rfl rfl fun r5 h6 => ?_
  show sm _ _ _ _ 36 [(0, .ref a0), (1, .int i1)] [.ref r5, .int (cm_I w r2 (cm_I w a0 2).toNatClampNeg)] _ _
  refine sm_seg 1 37 [(0, .ref a0), (1, .int i1)] [.int i1, .ref r5, .int (cm_I w r2 (cm_I w a0 2).toNatClampNeg)] rfl ?_
  refine sm_gd fun h7 => ?_
  refine sm_ai rfl h7 rfl ?_
  show sm _ _ _ _ 38 [(0, .ref a0), (1, .int i1)] [.int (cm_I w r5 i1.toNatClampNeg), .int (cm_I w r2 (cm_I w a0 2).toNatClampNeg)] _ _
  refine sm_seg 1 39 [] [.int ((cm_I w r2 (cm_I w a0 2).toNatClampNeg) - (cm_I w r5 i1.toNatClampNeg))] rfl ?_
  exact sm_rI rfl rfl
def fn_90 (w : cm_W) (a0 : Nat) : Option Int32 := (if cm_sh w a0 = some (.inl 5) then (fn_89 w a0 (0 : Int32)).bind fun v9 => (if v9 = (-1 : Int32) then some (0 : Int32) else (if ¬ (cm_I w a0 2) = (-1 : Int32) then fn_90_23 w a0 v9 else some (0 : Int32))) else none)
theorem jt_90_0 (w : cm_W) (a0 : Nat) : sm cm_g 90 ck_90 kq_90 0 [(0, .ref a0)] [] w ((fn_90 w a0).map (cm_fI w)) := by
  unfold fn_90
  refine sm_seg 2 2 [(0, .ref a0)] [.int (0 : Int32), .ref a0] rfl ?_
  refine sm_gd fun h8 => ?_
  refine sm_cV (as := [.int (0 : Int32)]) (rest := []) rfl rfl rfl rfl h8 (Nat.le_of_ble_eq_true rfl) (ca_89 w a0 (0 : Int32)) fun v9 h10 => ?_
  show sm _ _ _ _ 5 [(0, .ref a0)] [.int v9] _ _
  refine sm_seg 3 8 [(1, .int v9), (0, .ref a0)] [.int (-1 : Int32), .int v9] rfl ?_
  refine sm_if (pc1 := 19) (lv1 := []) (pc2 := 11) (lv2 := [(1, .int v9), (0, .ref a0)]) (st1 := []) rfl rfl rfl (fun h11 => ?_) (fun h11 => ?_)
  · refine sm_seg 2 39 [] [.int (0 : Int32)] rfl ?_
    exact sm_rI rfl rfl
  · refine sm_seg 1 12 [(1, .int v9), (0, .ref a0)] [.ref a0] rfl ?_
    refine sm_gI rfl h8 rfl ?_
    show sm _ _ _ _ 15 [(1, .int v9), (0, .ref a0)] [.int (cm_I w a0 2)] _ _
    refine sm_seg 1 16 [(1, .int v9), (0, .ref a0)] [.int (-1 : Int32), .int (cm_I w a0 2)] rfl ?_
    refine sm_if (pc1 := 23) (lv1 := [(0, .ref a0), (1, .int v9)]) (pc2 := 19) (lv2 := []) (st1 := []) rfl rfl rfl (fun h12 => ?_) (fun h12 => ?_)
    · exact jt_90_23 w a0 v9
    · refine sm_seg 2 39 [] [.int (0 : Int32)] rfl ?_
      exact sm_rI rfl rfl
theorem ca_90 (w : cm_W) (a0 : Nat) : cm_ca cm_g 90 [.ref a0] w ((fn_90 w a0).map (cm_fI w)) := cm_ca_of (cm_me_of rfl rfl) rfl (jt_90_0 w a0)
-- NailedBoxes$Sayings.meanWithTop(I)I
def fn_91_67 (w : cm_W) (k_8 : Nat → Int32 → Int64 → Int64 → Int32 → Option Int32) (a0 : Nat) (i1 : Int32) (j2 : Int64) (j4 : Int64) (i6 : Int32) : Option Int32 := k_8 a0 i1 j2 j4 (i6 + (1 : Int32))
theorem jt_91_67 (w : cm_W) (k_8 : Nat → Int32 → Int64 → Int64 → Int32 → Option Int32) (hk_8 : ∀ (a0 : Nat) (i1 : Int32) (j2 : Int64) (j4 : Int64) (i6 : Int32), sm cm_g 91 ck_91 kq_91 8 [(0, .ref a0), (1, .int i1), (2, .long j2), (4, .long j4), (6, .int i6)] [] w ((k_8 a0 i1 j2 j4 i6).map (cm_fI w))) (a0 : Nat) (i1 : Int32) (j2 : Int64) (j4 : Int64) (i6 : Int32) : sm cm_g 91 ck_91 kq_91 67 [(0, .ref a0), (1, .int i1), (2, .long j2), (4, .long j4), (6, .int i6)] [] w ((fn_91_67 w k_8 a0 i1 j2 j4 i6).map (cm_fI w)) := by
  unfold fn_91_67
  refine sm_seg 2 8 [(0, .ref a0), (1, .int i1), (2, .long j2), (4, .long j4), (6, .int (i6 + (1 : Int32)))] [] rfl ?_
  exact hk_8 a0 i1 j2 j4 (i6 + (1 : Int32))
def fn_91_34 (w : cm_W) (k_8 : Nat → Int32 → Int64 → Int64 → Int32 → Option Int32) (a0 : Nat) (i1 : Int32) (j2 : Int64) (j4 : Int64) (i6 : Int32) : Option Int32 := (if cm_sh w a0 = some (.inl 5) then (cm_R w a0 1).bind fun r2 => (if cm_ga w .int r2 i6 = true then (cm_R w a0 1).bind fun r5 => (if cm_ga w .int r5 i6 = true then (cm_R w a0 0).bind fun r8 => (if cm_ga w .int r8 i6 = true then fn_91_67 w k_8 a0 i1 (j2 + (Int32.toInt64 (cm_I w r2 i6.toNatClampNeg))) (j4 + ((Int32.toInt64 (cm_I w r5 i6.toNatClampNeg)) * (Int32.toInt64 (cm_I w r8 i6.toNatClampNeg)))) i6 else none) else none) else none) else none)
theorem jt_91_34 (w : cm_W) (k_8 : Nat → Int32 → Int64 → Int64 → Int32 → Option Int32) (hk_8 : ∀ (a0 : Nat) (i1 : Int32) (j2 : Int64) (j4 : Int64) (i6 : Int32), sm cm_g 91 ck_91 kq_91 8 [(0, .ref a0), (1, .int i1), (2, .long j2), (4, .long j4), (6, .int i6)] [] w ((k_8 a0 i1 j2 j4 i6).map (cm_fI w))) (a0 : Nat) (i1 : Int32) (j2 : Int64) (j4 : Int64) (i6 : Int32) : sm cm_g 91 ck_91 kq_91 34 [(0, .ref a0), (1, .int i1), (2, .long j2), (4, .long j4), (6, .int i6)] [] w ((fn_91_34 w k_8 a0 i1 j2 j4 i6).map (cm_fI w)) := by
  unfold fn_91_34
  refine sm_seg 2 36 [(0, .ref a0), (1, .int i1), (2, .long j2), (4, .long j4), (6, .int i6)] [.ref a0, .long j2] rfl ?_
  refine sm_gd fun h1 => ?_
  refine sm_gR rfl h1 rfl rfl fun r2 h3 => ?_
  show sm _ _ _ _ 39 [(0, .ref a0), (1, .int i1), (2, .long j2), (4, .long j4), (6, .int i6)] [.ref r2, .long j2] _ _
  refine sm_seg 1 41 [(0, .ref a0), (1, .int i1), (2, .long j2), (4, .long j4), (6, .int i6)] [.int i6, .ref r2, .long j2] rfl ?_
  refine sm_gd fun h4 => ?_
  refine sm_ai rfl h4 rfl ?_
  show sm _ _ _ _ 42 [(0, .ref a0), (1, .int i1), (2, .long j2), (4, .long j4), (6, .int i6)] [.int (cm_I w r2 i6.toNatClampNeg), .long j2] _ _
  refine sm_seg 5 48 [(2, .long (j2 + (Int32.toInt64 (cm_I w r2 i6.toNatClampNeg)))), (0, .ref a0), (1, .int i1), (4, .long j4), (6, .int i6)] [.ref a0, .long j4] rfl ?_
  refine sm_gR rfl h1 rfl rfl fun r5 h6 => ?_
  show sm _ _ _ _ 51 [(2, .long (j2 + (Int32.toInt64 (cm_I w r2 i6.toNatClampNeg)))), (0, .ref a0), (1, .int i1), (4, .long j4), (6, .int i6)] [.ref r5, .long j4] _ _
  refine sm_seg 1 53 [(2, .long (j2 + (Int32.toInt64 (cm_I w r2 i6.toNatClampNeg)))), (0, .ref a0), (1, .int i1), (4, .long j4), (6, .int i6)] [.int i6, .ref r5, .long j4] rfl ?_
  refine sm_gd fun h7 => ?_
  refine sm_ai rfl h7 rfl ?_
  show sm _ _ _ _ 54 [(2, .long (j2 + (Int32.toInt64 (cm_I w r2 i6.toNatClampNeg)))), (0, .ref a0), (1, .int i1), (4, .long j4), (6, .int i6)] [.int (cm_I w r5 i6.toNatClampNeg), .long j4] _ _
  refine sm_seg 2 56 [(2, .long (j2 + (Int32.toInt64 (cm_I w r2 i6.toNatClampNeg)))), (0, .ref a0), (1, .int i1), (4, .long j4), (6, .int i6)] [.ref a0, .long (Int32.toInt64 (cm_I w r5 i6.toNatClampNeg)), .long j4] rfl ?_
  refine sm_gR rfl h1 rfl rfl fun r8 h9 => ?_
  show sm _ _ _ _ 59 [(2, .long (j2 + (Int32.toInt64 (cm_I w r2 i6.toNatClampNeg)))), (0, .ref a0), (1, .int i1), (4, .long j4), (6, .int i6)] [.ref r8, .long (Int32.toInt64 (cm_I w r5 i6.toNatClampNeg)), .long j4] _ _
  refine sm_seg 1 61 [(2, .long (j2 + (Int32.toInt64 (cm_I w r2 i6.toNatClampNeg)))), (0, .ref a0), (1, .int i1), (4, .long j4), (6, .int i6)] [.int i6, .ref r8, .long (Int32.toInt64 (cm_I w r5 i6.toNatClampNeg)), .long j4] rfl ?_
  refine sm_gd fun h10 => ?_
  refine sm_ai rfl h10 rfl ?_
  show sm _ _ _ _ 62 [(2, .long (j2 + (Int32.toInt64 (cm_I w r2 i6.toNatClampNeg)))), (0, .ref a0), (1, .int i1), (4, .long j4), (6, .int i6)] [.int (cm_I w r8 i6.toNatClampNeg), .long (Int32.toInt64 (cm_I w r5 i6.toNatClampNeg)), .long j4] _ _
  refine sm_seg 4 67 [(0, .ref a0), (1, .int i1), (2, .long (j2 + (Int32.toInt64 (cm_I w r2 i6.toNatClampNeg)))), (4, .long (j4 + ((Int32.toInt64 (cm_I w r5 i6.toNatClampNeg)) * (Int32.toInt64 (cm_I w r8 i6.toNatClampNeg))))), (6, .int i6)] [] rfl ?_
  exact jt_91_67 w k_8 hk_8 a0 i1 (j2 + (Int32.toInt64 (cm_I w r2 i6.toNatClampNeg))) (j4 + ((Int32.toInt64 (cm_I w r5 i6.toNatClampNeg)) * (Int32.toInt64 (cm_I w r8 i6.toNatClampNeg)))) i6
def fn_91_73 (w : cm_W) (j2 : Int64) (j4 : Int64) : Option Int32 := (if (lg_cmp j2 (0 : Int64)) ≤ 0 then some (0 : Int32) else (if ¬ j2 = 0 then some (Int64.toInt32 (j4 / j2)) else none))
theorem jt_91_73 (w : cm_W) (j2 : Int64) (j4 : Int64) : sm cm_g 91 ck_91 kq_91 73 [(2, .long j2), (4, .long j4)] [] w ((fn_91_73 w j2 j4).map (cm_fI w)) := by
  unfold fn_91_73
  refine sm_seg 3 76 [(2, .long j2), (4, .long j4)] [.int (lg_cmp j2 (0 : Int64))] rfl ?_
  refine sm_if (pc1 := 87) (lv1 := []) (pc2 := 79) (lv2 := [(2, .long j2), (4, .long j4)]) (st1 := []) rfl rfl rfl (fun h11 => ?_) (fun h11 => ?_)
  · refine sm_seg 1 88 [] [.int (0 : Int32)] rfl ?_
    exact sm_rI rfl rfl
  · refine sm_seg 2 82 [(2, .long j2), (4, .long j4)] [.long j2, .long j4] rfl ?_
    refine sm_gd fun h12 => ?_
    refine sm_ldiv rfl h12 rfl ?_
    show sm _ _ _ _ 83 [(2, .long j2), (4, .long j4)] [.long (j4 / j2)] _ _
    refine sm_seg 2 88 [] [.int (Int64.toInt32 (j4 / j2))] rfl ?_
    exact sm_rI rfl rfl
def fn_91_8 (w : cm_W) : Nat → Nat → Int32 → Int64 → Int64 → Int32 → Option Int32
  | 0, _, _, _, _, _ => none
  | n + 1, a0, i1, j2, j4, i6 => (if (8 : Int32) ≤ i6 then fn_91_73 w j2 j4 else (if cm_sh w a0 = some (.inl 5) then (if i6 = (cm_I w a0 2) then fn_91_34 w (fn_91_8 w n) a0 i1 j2 j4 i6 else (if ¬ ((i1 >>> (i6 &&& 31)) &&& (1 : Int32)) = (1 : Int32) then fn_91_67 w (fn_91_8 w n) a0 i1 j2 j4 i6 else fn_91_34 w (fn_91_8 w n) a0 i1 j2 j4 i6)) else none))
theorem jt_91_8 (w : cm_W) : ∀ (n : Nat) (a0 : Nat) (i1 : Int32) (j2 : Int64) (j4 : Int64) (i6 : Int32), sm cm_g 91 ck_91 kq_91 8 [(0, .ref a0), (1, .int i1), (2, .long j2), (4, .long j4), (6, .int i6)] [] w ((fn_91_8 w n a0 i1 j2 j4 i6).map (cm_fI w)) := by
  intro n
  induction n with
  | zero => intro a0 i1 j2 j4 i6; exact sm_no
  | succ n ih =>
    intro a0 i1 j2 j4 i6
    rw [fn_91_8]
    refine sm_seg 2 12 [(0, .ref a0), (1, .int i1), (2, .long j2), (4, .long j4), (6, .int i6)] [.int (8 : Int32), .int i6] rfl ?_
    refine sm_if (pc1 := 73) (lv1 := [(2, .long j2), (4, .long j4)]) (pc2 := 15) (lv2 := [(0, .ref a0), (1, .int i1), (2, .long j2), (4, .long j4), (6, .int i6)]) (st1 := []) rfl rfl rfl (fun h13 => ?_) (fun h13 => ?_)
    · exact jt_91_73 w j2 j4
    · refine sm_seg 2 18 [(0, .ref a0), (1, .int i1), (2, .long j2), (4, .long j4), (6, .int i6)] [.ref a0, .int i6] rfl ?_
      refine sm_gd fun h14 => ?_
      refine sm_gI rfl h14 rfl ?_
      show sm _ _ _ _ 21 [(0, .ref a0), (1, .int i1), (2, .long j2), (4, .long j4), (6, .int i6)] [.int (cm_I w a0 2), .int i6] _ _
      refine sm_if (pc1 := 34) (lv1 := [(0, .ref a0), (1, .int i1), (2, .long j2), (4, .long j4), (6, .int i6)]) (pc2 := 24) (lv2 := [(0, .ref a0), (1, .int i1), (2, .long j2), (4, .long j4), (6, .int i6)]) (st1 := []) rfl rfl rfl (fun h15 => ?_) (fun h15 => ?_)
      · exact jt_91_34 w (fn_91_8 w n) ih a0 i1 j2 j4 i6
      · refine sm_seg 6 31 [(0, .ref a0), (1, .int i1), (2, .long j2), (4, .long j4), (6, .int i6)] [.int (1 : Int32), .int ((i1 >>> (i6 &&& 31)) &&& (1 : Int32))] rfl ?_
        refine sm_if (pc1 := 67) (lv1 := [(0, .ref a0), (1, .int i1), (2, .long j2), (4, .long j4), (6, .int i6)]) (pc2 := 34) (lv2 := [(0, .ref a0), (1, .int i1), (2, .long j2), (4, .long j4), (6, .int i6)]) (st1 := []) rfl rfl rfl (fun h16 => ?_) (fun h16 => ?_)
        · exact jt_91_67 w (fn_91_8 w n) ih a0 i1 j2 j4 i6
        · exact jt_91_34 w (fn_91_8 w n) ih a0 i1 j2 j4 i6
def fn_91 (w : cm_W) (a0 : Nat) (i1 : Int32) : Option Int32 := fn_91_8 w cm_N a0 i1 (0 : Int64) (0 : Int64) (0 : Int32)
theorem jt_91_0 (w : cm_W) (a0 : Nat) (i1 : Int32) : sm cm_g 91 ck_91 kq_91 0 [(0, .ref a0), (1, .int i1)] [] w ((fn_91 w a0 i1).map (cm_fI w)) := by
  unfold fn_91
  refine sm_seg 6 8 [(0, .ref a0), (1, .int i1), (2, .long (0 : Int64)), (4, .long (0 : Int64)), (6, .int (0 : Int32))] [] rfl ?_
  exact jt_91_8 w cm_N a0 i1 (0 : Int64) (0 : Int64) (0 : Int32)
theorem ca_91 (w : cm_W) (a0 : Nat) (i1 : Int32) : cm_ca cm_g 91 [.ref a0, .int i1] w ((fn_91 w a0 i1).map (cm_fI w)) := cm_ca_of (cm_me_of rfl rfl) rfl (jt_91_0 w a0 i1)
-- NailedBoxes$Sayings.isAtRest(II)Z
def fn_92_77 (w : cm_W) (k_11 : Nat → Int32 → Int32 → Int32 → Option Bool) (a0 : Nat) (i1 : Int32) (i3 : Int32) (i4 : Int32) : Option Bool := k_11 a0 i1 i3 (i4 + (1 : Int32))
theorem jt_92_77 (w : cm_W) (k_11 : Nat → Int32 → Int32 → Int32 → Option Bool) (hk_11 : ∀ (a0 : Nat) (i1 : Int32) (i3 : Int32) (i4 : Int32), sm cm_g 92 ck_92 kq_92 11 [(0, .ref a0), (1, .int i1), (3, .int i3), (4, .int i4)] [] w ((k_11 a0 i1 i3 i4).map (cm_fB w))) (a0 : Nat) (i1 : Int32) (i3 : Int32) (i4 : Int32) : sm cm_g 92 ck_92 kq_92 77 [(0, .ref a0), (1, .int i1), (3, .int i3), (4, .int i4)] [] w ((fn_92_77 w k_11 a0 i1 i3 i4).map (cm_fB w)) := by
  unfold fn_92_77
  refine sm_seg 2 11 [(0, .ref a0), (1, .int i1), (3, .int i3), (4, .int (i4 + (1 : Int32)))] [] rfl ?_
  exact hk_11 a0 i1 i3 (i4 + (1 : Int32))
def fn_92_32 (w : cm_W) (k_11 : Nat → Int32 → Int32 → Int32 → Option Bool) (a0 : Nat) (i1 : Int32) (i3 : Int32) (i4 : Int32) : Option Bool := (if cm_sh w a0 = some (.inl 5) then (cm_R w a0 1).bind fun r2 => (if cm_ga w .int r2 i4 = true then (if (cm_I w r2 i4.toNatClampNeg) ≤ 0 then fn_92_77 w k_11 a0 i1 i3 i4 else (if i4 = (cm_I w a0 2) then fn_92_77 w k_11 a0 i1 i3 i4 else (cm_R w a0 0).bind fun r7 => (if cm_ga w .int r7 i4 = true then (if i3 ≤ (cm_I w r7 i4.toNatClampNeg) then fn_92_77 w k_11 a0 i1 i3 i4 else some false) else none))) else none) else none)
theorem jt_92_32 (w : cm_W) (k_11 : Nat → Int32 → Int32 → Int32 → Option Bool) (hk_11 : ∀ (a0 : Nat) (i1 : Int32) (i3 : Int32) (i4 : Int32), sm cm_g 92 ck_92 kq_92 11 [(0, .ref a0), (1, .int i1), (3, .int i3), (4, .int i4)] [] w ((k_11 a0 i1 i3 i4).map (cm_fB w))) (a0 : Nat) (i1 : Int32) (i3 : Int32) (i4 : Int32) : sm cm_g 92 ck_92 kq_92 32 [(0, .ref a0), (1, .int i1), (3, .int i3), (4, .int i4)] [] w ((fn_92_32 w k_11 a0 i1 i3 i4).map (cm_fB w)) := by
  unfold fn_92_32
  refine sm_seg 3 36 [(5, .int (0 : Int32)), (0, .ref a0), (1, .int i1), (3, .int i3), (4, .int i4)] [.ref a0] rfl ?_
  refine sm_gd fun h1 => ?_
  refine sm_gR rfl h1 rfl rfl fun r2 h3 => ?_
  show sm _ _ _ _ 39 [(5, .int (0 : Int32)), (0, .ref a0), (1, .int i1), (3, .int i3), (4, .int i4)] [.ref r2] _ _
  refine sm_seg 1 41 [(5, .int (0 : Int32)), (0, .ref a0), (1, .int i1), (3, .int i3), (4, .int i4)] [.int i4, .ref r2] rfl ?_
  refine sm_gd fun h4 => ?_
  refine sm_ai rfl h4 rfl ?_
  show sm _ _ _ _ 42 [(5, .int (0 : Int32)), (0, .ref a0), (1, .int i1), (3, .int i3), (4, .int i4)] [.int (cm_I w r2 i4.toNatClampNeg)] _ _
  refine sm_if (pc1 := 77) (lv1 := [(0, .ref a0), (1, .int i1), (3, .int i3), (4, .int i4)]) (pc2 := 45) (lv2 := [(5, .int (0 : Int32)), (0, .ref a0), (1, .int i1), (3, .int i3), (4, .int i4)]) (st1 := []) rfl rfl rfl (fun h5 => ?_) (fun h5 => ?_)
  · exact jt_92_77 w k_11 hk_11 a0 i1 i3 i4
  · refine sm_seg 2 48 [(5, .int (0 : Int32)), (0, .ref a0), (1, .int i1), (3, .int i3), (4, .int i4)] [.ref a0, .int i4] rfl ?_
    refine sm_gI rfl h1 rfl ?_
    show sm _ _ _ _ 51 [(5, .int (0 : Int32)), (0, .ref a0), (1, .int i1), (3, .int i3), (4, .int i4)] [.int (cm_I w a0 2), .int i4] _ _
    refine sm_if (pc1 := 77) (lv1 := [(0, .ref a0), (1, .int i1), (3, .int i3), (4, .int i4)]) (pc2 := 54) (lv2 := [(5, .int (0 : Int32)), (0, .ref a0), (1, .int i1), (3, .int i3), (4, .int i4)]) (st1 := []) rfl rfl rfl (fun h6 => ?_) (fun h6 => ?_)
    · exact jt_92_77 w k_11 hk_11 a0 i1 i3 i4
    · refine sm_seg 3 58 [(5, .int (0 : Int32)), (0, .ref a0), (1, .int i1), (3, .int i3), (4, .int i4)] [.ref a0, .int i3, .int (0 : Int32)] rfl ?_
      refine sm_gR rfl h1 rfl rfl fun r7 h8 => ?_
      show sm _ _ _ _ 61 [(5, .int (0 : Int32)), (0, .ref a0), (1, .int i1), (3, .int i3), (4, .int i4)] [.ref r7, .int i3, .int (0 : Int32)] _ _
      refine sm_seg 1 63 [(5, .int (0 : Int32)), (0, .ref a0), (1, .int i1), (3, .int i3), (4, .int i4)] [.int i4, .ref r7, .int i3, .int (0 : Int32)] rfl ?_
      refine sm_gd fun h9 => ?_
      refine sm_ai rfl h9 rfl ?_
      show sm _ _ _ _ 64 [(5, .int (0 : Int32)), (0, .ref a0), (1, .int i1), (3, .int i3), (4, .int i4)] [.int (cm_I w r7 i4.toNatClampNeg), .int i3, .int (0 : Int32)] _ _
      refine sm_if (pc1 := 71) (lv1 := [(0, .ref a0), (1, .int i1), (3, .int i3), (4, .int i4)]) (pc2 := 67) (lv2 := [(5, .int (0 : Int32)), (0, .ref a0), (1, .int i1), (3, .int i3), (4, .int i4)]) (st1 := [.int (0 : Int32)]) rfl rfl rfl (fun h10 => ?_) (fun h10 => ?_)
      · refine sm_seg 1 72 [(0, .ref a0), (1, .int i1), (3, .int i3), (4, .int i4)] [.int (0 : Int32), .int (0 : Int32)] rfl ?_
        refine sm_ift (c := (0 : Int32) = (0 : Int32)) (pc1 := 77) (pc2 := 75) (lv1 := [(0, .ref a0), (1, .int i1), (3, .int i3), (4, .int i4)]) (st1 := []) rfl (by decide) rfl ?_
        exact jt_92_77 w k_11 hk_11 a0 i1 i3 i4
      · refine sm_seg 2 72 [(0, .ref a0), (1, .int i1), (3, .int i3), (4, .int i4)] [.int (1 : Int32), .int (0 : Int32)] rfl ?_
        refine sm_iff (c := (0 : Int32) = (1 : Int32)) (pc1 := 77) (pc2 := 75) (lv1 := [(0, .ref a0), (1, .int i1), (3, .int i3), (4, .int i4)]) (st1 := []) rfl (by decide) rfl ?_
        refine sm_seg 1 76 [(0, .ref a0), (1, .int i1), (3, .int i3), (4, .int i4)] [.int (0 : Int32)] rfl ?_
        exact sm_rB (b := false) rfl rfl
def fn_92_11 (w : cm_W) : Nat → Nat → Int32 → Int32 → Int32 → Option Bool
  | 0, _, _, _, _ => none
  | n + 1, a0, i1, i3, i4 => (if (8 : Int32) ≤ i4 then some true else (if ¬ ((i1 >>> (i4 &&& 31)) &&& (1 : Int32)) = (1 : Int32) then fn_92_32 w (fn_92_11 w n) a0 i1 i3 i4 else (if cm_sh w a0 = some (.inl 5) then (cm_R w a0 1).bind fun r14 => (if cm_ga w .int r14 i4 = true then (if (cm_I w r14 i4.toNatClampNeg) ≤ 0 then fn_92_77 w (fn_92_11 w n) a0 i1 i3 i4 else (if i4 = (cm_I w a0 2) then fn_92_77 w (fn_92_11 w n) a0 i1 i3 i4 else (cm_R w a0 0).bind fun r19 => (if cm_ga w .int r19 i4 = true then (if i3 ≤ (cm_I w r19 i4.toNatClampNeg) then some false else fn_92_77 w (fn_92_11 w n) a0 i1 i3 i4) else none))) else none) else none)))
theorem jt_92_11 (w : cm_W) : ∀ (n : Nat) (a0 : Nat) (i1 : Int32) (i3 : Int32) (i4 : Int32), sm cm_g 92 ck_92 kq_92 11 [(0, .ref a0), (1, .int i1), (3, .int i3), (4, .int i4)] [] w ((fn_92_11 w n a0 i1 i3 i4).map (cm_fB w)) := by
  intro n
  induction n with
  | zero => intro a0 i1 i3 i4; exact sm_no
  | succ n ih =>
    intro a0 i1 i3 i4
    rw [fn_92_11]
    refine sm_seg 2 15 [(0, .ref a0), (1, .int i1), (3, .int i3), (4, .int i4)] [.int (8 : Int32), .int i4] rfl ?_
    refine sm_if (pc1 := 83) (lv1 := []) (pc2 := 18) (lv2 := [(0, .ref a0), (1, .int i1), (3, .int i3), (4, .int i4)]) (st1 := []) rfl rfl rfl (fun h11 => ?_) (fun h11 => ?_)
    · refine sm_seg 1 84 [] [.int (1 : Int32)] rfl ?_
      exact sm_rB (b := true) rfl rfl
    · refine sm_seg 6 25 [(0, .ref a0), (1, .int i1), (3, .int i3), (4, .int i4)] [.int (1 : Int32), .int ((i1 >>> (i4 &&& 31)) &&& (1 : Int32))] rfl ?_
      refine sm_if (pc1 := 32) (lv1 := [(0, .ref a0), (1, .int i1), (3, .int i3), (4, .int i4)]) (pc2 := 28) (lv2 := [(0, .ref a0), (1, .int i1), (3, .int i3), (4, .int i4)]) (st1 := []) rfl rfl rfl (fun h12 => ?_) (fun h12 => ?_)
      · exact jt_92_32 w (fn_92_11 w n) ih a0 i1 i3 i4
      · refine sm_seg 4 36 [(5, .int (1 : Int32)), (0, .ref a0), (1, .int i1), (3, .int i3), (4, .int i4)] [.ref a0] rfl ?_
        refine sm_gd fun h13 => ?_
        refine sm_gR rfl h13 rfl rfl fun r14 h15 => ?_
        show sm _ _ _ _ 39 [(5, .int (1 : Int32)), (0, .ref a0), (1, .int i1), (3, .int i3), (4, .int i4)] [.ref r14] _ _
        refine sm_seg 1 41 [(5, .int (1 : Int32)), (0, .ref a0), (1, .int i1), (3, .int i3), (4, .int i4)] [.int i4, .ref r14] rfl ?_
        refine sm_gd fun h16 => ?_
        refine sm_ai rfl h16 rfl ?_
        show sm _ _ _ _ 42 [(5, .int (1 : Int32)), (0, .ref a0), (1, .int i1), (3, .int i3), (4, .int i4)] [.int (cm_I w r14 i4.toNatClampNeg)] _ _
        refine sm_if (pc1 := 77) (lv1 := [(0, .ref a0), (1, .int i1), (3, .int i3), (4, .int i4)]) (pc2 := 45) (lv2 := [(5, .int (1 : Int32)), (0, .ref a0), (1, .int i1), (3, .int i3), (4, .int i4)]) (st1 := []) rfl rfl rfl (fun h17 => ?_) (fun h17 => ?_)
        · exact jt_92_77 w (fn_92_11 w n) ih a0 i1 i3 i4
        · refine sm_seg 2 48 [(5, .int (1 : Int32)), (0, .ref a0), (1, .int i1), (3, .int i3), (4, .int i4)] [.ref a0, .int i4] rfl ?_
          refine sm_gI rfl h13 rfl ?_
          show sm _ _ _ _ 51 [(5, .int (1 : Int32)), (0, .ref a0), (1, .int i1), (3, .int i3), (4, .int i4)] [.int (cm_I w a0 2), .int i4] _ _
          refine sm_if (pc1 := 77) (lv1 := [(0, .ref a0), (1, .int i1), (3, .int i3), (4, .int i4)]) (pc2 := 54) (lv2 := [(5, .int (1 : Int32)), (0, .ref a0), (1, .int i1), (3, .int i3), (4, .int i4)]) (st1 := []) rfl rfl rfl (fun h18 => ?_) (fun h18 => ?_)
          · exact jt_92_77 w (fn_92_11 w n) ih a0 i1 i3 i4
          · refine sm_seg 3 58 [(5, .int (1 : Int32)), (0, .ref a0), (1, .int i1), (3, .int i3), (4, .int i4)] [.ref a0, .int i3, .int (1 : Int32)] rfl ?_
            refine sm_gR rfl h13 rfl rfl fun r19 h20 => ?_
            show sm _ _ _ _ 61 [(5, .int (1 : Int32)), (0, .ref a0), (1, .int i1), (3, .int i3), (4, .int i4)] [.ref r19, .int i3, .int (1 : Int32)] _ _
            refine sm_seg 1 63 [(5, .int (1 : Int32)), (0, .ref a0), (1, .int i1), (3, .int i3), (4, .int i4)] [.int i4, .ref r19, .int i3, .int (1 : Int32)] rfl ?_
            refine sm_gd fun h21 => ?_
            refine sm_ai rfl h21 rfl ?_
            show sm _ _ _ _ 64 [(5, .int (1 : Int32)), (0, .ref a0), (1, .int i1), (3, .int i3), (4, .int i4)] [.int (cm_I w r19 i4.toNatClampNeg), .int i3, .int (1 : Int32)] _ _
            refine sm_if (pc1 := 71) (lv1 := [(0, .ref a0), (1, .int i1), (3, .int i3), (4, .int i4)]) (pc2 := 67) (lv2 := [(5, .int (1 : Int32)), (0, .ref a0), (1, .int i1), (3, .int i3), (4, .int i4)]) (st1 := [.int (1 : Int32)]) rfl rfl rfl (fun h22 => ?_) (fun h22 => ?_)
            · refine sm_seg 1 72 [(0, .ref a0), (1, .int i1), (3, .int i3), (4, .int i4)] [.int (0 : Int32), .int (1 : Int32)] rfl ?_
              refine sm_iff (c := (1 : Int32) = (0 : Int32)) (pc1 := 77) (pc2 := 75) (lv1 := [(0, .ref a0), (1, .int i1), (3, .int i3), (4, .int i4)]) (st1 := []) rfl (by decide) rfl ?_
              refine sm_seg 1 76 [(0, .ref a0), (1, .int i1), (3, .int i3), (4, .int i4)] [.int (0 : Int32)] rfl ?_
              exact sm_rB (b := false) rfl rfl
            · refine sm_seg 2 72 [(0, .ref a0), (1, .int i1), (3, .int i3), (4, .int i4)] [.int (1 : Int32), .int (1 : Int32)] rfl ?_
              refine sm_ift (c := (1 : Int32) = (1 : Int32)) (pc1 := 77) (pc2 := 75) (lv1 := [(0, .ref a0), (1, .int i1), (3, .int i3), (4, .int i4)]) (st1 := []) rfl (by decide) rfl ?_
              exact jt_92_77 w (fn_92_11 w n) ih a0 i1 i3 i4
def fn_92 (w : cm_W) (a0 : Nat) (i1 : Int32) (i2 : Int32) : Option Bool := (if cm_sh w a0 = some (.inl 5) then (fn_91 w a0 i1).bind fun v24 => fn_92_11 w cm_N a0 i1 (v24 - i2) (0 : Int32) else none)
theorem jt_92_0 (w : cm_W) (a0 : Nat) (i1 : Int32) (i2 : Int32) : sm cm_g 92 ck_92 kq_92 0 [(0, .ref a0), (1, .int i1), (2, .int i2)] [] w ((fn_92 w a0 i1 i2).map (cm_fB w)) := by
  unfold fn_92
  refine sm_seg 2 2 [(0, .ref a0), (1, .int i1), (2, .int i2)] [.int i1, .ref a0] rfl ?_
  refine sm_gd fun h23 => ?_
  refine sm_cV (as := [.int i1]) (rest := []) rfl rfl rfl rfl h23 (Nat.le_of_ble_eq_true rfl) (ca_91 w a0 i1) fun v24 h25 => ?_
  show sm _ _ _ _ 5 [(0, .ref a0), (1, .int i1), (2, .int i2)] [.int v24] _ _
  refine sm_seg 5 11 [(0, .ref a0), (1, .int i1), (3, .int (v24 - i2)), (4, .int (0 : Int32))] [] rfl ?_
  exact jt_92_11 w cm_N a0 i1 (v24 - i2) (0 : Int32)
theorem ca_92 (w : cm_W) (a0 : Nat) (i1 : Int32) (i2 : Int32) : cm_ca cm_g 92 [.ref a0, .int i1, .int i2] w ((fn_92 w a0 i1 i2).map (cm_fB w)) := cm_ca_of (cm_me_of rfl rfl) rfl (jt_92_0 w a0 i1 i2)
