-- NailedBoxes$Sayings.largestLie(I)I
def fn_93_41 (w : cm_W) (k_7 : Nat → Int32 → Int32 → Int32 → Int32 → Option Int32) (a0 : Nat) (i1 : Int32) (i2 : Int32) (i3 : Int32) (i4 : Int32) (i5 : Int32) : Option Int32 := k_7 a0 i1 (i2 ||| ((1 : Int32) <<< (i5 &&& 31))) i3 (i4 + (1 : Int32))
theorem jt_93_41 (w : cm_W) (k_7 : Nat → Int32 → Int32 → Int32 → Int32 → Option Int32) (hk_7 : ∀ (a0 : Nat) (i1 : Int32) (i2 : Int32) (i3 : Int32) (i4 : Int32), sm cm_g 93 ck_93 kq_93 7 [(0, .ref a0), (1, .int i1), (2, .int i2), (3, .int i3), (4, .int i4)] [] w ((k_7 a0 i1 i2 i3 i4).map (cm_fI w))) (a0 : Nat) (i1 : Int32) (i2 : Int32) (i3 : Int32) (i4 : Int32) (i5 : Int32) : sm cm_g 93 ck_93 kq_93 41 [(0, .ref a0), (1, .int i1), (2, .int i2), (3, .int i3), (4, .int i4), (5, .int i5)] [] w ((fn_93_41 w k_7 a0 i1 i2 i3 i4 i5).map (cm_fI w)) := by
  unfold fn_93_41
  refine sm_seg 8 7 [(0, .ref a0), (1, .int i1), (2, .int (i2 ||| ((1 : Int32) <<< (i5 &&& 31)))), (3, .int i3), (4, .int (i4 + (1 : Int32)))] [] rfl ?_
  exact hk_7 a0 i1 (i2 ||| ((1 : Int32) <<< (i5 &&& 31))) i3 (i4 + (1 : Int32))
def fn_93_25 (w : cm_W) (k_7 : Nat → Int32 → Int32 → Int32 → Int32 → Option Int32) (a0 : Nat) (i1 : Int32) (i2 : Int32) (i3 : Int32) (i4 : Int32) : Option Int32 := (if cm_sh w a0 = some (.inl 5) then (fn_89 w a0 i2).bind fun v2 => (if ¬ v2 = (-1 : Int32) then fn_93_41 w k_7 a0 i1 i2 i3 i4 v2 else some i3) else none)
theorem jt_93_25 (w : cm_W) (k_7 : Nat → Int32 → Int32 → Int32 → Int32 → Option Int32) (hk_7 : ∀ (a0 : Nat) (i1 : Int32) (i2 : Int32) (i3 : Int32) (i4 : Int32), sm cm_g 93 ck_93 kq_93 7 [(0, .ref a0), (1, .int i1), (2, .int i2), (3, .int i3), (4, .int i4)] [] w ((k_7 a0 i1 i2 i3 i4).map (cm_fI w))) (a0 : Nat) (i1 : Int32) (i2 : Int32) (i3 : Int32) (i4 : Int32) : sm cm_g 93 ck_93 kq_93 25 [(0, .ref a0), (1, .int i1), (2, .int i2), (3, .int i3), (4, .int i4)] [] w ((fn_93_25 w k_7 a0 i1 i2 i3 i4).map (cm_fI w)) := by
  unfold fn_93_25
  refine sm_seg 2 27 [(0, .ref a0), (1, .int i1), (2, .int i2), (3, .int i3), (4, .int i4)] [.int i2, .ref a0] rfl ?_
  refine sm_gd fun h1 => ?_
  refine sm_cV (as := [.int i2]) (rest := []) rfl rfl rfl rfl h1 (Nat.le_of_ble_eq_true rfl) (ca_89 w a0 i2) fun v2 h3 => ?_
  show sm _ _ _ _ 30 [(0, .ref a0), (1, .int i1), (2, .int i2), (3, .int i3), (4, .int i4)] [.int v2] _ _
  refine sm_seg 3 35 [(5, .int v2), (0, .ref a0), (1, .int i1), (2, .int i2), (3, .int i3), (4, .int i4)] [.int (-1 : Int32), .int v2] rfl ?_
  refine sm_if (pc1 := 41) (lv1 := [(0, .ref a0), (1, .int i1), (2, .int i2), (3, .int i3), (4, .int i4), (5, .int v2)]) (pc2 := 38) (lv2 := [(5, .int v2), (0, .ref a0), (1, .int i1), (2, .int i2), (3, .int i3), (4, .int i4)]) (st1 := []) rfl rfl rfl (fun h4 => ?_) (fun h4 => ?_)
  · exact jt_93_41 w k_7 hk_7 a0 i1 i2 i3 i4 v2
  · refine sm_seg 2 55 [(3, .int i3)] [.int i3] rfl ?_
    exact sm_rI rfl rfl
def fn_93_7 (w : cm_W) : Nat → Nat → Int32 → Int32 → Int32 → Int32 → Option Int32
  | 0, _, _, _, _, _ => none
  | n + 1, a0, i1, i2, i3, i4 => (if (8 : Int32) ≤ i4 then some i3 else (if cm_sh w a0 = some (.inl 5) then (fn_92 w a0 i2 i1).bind fun v7 => (if (cm_b v7) = 0 then fn_93_25 w (fn_93_7 w n) a0 i1 i2 i3 i4 else fn_93_25 w (fn_93_7 w n) a0 i1 i2 i2 i4) else none))
theorem jt_93_7 (w : cm_W) : ∀ (n : Nat) (a0 : Nat) (i1 : Int32) (i2 : Int32) (i3 : Int32) (i4 : Int32), sm cm_g 93 ck_93 kq_93 7 [(0, .ref a0), (1, .int i1), (2, .int i2), (3, .int i3), (4, .int i4)] [] w ((fn_93_7 w n a0 i1 i2 i3 i4).map (cm_fI w)) := by
  intro n
  induction n with
  | zero => intro a0 i1 i2 i3 i4; exact sm_no
  | succ n ih =>
    intro a0 i1 i2 i3 i4
    rw [fn_93_7]
    refine sm_seg 2 11 [(0, .ref a0), (1, .int i1), (2, .int i2), (3, .int i3), (4, .int i4)] [.int (8 : Int32), .int i4] rfl ?_
    refine sm_if (pc1 := 54) (lv1 := [(3, .int i3)]) (pc2 := 14) (lv2 := [(0, .ref a0), (1, .int i1), (2, .int i2), (3, .int i3), (4, .int i4)]) (st1 := []) rfl rfl rfl (fun h5 => ?_) (fun h5 => ?_)
    · refine sm_seg 1 55 [(3, .int i3)] [.int i3] rfl ?_
      exact sm_rI rfl rfl
    · refine sm_seg 3 17 [(0, .ref a0), (1, .int i1), (2, .int i2), (3, .int i3), (4, .int i4)] [.int i1, .int i2, .ref a0] rfl ?_
      refine sm_gd fun h6 => ?_
      refine sm_cV (as := [.int i2, .int i1]) (rest := []) rfl rfl rfl rfl h6 (Nat.le_of_ble_eq_true rfl) (ca_92 w a0 i2 i1) fun v7 h8 => ?_
      show sm _ _ _ _ 20 [(0, .ref a0), (1, .int i1), (2, .int i2), (3, .int i3), (4, .int i4)] [.int (cm_b v7)] _ _
      refine sm_if (pc1 := 25) (lv1 := [(0, .ref a0), (1, .int i1), (2, .int i2), (3, .int i3), (4, .int i4)]) (pc2 := 23) (lv2 := [(0, .ref a0), (1, .int i1), (2, .int i2), (3, .int i3), (4, .int i4)]) (st1 := []) rfl rfl rfl (fun h9 => ?_) (fun h9 => ?_)
      · exact jt_93_25 w (fn_93_7 w n) ih a0 i1 i2 i3 i4
      · refine sm_seg 2 25 [(0, .ref a0), (1, .int i1), (2, .int i2), (3, .int i2), (4, .int i4)] [] rfl ?_
        exact jt_93_25 w (fn_93_7 w n) ih a0 i1 i2 i2 i4
def fn_93 (w : cm_W) (a0 : Nat) (i1 : Int32) : Option Int32 := fn_93_7 w cm_N a0 i1 (0 : Int32) (-1 : Int32) (0 : Int32)
theorem jt_93_0 (w : cm_W) (a0 : Nat) (i1 : Int32) : sm cm_g 93 ck_93 kq_93 0 [(0, .ref a0), (1, .int i1)] [] w ((fn_93 w a0 i1).map (cm_fI w)) := by
  unfold fn_93
  refine sm_seg 6 7 [(0, .ref a0), (1, .int i1), (2, .int (0 : Int32)), (3, .int (-1 : Int32)), (4, .int (0 : Int32))] [] rfl ?_
  exact jt_93_7 w cm_N a0 i1 (0 : Int32) (-1 : Int32) (0 : Int32)
theorem ca_93 (w : cm_W) (a0 : Nat) (i1 : Int32) : cm_ca cm_g 93 [.ref a0, .int i1] w ((fn_93 w a0 i1).map (cm_fI w)) := cm_ca_of (cm_me_of rfl rfl) rfl (jt_93_0 w a0 i1)
-- NailedBoxes$State.begin(LNailedBoxes$Village;)V
def fn_95_39 : Nat → Nat → Nat → Int32 → cm_W → Option cm_W
  | 0, _, _, _, _ => none
  | n + 1, a0, a1, i2, w => (if (12 : Int32) ≤ i2 then some w else (if cm_sh w a0 = some (.inl 6) then (cm_R w a0 5).bind fun r3 => (if cm_sh w a1 = some (.inl 9) then (cm_R w a1 3).bind fun r6 => (if cm_sh w r6 = some (.inl 7) then (fn_1 w r6 i2 (1 : Int32)).bind fun v9 => (if cm_ga w .int r3 i2 = true then (if cm_w2 30 41 r3 = true then fn_95_39 n a0 a1 (i2 + (1 : Int32)) (cm_sI w r3 i2.toNatClampNeg v9) else none) else none) else none) else none) else none))
theorem jt_95_39 : ∀ (n : Nat) (a0 : Nat) (a1 : Nat) (i2 : Int32) (w : cm_W), sm cm_g 95 ck_95 kq_95 39 [(0, .ref a0), (1, .ref a1), (2, .int i2)] [] w ((fn_95_39 n a0 a1 i2 w).map cm_gV) := by
  intro n
  induction n with
  | zero => intro a0 a1 i2 w; exact sm_no
  | succ n ih =>
    intro a0 a1 i2 w
    rw [fn_95_39]
    refine sm_seg 2 42 [(0, .ref a0), (1, .ref a1), (2, .int i2)] [.int (12 : Int32), .int i2] rfl ?_
    refine sm_if (pc1 := 66) (lv1 := []) (pc2 := 45) (lv2 := [(0, .ref a0), (1, .ref a1), (2, .int i2)]) (st1 := []) rfl rfl rfl (fun h1 => ?_) (fun h1 => ?_)
    · exact sm_rV rfl rfl
    · refine sm_seg 1 46 [(0, .ref a0), (1, .ref a1), (2, .int i2)] [.ref a0] rfl ?_
      refine sm_gd fun h2 => ?_
      refine sm_gR rfl h2 rfl rfl fun r3 h4 => ?_
      show sm _ _ _ _ 49 [(0, .ref a0), (1, .ref a1), (2, .int i2)] [.ref r3] _ _
      refine sm_seg 2 51 [(0, .ref a0), (1, .ref a1), (2, .int i2)] [.ref a1, .int i2, .ref r3] rfl ?_
      refine sm_gd fun h5 => ?_
      refine sm_gR rfl h5 rfl rfl fun r6 h7 => ?_
      show sm _ _ _ _ 54 [(0, .ref a0), (1, .ref a1), (2, .int i2)] [.ref r6, .int i2, .ref r3] _ _
      refine sm_seg 2 56 [(0, .ref a0), (1, .ref a1), (2, .int i2)] [.int (1 : Int32), .int i2, .ref r6, .int i2, .ref r3] rfl ?_
      refine sm_gd fun h8 => ?_
      refine sm_cV (as := [.int i2, .int (1 : Int32)]) (rest := [.int i2, .ref r3]) rfl rfl rfl rfl h8 (Nat.le_of_ble_eq_true rfl) (ca_1 w r6 i2 (1 : Int32)) fun v9 h10 => ?_
      show sm _ _ _ _ 59 [(0, .ref a0), (1, .ref a1), (2, .int i2)] [.int v9, .int i2, .ref r3] _ _
      refine sm_gd fun h11 => ?_
      refine sm_gd fun h12 => ?_
      refine sm_si rfl h11 h12 rfl rfl ?_
      show sm _ _ _ _ 60 [(0, .ref a0), (1, .ref a1), (2, .int i2)] [] _ _
      refine sm_seg 2 39 [(0, .ref a0), (1, .ref a1), (2, .int (i2 + (1 : Int32)))] [] rfl ?_
      exact ih a0 a1 (i2 + (1 : Int32)) (cm_sI w r3 i2.toNatClampNeg v9)
def fn_95 (a0 : Nat) (a1 : Nat) (w : cm_W) : Option cm_W := (if cm_sh w a0 = some (.inl 6) then (cm_R w a0 0).bind fun r14 => (if cm_sh w r14 = some (.inl 7) then (if cm_w2 30 41 r14 = true then (cm_R (cm_sI w r14 2 (0 : Int32)) a0 1).bind fun r18 => (if cm_sh w r18 = some (.inl 7) then (if cm_w2 30 41 r18 = true then (cm_R (cm_sI (cm_sI w r14 2 (0 : Int32)) r18 2 (0 : Int32)) a0 2).bind fun r22 => (if cm_sh w r22 = some (.inl 7) then (if cm_w2 30 41 r22 = true then (cm_R (cm_sI (cm_sI (cm_sI w r14 2 (0 : Int32)) r18 2 (0 : Int32)) r22 2 (0 : Int32)) a0 3).bind fun r26 => (if cm_sh w r26 = some (.inl 7) then (if cm_w2 30 41 r26 = true then (if cm_w2 30 41 a0 = true then fn_95_39  cm_N a0 a1 (0 : Int32) (cm_sI (cm_sI (cm_sI (cm_sI (cm_sI w r14 2 (0 : Int32)) r18 2 (0 : Int32)) r22 2 (0 : Int32)) r26 2 (0 : Int32)) a0 6 (0 : Int32)) else none) else none) else none) else none) else none) else none) else none) else none) else none) else none)
theorem jt_95_0 (a0 : Nat) (a1 : Nat) (w : cm_W) : sm cm_g 95 ck_95 kq_95 0 [(0, .ref a0), (1, .ref a1)] [] w ((fn_95 a0 a1 w).map cm_gV) := by
  unfold fn_95
  refine sm_seg 1 1 [(0, .ref a0), (1, .ref a1)] [.ref a0] rfl ?_
  refine sm_gd fun h13 => ?_
  refine sm_gR rfl h13 rfl rfl fun r14 h15 => ?_
  show sm _ _ _ _ 4 [(0, .ref a0), (1, .ref a1)] [.ref r14] _ _
  refine sm_seg 1 5 [(0, .ref a0), (1, .ref a1)] [.int (0 : Int32), .ref r14] rfl ?_
  refine sm_gd fun h16 => ?_
  refine sm_gd fun h17 => ?_
  refine sm_pI rfl h16 rfl h17 rfl ?_
  show sm _ _ _ _ 8 [(0, .ref a0), (1, .ref a1)] [] _ _
  refine sm_seg 1 9 [(0, .ref a0), (1, .ref a1)] [.ref a0] rfl ?_
  refine sm_gR rfl h13 rfl rfl fun r18 h19 => ?_
  show sm _ _ _ _ 12 [(0, .ref a0), (1, .ref a1)] [.ref r18] _ _
  refine sm_seg 1 13 [(0, .ref a0), (1, .ref a1)] [.int (0 : Int32), .ref r18] rfl ?_
  refine sm_gd fun h20 => ?_
  refine sm_gd fun h21 => ?_
  refine sm_pI rfl h20 rfl h21 rfl ?_
  show sm _ _ _ _ 16 [(0, .ref a0), (1, .ref a1)] [] _ _
  refine sm_seg 1 17 [(0, .ref a0), (1, .ref a1)] [.ref a0] rfl ?_
  refine sm_gR rfl h13 rfl rfl fun r22 h23 => ?_
  show sm _ _ _ _ 20 [(0, .ref a0), (1, .ref a1)] [.ref r22] _ _
  refine sm_seg 1 21 [(0, .ref a0), (1, .ref a1)] [.int (0 : Int32), .ref r22] rfl ?_
  refine sm_gd fun h24 => ?_
  refine sm_gd fun h25 => ?_
  refine sm_pI rfl h24 rfl h25 rfl ?_
  show sm _ _ _ _ 24 [(0, .ref a0), (1, .ref a1)] [] _ _
  refine sm_seg 1 25 [(0, .ref a0), (1, .ref a1)] [.ref a0] rfl ?_
  refine sm_gR rfl h13 rfl rfl fun r26 h27 => ?_
  show sm _ _ _ _ 28 [(0, .ref a0), (1, .ref a1)] [.ref r26] _ _
  refine sm_seg 1 29 [(0, .ref a0), (1, .ref a1)] [.int (0 : Int32), .ref r26] rfl ?_
  refine sm_gd fun h28 => ?_
  refine sm_gd fun h29 => ?_
  refine sm_pI rfl h28 rfl h29 rfl ?_
  show sm _ _ _ _ 32 [(0, .ref a0), (1, .ref a1)] [] _ _
  refine sm_seg 2 34 [(0, .ref a0), (1, .ref a1)] [.int (0 : Int32), .ref a0] rfl ?_
  refine sm_gd fun h30 => ?_
  refine sm_pI rfl h13 rfl h30 rfl ?_
  show sm _ _ _ _ 37 [(0, .ref a0), (1, .ref a1)] [] _ _
  refine sm_seg 2 39 [(0, .ref a0), (1, .ref a1), (2, .int (0 : Int32))] [] rfl ?_
  exact jt_95_39  cm_N a0 a1 (0 : Int32) (cm_sI (cm_sI (cm_sI (cm_sI (cm_sI w r14 2 (0 : Int32)) r18 2 (0 : Int32)) r22 2 (0 : Int32)) r26 2 (0 : Int32)) a0 6 (0 : Int32))
theorem ca_95 (a0 : Nat) (a1 : Nat) (w : cm_W) : cm_ca cm_g 95 [.ref a0, .ref a1] w ((fn_95 a0 a1 w).map cm_gV) := cm_ca_of (cm_me_of rfl rfl) rfl (jt_95_0 a0 a1 w)
-- NailedBoxes$Table.copyFrom(LNailedBoxes$Table;)V
def fn_96 (a0 : Nat) (a1 : Nat) (w : cm_W) : Option cm_W := (if cm_sh w a1 = some (.inl 7) then (if cm_sh w a0 = some (.inl 7) then (if cm_w2 30 96 a0 = true then (cm_R (cm_sI w a0 2 (cm_I w a1 2)) a1 1).bind fun r4 => (cm_R (cm_sI w a0 2 (cm_I w a1 2)) a0 1).bind fun r6 => (cm_R (cm_sI w a0 2 (cm_I w a1 2)) a0 1).bind fun r8 => (cm_al w r8).bind fun n10 => (cm_R (cm_sI w a0 2 (cm_I w a1 2)) a1 1).bind fun r12 => (cm_al w r12).bind fun n14 => (if cm_gc w 30 96 r4 (0 : Int32) r6 (0 : Int32) (if (Int32.ofNat n14) < (Int32.ofNat n10) then (Int32.ofNat n14) else (Int32.ofNat n10)) = true then some (cm_cI (cm_sI w a0 2 (cm_I w a1 2)) r4 (0 : Int32).toNatClampNeg r6 (0 : Int32).toNatClampNeg (if (Int32.ofNat n14) < (Int32.ofNat n10) then (Int32.ofNat n14) else (Int32.ofNat n10)).toNatClampNeg) else none) else none) else none) else none)
theorem jt_96_0 (a0 : Nat) (a1 : Nat) (w : cm_W) : sm cm_g 96 ck_96 kq_96 0 [(0, .ref a0), (1, .ref a1)] [] w ((fn_96 a0 a1 w).map cm_gV) := by
  unfold fn_96
  refine sm_seg 2 2 [(0, .ref a0), (1, .ref a1)] [.ref a1, .ref a0] rfl ?_
  refine sm_gd fun h1 => ?_
  refine sm_gI rfl h1 rfl ?_
  show sm _ _ _ _ 5 [(0, .ref a0), (1, .ref a1)] [.int (cm_I w a1 2), .ref a0] _ _
  refine sm_gd fun h2 => ?_
  refine sm_gd fun h3 => ?_
  refine sm_pI rfl h2 rfl h3 rfl ?_
  show sm _ _ _ _ 8 [(0, .ref a0), (1, .ref a1)] [] _ _
  refine sm_seg 1 9 [(0, .ref a0), (1, .ref a1)] [.ref a1] rfl ?_
  refine sm_gR rfl h1 rfl rfl fun r4 h5 => ?_
  show sm _ _ _ _ 12 [(0, .ref a0), (1, .ref a1)] [.ref r4] _ _
  refine sm_seg 2 14 [(0, .ref a0), (1, .ref a1)] [.ref a0, .int (0 : Int32), .ref r4] rfl ?_
  refine sm_gR rfl h2 rfl rfl fun r6 h7 => ?_
  show sm _ _ _ _ 17 [(0, .ref a0), (1, .ref a1)] [.ref r6, .int (0 : Int32), .ref r4] _ _
  refine sm_seg 2 19 [(0, .ref a0), (1, .ref a1)] [.ref a0, .int (0 : Int32), .ref r6, .int (0 : Int32), .ref r4] rfl ?_
  refine sm_gR rfl h2 rfl rfl fun r8 h9 => ?_
  show sm _ _ _ _ 22 [(0, .ref a0), (1, .ref a1)] [.ref r8, .int (0 : Int32), .ref r6, .int (0 : Int32), .ref r4] _ _
  refine sm_len rfl rfl fun n10 h11 => ?_
  show sm _ _ _ _ 23 [(0, .ref a0), (1, .ref a1)] [.int (Int32.ofNat n10), .int (0 : Int32), .ref r6, .int (0 : Int32), .ref r4] _ _
  refine sm_seg 1 24 [(0, .ref a0), (1, .ref a1)] [.ref a1, .int (Int32.ofNat n10), .int (0 : Int32), .ref r6, .int (0 : Int32), .ref r4] rfl ?_
  refine sm_gR rfl h1 rfl rfl fun r12 h13 => ?_
  show sm _ _ _ _ 27 [(0, .ref a0), (1, .ref a1)] [.ref r12, .int (Int32.ofNat n10), .int (0 : Int32), .ref r6, .int (0 : Int32), .ref r4] _ _
  refine sm_len rfl rfl fun n14 h15 => ?_
  show sm _ _ _ _ 28 [(0, .ref a0), (1, .ref a1)] [.int (Int32.ofNat n14), .int (Int32.ofNat n10), .int (0 : Int32), .ref r6, .int (0 : Int32), .ref r4] _ _
  refine sm_at rfl rfl rfl ?_
  show sm _ _ _ _ 31 [(0, .ref a0), (1, .ref a1)] [.int (if (Int32.ofNat n14) < (Int32.ofNat n10) then (Int32.ofNat n14) else (Int32.ofNat n10)), .int (0 : Int32), .ref r6, .int (0 : Int32), .ref r4] _ _
  refine sm_gd fun h16 => ?_
  refine sm_cp rfl h16 rfl rfl rfl ?_
  show sm _ _ _ _ 34 [(0, .ref a0), (1, .ref a1)] [] _ _
  exact sm_rV rfl rfl
theorem ca_96 (a0 : Nat) (a1 : Nat) (w : cm_W) : cm_ca cm_g 96 [.ref a0, .ref a1] w ((fn_96 a0 a1 w).map cm_gV) := cm_ca_of (cm_me_of rfl rfl) rfl (jt_96_0 a0 a1 w)
-- NailedBoxes$State.copyFrom(LNailedBoxes$State;)V
def fn_97 (a0 : Nat) (a1 : Nat) (w : cm_W) : Option cm_W := (if cm_sh w a0 = some (.inl 6) then (cm_R w a0 0).bind fun r2 => (if cm_sh w a1 = some (.inl 6) then (cm_R w a1 0).bind fun r5 => (if cm_sh w r2 = some (.inl 7) then (fn_96 r2 r5 w).bind fun w8 => (if cm_sh w8 a0 = some (.inl 6) then (cm_R w8 a0 1).bind fun r11 => (if cm_sh w8 a1 = some (.inl 6) then (cm_R w8 a1 1).bind fun r14 => (if cm_sh w8 r11 = some (.inl 7) then (fn_96 r11 r14 w8).bind fun w17 => (if cm_sh w17 a0 = some (.inl 6) then (cm_R w17 a0 2).bind fun r20 => (if cm_sh w17 a1 = some (.inl 6) then (cm_R w17 a1 2).bind fun r23 => (if cm_sh w17 r20 = some (.inl 7) then (fn_96 r20 r23 w17).bind fun w26 => (if cm_sh w26 a0 = some (.inl 6) then (cm_R w26 a0 3).bind fun r29 => (if cm_sh w26 a1 = some (.inl 6) then (cm_R w26 a1 3).bind fun r32 => (if cm_sh w26 r29 = some (.inl 7) then (fn_96 r29 r32 w26).bind fun w35 => (if cm_sh w35 a1 = some (.inl 6) then (cm_R w35 a1 4).bind fun r38 => (if cm_sh w35 a0 = some (.inl 6) then (cm_R w35 a0 4).bind fun r41 => (cm_R w35 a0 4).bind fun r43 => (cm_al w35 r43).bind fun n45 => (if cm_gc w35 30 96 r38 (0 : Int32) r41 (0 : Int32) (Int32.ofNat n45) = true then (cm_R (cm_cI w35 r38 (0 : Int32).toNatClampNeg r41 (0 : Int32).toNatClampNeg (Int32.ofNat n45).toNatClampNeg) a1 5).bind fun r48 => (cm_R (cm_cI w35 r38 (0 : Int32).toNatClampNeg r41 (0 : Int32).toNatClampNeg (Int32.ofNat n45).toNatClampNeg) a0 5).bind fun r50 => (cm_R (cm_cI w35 r38 (0 : Int32).toNatClampNeg r41 (0 : Int32).toNatClampNeg (Int32.ofNat n45).toNatClampNeg) a0 5).bind fun r52 => (cm_al w35 r52).bind fun n54 => (if cm_gc w35 30 96 r48 (0 : Int32) r50 (0 : Int32) (Int32.ofNat n54) = true then (if cm_w2 30 96 a0 = true then some (cm_sL (cm_sI (cm_cI (cm_cI w35 r38 (0 : Int32).toNatClampNeg r41 (0 : Int32).toNatClampNeg (Int32.ofNat n45).toNatClampNeg) r48 (0 : Int32).toNatClampNeg r50 (0 : Int32).toNatClampNeg (Int32.ofNat n54).toNatClampNeg) a0 6 (cm_I (cm_cI (cm_cI w35 r38 (0 : Int32).toNatClampNeg r41 (0 : Int32).toNatClampNeg (Int32.ofNat n45).toNatClampNeg) r48 (0 : Int32).toNatClampNeg r50 (0 : Int32).toNatClampNeg (Int32.ofNat n54).toNatClampNeg) a1 6)) a0 7 (cm_L (cm_sI (cm_cI (cm_cI w35 r38 (0 : Int32).toNatClampNeg r41 (0 : Int32).toNatClampNeg (Int32.ofNat n45).toNatClampNeg) r48 (0 : Int32).toNatClampNeg r50 (0 : Int32).toNatClampNeg (Int32.ofNat n54).toNatClampNeg) a0 6 (cm_I (cm_cI (cm_cI w35 r38 (0 : Int32).toNatClampNeg r41 (0 : Int32).toNatClampNeg (Int32.ofNat n45).toNatClampNeg) r48 (0 : Int32).toNatClampNeg r50 (0 : Int32).toNatClampNeg (Int32.ofNat n54).toNatClampNeg) a1 6)) a1 7)) else none) else none) else none) else none) else none) else none) else none) else none) else none) else none) else none) else none) else none) else none) else none) else none) else none)
theorem jt_97_0 (a0 : Nat) (a1 : Nat) (w : cm_W) : sm cm_g 97 ck_97 kq_97 0 [(0, .ref a0), (1, .ref a1)] [] w ((fn_97 a0 a1 w).map cm_gV) := by
  unfold fn_97
  refine sm_seg 1 1 [(0, .ref a0), (1, .ref a1)] [.ref a0] rfl ?_
  refine sm_gd fun h1 => ?_
  refine sm_gR rfl h1 rfl rfl fun r2 h3 => ?_
  show sm _ _ _ _ 4 [(0, .ref a0), (1, .ref a1)] [.ref r2] _ _
  refine sm_seg 1 5 [(0, .ref a0), (1, .ref a1)] [.ref a1, .ref r2] rfl ?_
  refine sm_gd fun h4 => ?_
  refine sm_gR rfl h4 rfl rfl fun r5 h6 => ?_
  show sm _ _ _ _ 8 [(0, .ref a0), (1, .ref a1)] [.ref r5, .ref r2] _ _
  refine sm_gd fun h7 => ?_
  refine sm_cV (as := [.ref r5]) (rest := []) rfl rfl rfl rfl h7 (Nat.le_of_ble_eq_true rfl) (ca_96  r2 r5 w) fun w8 h9 => ?_
  show sm _ _ _ _ 11 [(0, .ref a0), (1, .ref a1)] [] _ _
  refine sm_seg 1 12 [(0, .ref a0), (1, .ref a1)] [.ref a0] rfl ?_
  refine sm_gd fun h10 => ?_
  refine sm_gR rfl h10 rfl rfl fun r11 h12 => ?_
  show sm _ _ _ _ 15 [(0, .ref a0), (1, .ref a1)] [.ref r11] _ _
  refine sm_seg 1 16 [(0, .ref a0), (1, .ref a1)] [.ref a1, .ref r11] rfl ?_
  refine sm_gd fun h13 => ?_
  refine sm_gR rfl h13 rfl rfl fun r14 h15 => ?_
  show sm _ _ _ _ 19 [(0, .ref a0), (1, .ref a1)] [.ref r14, .ref r11] _ _
  refine sm_gd fun h16 => ?_
  refine sm_cV (as := [.ref r14]) (rest := []) rfl rfl rfl rfl h16 (Nat.le_of_ble_eq_true rfl) (ca_96  r11 r14 w8) fun w17 h18 => ?_
  show sm _ _ _ _ 22 [(0, .ref a0), (1, .ref a1)] [] _ _
  refine sm_seg 1 23 [(0, .ref a0), (1, .ref a1)] [.ref a0] rfl ?_
  refine sm_gd fun h19 => ?_
  refine sm_gR rfl h19 rfl rfl fun r20 h21 => ?_
  show sm _ _ _ _ 26 [(0, .ref a0), (1, .ref a1)] [.ref r20] _ _
  refine sm_seg 1 27 [(0, .ref a0), (1, .ref a1)] [.ref a1, .ref r20] rfl ?_
  refine sm_gd fun h22 => ?_
  refine sm_gR rfl h22 rfl rfl fun r23 h24 => ?_
  show sm _ _ _ _ 30 [(0, .ref a0), (1, .ref a1)] [.ref r23, .ref r20] _ _
  refine sm_gd fun h25 => ?_
  refine sm_cV (as := [.ref r23]) (rest := []) rfl rfl rfl rfl h25 (Nat.le_of_ble_eq_true rfl) (ca_96  r20 r23 w17) fun w26 h27 => ?_
  show sm _ _ _ _ 33 [(0, .ref a0), (1, .ref a1)] [] _ _
  refine sm_seg 1 34 [(0, .ref a0), (1, .ref a1)] [.ref a0] rfl ?_
  refine sm_gd fun h28 => ?_
  refine sm_gR rfl h28 rfl rfl fun r29 h30 => ?_
  show sm _ _ _ _ 37 [(0, .ref a0), (1, .ref a1)] [.ref r29] _ _
  refine sm_seg 1 38 [(0, .ref a0), (1, .ref a1)] [.ref a1, .ref r29] rfl ?_
  refine sm_gd fun h31 => ?_
  refine sm_gR rfl h31 rfl rfl fun r32 h33 => ?_
  show sm _ _ _ _ 41 [(0, .ref a0), (1, .ref a1)] [.ref r32, .ref r29] _ _
  refine sm_gd fun h34 => ?_
  refine sm_cV (as := [.ref r32]) (rest := []) rfl rfl rfl rfl h34 (Nat.le_of_ble_eq_true rfl) (ca_96  r29 r32 w26) fun w35 h36 => ?_
  show sm _ _ _ _ 44 [(0, .ref a0), (1, .ref a1)] [] _ _
  refine sm_seg 1 45 [(0, .ref a0), (1, .ref a1)] [.ref a1] rfl ?_
  refine sm_gd fun h37 => ?_
  refine sm_gR rfl h37 rfl rfl fun r38 h39 => ?_
  show sm _ _ _ _ 48 [(0, .ref a0), (1, .ref a1)] [.ref r38] _ _
  refine sm_seg 2 50 [(0, .ref a0), (1, .ref a1)] [.ref a0, .int (0 : Int32), .ref r38] rfl ?_
  refine sm_gd fun h40 => ?_
  refine sm_gR rfl h40 rfl rfl fun r41 h42 => ?_
  show sm _ _ _ _ 53 [(0, .ref a0), (1, .ref a1)] [.ref r41, .int (0 : Int32), .ref r38] _ _
  refine sm_seg 2 55 [(0, .ref a0), (1, .ref a1)] [.ref a0, .int (0 : Int32), .ref r41, .int (0 : Int32), .ref r38] rfl ?_
  refine sm_gR rfl h40 rfl rfl fun r43 h44 => ?_
  show sm _ _ _ _ 58 [(0, .ref a0), (1, .ref a1)] [.ref r43, .int (0 : Int32), .ref r41, .int (0 : Int32), .ref r38] _ _
  refine sm_len rfl rfl fun n45 h46 => ?_
  show sm _ _ _ _ 59 [(0, .ref a0), (1, .ref a1)] [.int (Int32.ofNat n45), .int (0 : Int32), .ref r41, .int (0 : Int32), .ref r38] _ _
  refine sm_gd fun h47 => ?_
  refine sm_cp rfl h47 rfl rfl rfl ?_
  show sm _ _ _ _ 62 [(0, .ref a0), (1, .ref a1)] [] _ _
  refine sm_seg 1 63 [(0, .ref a0), (1, .ref a1)] [.ref a1] rfl ?_
  refine sm_gR rfl h37 rfl rfl fun r48 h49 => ?_
  show sm _ _ _ _ 66 [(0, .ref a0), (1, .ref a1)] [.ref r48] _ _
  refine sm_seg 2 68 [(0, .ref a0), (1, .ref a1)] [.ref a0, .int (0 : Int32), .ref r48] rfl ?_
  refine sm_gR rfl h40 rfl rfl fun r50 h51 => ?_
  show sm _ _ _ _ 71 [(0, .ref a0), (1, .ref a1)] [.ref r50, .int (0 : Int32), .ref r48] _ _
  refine sm_seg 2 73 [(0, .ref a0), (1, .ref a1)] [.ref a0, .int (0 : Int32), .ref r50, .int (0 : Int32), .ref r48] rfl ?_
  refine sm_gR rfl h40 rfl rfl fun r52 h53 => ?_
  show sm _ _ _ _ 76 [(0, .ref a0), (1, .ref a1)] [.ref r52, .int (0 : Int32), .ref r50, .int (0 : Int32), .ref r48] _ _
  refine sm_len rfl rfl fun n54 h55 => ?_
  show sm _ _ _ _ 77 [(0, .ref a0), (1, .ref a1)] [.int (Int32.ofNat n54), .int (0 : Int32), .ref r50, .int (0 : Int32), .ref r48] _ _
  refine sm_gd fun h56 => ?_
  refine sm_cp rfl h56 rfl rfl rfl ?_
  show sm _ _ _ _ 80 [(0, .ref a0), (1, .ref a1)] [] _ _
  refine sm_seg 2 82 [(0, .ref a0), (1, .ref a1)] [.ref a1, .ref a0] rfl ?_
  refine sm_gI rfl h37 rfl ?_
  show sm _ _ _ _ 85 [(0, .ref a0), (1, .ref a1)] [.int (cm_I (cm_cI (cm_cI w35 r38 (0 : Int32).toNatClampNeg r41 (0 : Int32).toNatClampNeg (Int32.ofNat n45).toNatClampNeg) r48 (0 : Int32).toNatClampNeg r50 (0 : Int32).toNatClampNeg (Int32.ofNat n54).toNatClampNeg) a1 6), .ref a0] _ _
  refine sm_gd fun h57 => ?_
  refine sm_pI rfl h40 rfl h57 rfl ?_
  show sm _ _ _ _ 88 [(0, .ref a0), (1, .ref a1)] [] _ _
  refine sm_seg 2 90 [(0, .ref a0), (1, .ref a1)] [.ref a1, .ref a0] rfl ?_
  refine sm_gL rfl h37 rfl ?_
  show sm _ _ _ _ 93 [(0, .ref a0), (1, .ref a1)] [.long (cm_L (cm_sI (cm_cI (cm_cI w35 r38 (0 : Int32).toNatClampNeg r41 (0 : Int32).toNatClampNeg (Int32.ofNat n45).toNatClampNeg) r48 (0 : Int32).toNatClampNeg r50 (0 : Int32).toNatClampNeg (Int32.ofNat n54).toNatClampNeg) a0 6 (cm_I (cm_cI (cm_cI w35 r38 (0 : Int32).toNatClampNeg r41 (0 : Int32).toNatClampNeg (Int32.ofNat n45).toNatClampNeg) r48 (0 : Int32).toNatClampNeg r50 (0 : Int32).toNatClampNeg (Int32.ofNat n54).toNatClampNeg) a1 6)) a1 7), .ref a0] _ _
  refine sm_pL rfl h40 rfl h57 rfl ?_
  show sm _ _ _ _ 96 [(0, .ref a0), (1, .ref a1)] [] _ _
  exact sm_rV rfl rfl
theorem ca_97 (a0 : Nat) (a1 : Nat) (w : cm_W) : cm_ca cm_g 97 [.ref a0, .ref a1] w ((fn_97 a0 a1 w).map cm_gV) := cm_ca_of (cm_me_of rfl rfl) rfl (jt_97_0 a0 a1 w)
-- NailedBoxes$Table.append()I
def fn_98_9 (a0 : Nat) (w : cm_W) : Option (Int32 × cm_W) := (if cm_sh w a0 = some (.inl 7) then (if cm_w2 30 41 a0 = true then some (((cm_I (cm_sI w a0 2 ((cm_I w a0 2) + (1 : Int32))) a0 2) - (1 : Int32)), (cm_sI w a0 2 ((cm_I w a0 2) + (1 : Int32)))) else none) else none)
theorem jt_98_9 (a0 : Nat) (w : cm_W) : sm cm_g 98 ck_98 kq_98 9 [(0, .ref a0)] [] w ((fn_98_9 a0 w).map cm_gI) := by
  unfold fn_98_9
  refine sm_seg 2 11 [(0, .ref a0)] [.ref a0, .ref a0] rfl ?_
  refine sm_gd fun h1 => ?_
  refine sm_gI rfl h1 rfl ?_
  show sm _ _ _ _ 14 [(0, .ref a0)] [.int (cm_I w a0 2), .ref a0] _ _
  refine sm_seg 2 16 [(0, .ref a0)] [.int ((cm_I w a0 2) + (1 : Int32)), .ref a0] rfl ?_
  refine sm_gd fun h2 => ?_
  refine sm_pI rfl h1 rfl h2 rfl ?_
  show sm _ _ _ _ 19 [(0, .ref a0)] [] _ _
  refine sm_seg 1 20 [(0, .ref a0)] [.ref a0] rfl ?_
  refine sm_gI rfl h1 rfl ?_
  show sm _ _ _ _ 23 [(0, .ref a0)] [.int (cm_I (cm_sI w a0 2 ((cm_I w a0 2) + (1 : Int32))) a0 2)] _ _
  refine sm_seg 2 25 [(0, .ref a0)] [.int ((cm_I (cm_sI w a0 2 ((cm_I w a0 2) + (1 : Int32))) a0 2) - (1 : Int32))] rfl ?_
  exact sm_rIW rfl rfl
def fn_98 (a0 : Nat) (w : cm_W) : Option (Int32 × cm_W) := (if cm_sh w a0 = some (.inl 7) then (fn_64 w a0).bind fun v4 => (if (cm_b v4) = 0 then fn_98_9  a0 w else some ((-1 : Int32), w)) else none)
theorem jt_98_0 (a0 : Nat) (w : cm_W) : sm cm_g 98 ck_98 kq_98 0 [(0, .ref a0)] [] w ((fn_98 a0 w).map cm_gI) := by
  unfold fn_98
  refine sm_seg 1 1 [(0, .ref a0)] [.ref a0] rfl ?_
  refine sm_gd fun h3 => ?_
  refine sm_cV (as := []) (rest := []) rfl rfl rfl rfl h3 (Nat.le_of_ble_eq_true rfl) (ca_64 w a0) fun v4 h5 => ?_
  show sm _ _ _ _ 4 [(0, .ref a0)] [.int (cm_b v4)] _ _
  refine sm_if (pc1 := 9) (lv1 := [(0, .ref a0)]) (pc2 := 7) (lv2 := [(0, .ref a0)]) (st1 := []) rfl rfl rfl (fun h6 => ?_) (fun h6 => ?_)
  · exact jt_98_9  a0 w
  · refine sm_seg 1 8 [(0, .ref a0)] [.int (-1 : Int32)] rfl ?_
    exact sm_rIW rfl rfl
theorem ca_98 (a0 : Nat) (w : cm_W) : cm_ca cm_g 98 [.ref a0] w ((fn_98 a0 w).map cm_gI) := cm_ca_of (cm_me_of rfl rfl) rfl (jt_98_0 a0 w)
-- NailedBoxes$Table.set(III)V
def fn_99 (a0 : Nat) (i1 : Int32) (i2 : Int32) (i3 : Int32) (w : cm_W) : Option cm_W := (if cm_sh w a0 = some (.inl 7) then (fn_7 w a0 i1).bind fun v2 => (if (cm_b v2) = 0 then some w else (if i2 < 0 then some w else (if (cm_I w a0 0) ≤ i2 then some w else (cm_R w a0 1).bind fun r7 => (if cm_ga w .int r7 ((i1 * (cm_I w a0 0)) + i2) = true then (if cm_w2 30 41 r7 = true then some (cm_sI w r7 ((i1 * (cm_I w a0 0)) + i2).toNatClampNeg i3) else none) else none)))) else none)
theorem jt_99_0 (a0 : Nat) (i1 : Int32) (i2 : Int32) (i3 : Int32) (w : cm_W) : sm cm_g 99 ck_99 kq_99 0 [(0, .ref a0), (1, .int i1), (2, .int i2), (3, .int i3)] [] w ((fn_99 a0 i1 i2 i3 w).map cm_gV) := by
  unfold fn_99
  refine sm_seg 2 2 [(0, .ref a0), (1, .int i1), (2, .int i2), (3, .int i3)] [.int i1, .ref a0] rfl ?_
  refine sm_gd fun h1 => ?_
  refine sm_cV (as := [.int i1]) (rest := []) rfl rfl rfl rfl h1 (Nat.le_of_ble_eq_true rfl) (ca_7 w a0 i1) fun v2 h3 => ?_
  show sm _ _ _ _ 5 [(0, .ref a0), (1, .int i1), (2, .int i2), (3, .int i3)] [.int (cm_b v2)] _ _
  refine sm_if (pc1 := 34) (lv1 := []) (pc2 := 8) (lv2 := [(0, .ref a0), (1, .int i1), (2, .int i2), (3, .int i3)]) (st1 := []) rfl rfl rfl (fun h4 => ?_) (fun h4 => ?_)
  · exact sm_rV rfl rfl
  · refine sm_seg 1 9 [(0, .ref a0), (1, .int i1), (2, .int i2), (3, .int i3)] [.int i2] rfl ?_
    refine sm_if (pc1 := 34) (lv1 := []) (pc2 := 12) (lv2 := [(0, .ref a0), (1, .int i1), (2, .int i2), (3, .int i3)]) (st1 := []) rfl rfl rfl (fun h5 => ?_) (fun h5 => ?_)
    · exact sm_rV rfl rfl
    · refine sm_seg 2 14 [(0, .ref a0), (1, .int i1), (2, .int i2), (3, .int i3)] [.ref a0, .int i2] rfl ?_
      refine sm_gI rfl h1 rfl ?_
      show sm _ _ _ _ 17 [(0, .ref a0), (1, .int i1), (2, .int i2), (3, .int i3)] [.int (cm_I w a0 0), .int i2] _ _
      refine sm_if (pc1 := 34) (lv1 := []) (pc2 := 20) (lv2 := [(0, .ref a0), (1, .int i1), (2, .int i2), (3, .int i3)]) (st1 := []) rfl rfl rfl (fun h6 => ?_) (fun h6 => ?_)
      · exact sm_rV rfl rfl
      · refine sm_seg 1 21 [(0, .ref a0), (1, .int i1), (2, .int i2), (3, .int i3)] [.ref a0] rfl ?_
        refine sm_gR rfl h1 rfl rfl fun r7 h8 => ?_
        show sm _ _ _ _ 24 [(0, .ref a0), (1, .int i1), (2, .int i2), (3, .int i3)] [.ref r7] _ _
        refine sm_seg 2 26 [(0, .ref a0), (1, .int i1), (2, .int i2), (3, .int i3)] [.ref a0, .int i1, .ref r7] rfl ?_
        refine sm_gI rfl h1 rfl ?_
        show sm _ _ _ _ 29 [(0, .ref a0), (1, .int i1), (2, .int i2), (3, .int i3)] [.int (cm_I w a0 0), .int i1, .ref r7] _ _
        refine sm_seg 4 33 [(0, .ref a0), (1, .int i1), (2, .int i2), (3, .int i3)] [.int i3, .int ((i1 * (cm_I w a0 0)) + i2), .ref r7] rfl ?_
        refine sm_gd fun h9 => ?_
        refine sm_gd fun h10 => ?_
        refine sm_si rfl h9 h10 rfl rfl ?_
        show sm _ _ _ _ 34 [] [] _ _
        exact sm_rV rfl rfl
theorem ca_99 (a0 : Nat) (i1 : Int32) (i2 : Int32) (i3 : Int32) (w : cm_W) : cm_ca cm_g 99 [.ref a0, .int i1, .int i2, .int i3] w ((fn_99 a0 i1 i2 i3 w).map cm_gV) := cm_ca_of (cm_me_of rfl rfl) rfl (jt_99_0 a0 i1 i2 i3 w)
-- NailedBoxes$State.isPurse(I)Z
def fn_100 (w : cm_W) (i0 : Int32) : Option Bool := (if i0 < 0 then some false else (if (12 : Int32) ≤ i0 then some false else some true))
theorem jt_100_0 (w : cm_W) (i0 : Int32) : sm cm_g 100 ck_100 kq_100 0 [(0, .int i0)] [] w ((fn_100 w i0).map (cm_fB w)) := by
  unfold fn_100
  refine sm_seg 1 1 [(0, .int i0)] [.int i0] rfl ?_
  refine sm_if (pc1 := 14) (lv1 := []) (pc2 := 4) (lv2 := [(0, .int i0)]) (st1 := []) rfl rfl rfl (fun h1 => ?_) (fun h1 => ?_)
  · refine sm_seg 1 15 [] [.int (0 : Int32)] rfl ?_
    exact sm_rB (b := false) rfl rfl
  · refine sm_seg 2 7 [(0, .int i0)] [.int (12 : Int32), .int i0] rfl ?_
    refine sm_if (pc1 := 14) (lv1 := []) (pc2 := 10) (lv2 := [(0, .int i0)]) (st1 := []) rfl rfl rfl (fun h2 => ?_) (fun h2 => ?_)
    · refine sm_seg 1 15 [] [.int (0 : Int32)] rfl ?_
      exact sm_rB (b := false) rfl rfl
    · refine sm_seg 2 15 [] [.int (1 : Int32)] rfl ?_
      exact sm_rB (b := true) rfl rfl
theorem ca_100 (w : cm_W) (i0 : Int32) : cm_ca cm_g 100 [.int i0] w ((fn_100 w i0).map (cm_fB w)) := cm_ca_of (cm_me_of rfl rfl) rfl (jt_100_0 w i0)
-- NailedBoxes$State.learn(II)V
def fn_101 (a0 : Nat) (i1 : Int32) (i2 : Int32) (w : cm_W) : Option cm_W := (fn_100 w i2).bind fun v1 => (if (cm_b v1) = 0 then some w else (if cm_sh w a0 = some (.inl 6) then (cm_R w a0 0).bind fun r5 => (cm_R w a0 0).bind fun r7 => (if cm_sh w r7 = some (.inl 7) then (fn_1 w r7 i1 (4 : Int32)).bind fun v10 => (if cm_sh w r5 = some (.inl 7) then (fn_99 r5 i1 (4 : Int32) (v10 ||| ((1 : Int32) <<< (i2 &&& 31))) w).bind fun w13 => some w13 else none) else none) else none))
theorem jt_101_0 (a0 : Nat) (i1 : Int32) (i2 : Int32) (w : cm_W) : sm cm_g 101 ck_101 kq_101 0 [(0, .ref a0), (1, .int i1), (2, .int i2)] [] w ((fn_101 a0 i1 i2 w).map cm_gV) := by
  unfold fn_101
  refine sm_seg 1 1 [(0, .ref a0), (1, .int i1), (2, .int i2)] [.int i2] rfl ?_
  refine sm_cS (av := [.int i2]) (rest := []) rfl rfl rfl rfl (Nat.le_of_ble_eq_true rfl) (ca_100 w i2) fun v1 h2 => ?_
  show sm _ _ _ _ 4 [(0, .ref a0), (1, .int i1), (2, .int i2)] [.int (cm_b v1)] _ _
  refine sm_if (pc1 := 29) (lv1 := []) (pc2 := 7) (lv2 := [(0, .ref a0), (1, .int i1), (2, .int i2)]) (st1 := []) rfl rfl rfl (fun h3 => ?_) (fun h3 => ?_)
  · exact sm_rV rfl rfl
  · refine sm_seg 1 8 [(0, .ref a0), (1, .int i1), (2, .int i2)] [.ref a0] rfl ?_
    refine sm_gd fun h4 => ?_
    refine sm_gR rfl h4 rfl rfl fun r5 h6 => ?_
    show sm _ _ _ _ 11 [(0, .ref a0), (1, .int i1), (2, .int i2)] [.ref r5] _ _
    refine sm_seg 3 14 [(0, .ref a0), (1, .int i1), (2, .int i2)] [.ref a0, .int (4 : Int32), .int i1, .ref r5] rfl ?_
    refine sm_gR rfl h4 rfl rfl fun r7 h8 => ?_
    show sm _ _ _ _ 17 [(0, .ref a0), (1, .int i1), (2, .int i2)] [.ref r7, .int (4 : Int32), .int i1, .ref r5] _ _
    refine sm_seg 2 19 [(0, .ref a0), (1, .int i1), (2, .int i2)] [.int (4 : Int32), .int i1, .ref r7, .int (4 : Int32), .int i1, .ref r5] rfl ?_
    refine sm_gd fun h9 => ?_
    refine sm_cV (as := [.int i1, .int (4 : Int32)]) (rest := [.int (4 : Int32), .int i1, .ref r5]) rfl rfl rfl rfl h9 (Nat.le_of_ble_eq_true rfl) (ca_1 w r7 i1 (4 : Int32)) fun v10 h11 => ?_
    show sm _ _ _ _ 22 [(0, .ref a0), (1, .int i1), (2, .int i2)] [.int v10, .int (4 : Int32), .int i1, .ref r5] _ _
    refine sm_seg 4 26 [(0, .ref a0), (1, .int i1), (2, .int i2)] [.int (v10 ||| ((1 : Int32) <<< (i2 &&& 31))), .int (4 : Int32), .int i1, .ref r5] rfl ?_
    refine sm_gd fun h12 => ?_
    refine sm_cV (as := [.int i1, .int (4 : Int32), .int (v10 ||| ((1 : Int32) <<< (i2 &&& 31)))]) (rest := []) rfl rfl rfl rfl h12 (Nat.le_of_ble_eq_true rfl) (ca_99  r5 i1 (4 : Int32) (v10 ||| ((1 : Int32) <<< (i2 &&& 31))) w) fun w13 h14 => ?_
    show sm _ _ _ _ 29 [] [] _ _
    exact sm_rV rfl rfl
theorem ca_101 (a0 : Nat) (i1 : Int32) (i2 : Int32) (w : cm_W) : cm_ca cm_g 101 [.ref a0, .int i1, .int i2] w ((fn_101 a0 i1 i2 w).map cm_gV) := cm_ca_of (cm_me_of rfl rfl) rfl (jt_101_0 a0 i1 i2 w)
-- NailedBoxes$State.hold(III)V
def fn_102 (a0 : Nat) (i1 : Int32) (i2 : Int32) (i3 : Int32) (w : cm_W) : Option cm_W := (fn_18 w i1 i2).bind fun v1 => (if (cm_b v1) = 0 then some w else (if cm_sh w a0 = some (.inl 6) then (cm_R w a0 4).bind fun r5 => (if cm_ga w .int r5 ((i1 * (12 : Int32)) + i2) = true then (if cm_w2 30 41 r5 = true then some (cm_sI w r5 ((i1 * (12 : Int32)) + i2).toNatClampNeg i3) else none) else none) else none))
theorem jt_102_0 (a0 : Nat) (i1 : Int32) (i2 : Int32) (i3 : Int32) (w : cm_W) : sm cm_g 102 ck_102 kq_102 0 [(0, .ref a0), (1, .int i1), (2, .int i2), (3, .int i3)] [] w ((fn_102 a0 i1 i2 i3 w).map cm_gV) := by
  unfold fn_102
  refine sm_seg 2 2 [(0, .ref a0), (1, .int i1), (2, .int i2), (3, .int i3)] [.int i2, .int i1] rfl ?_
  refine sm_cS (av := [.int i1, .int i2]) (rest := []) rfl rfl rfl rfl (Nat.le_of_ble_eq_true rfl) (ca_18 w i1 i2) fun v1 h2 => ?_
  show sm _ _ _ _ 5 [(0, .ref a0), (1, .int i1), (2, .int i2), (3, .int i3)] [.int (cm_b v1)] _ _
  refine sm_if (pc1 := 20) (lv1 := []) (pc2 := 8) (lv2 := [(0, .ref a0), (1, .int i1), (2, .int i2), (3, .int i3)]) (st1 := []) rfl rfl rfl (fun h3 => ?_) (fun h3 => ?_)
  · exact sm_rV rfl rfl
  · refine sm_seg 1 9 [(0, .ref a0), (1, .int i1), (2, .int i2), (3, .int i3)] [.ref a0] rfl ?_
    refine sm_gd fun h4 => ?_
    refine sm_gR rfl h4 rfl rfl fun r5 h6 => ?_
    show sm _ _ _ _ 12 [(0, .ref a0), (1, .int i1), (2, .int i2), (3, .int i3)] [.ref r5] _ _
    refine sm_seg 6 19 [(0, .ref a0), (1, .int i1), (2, .int i2), (3, .int i3)] [.int i3, .int ((i1 * (12 : Int32)) + i2), .ref r5] rfl ?_
    refine sm_gd fun h7 => ?_
    refine sm_gd fun h8 => ?_
    refine sm_si rfl h7 h8 rfl rfl ?_
    show sm _ _ _ _ 20 [] [] _ _
    exact sm_rV rfl rfl
theorem ca_102 (a0 : Nat) (i1 : Int32) (i2 : Int32) (i3 : Int32) (w : cm_W) : cm_ca cm_g 102 [.ref a0, .int i1, .int i2, .int i3] w ((fn_102 a0 i1 i2 i3 w).map cm_gV) := cm_ca_of (cm_me_of rfl rfl) rfl (jt_102_0 a0 i1 i2 i3 w)
-- NailedBoxes$State.addBox(II)I
def fn_103_80 : Nat → Nat → Int32 → Int32 → cm_W → Option (Int32 × cm_W)
  | 0, _, _, _, _ => none
  | n + 1, a0, i3, i4, w => (if (12 : Int32) ≤ i4 then some (i3, w) else (if cm_sh w a0 = some (.inl 6) then (fn_102 a0 i3 i4 (0 : Int32) w).bind fun w3 => fn_103_80 n a0 i3 (i4 + (1 : Int32)) w3 else none))
theorem jt_103_80 : ∀ (n : Nat) (a0 : Nat) (i3 : Int32) (i4 : Int32) (w : cm_W), sm cm_g 103 ck_103 kq_103 80 [(0, .ref a0), (3, .int i3), (4, .int i4)] [] w ((fn_103_80 n a0 i3 i4 w).map cm_gI) := by
  intro n
  induction n with
  | zero => intro a0 i3 i4 w; exact sm_no
  | succ n ih =>
    intro a0 i3 i4 w
    rw [fn_103_80]
    refine sm_seg 2 84 [(0, .ref a0), (3, .int i3), (4, .int i4)] [.int (12 : Int32), .int i4] rfl ?_
    refine sm_if (pc1 := 101) (lv1 := [(3, .int i3)]) (pc2 := 87) (lv2 := [(0, .ref a0), (3, .int i3), (4, .int i4)]) (st1 := []) rfl rfl rfl (fun h1 => ?_) (fun h1 => ?_)
    · refine sm_seg 1 102 [(3, .int i3)] [.int i3] rfl ?_
      exact sm_rIW rfl rfl
    · refine sm_seg 4 92 [(0, .ref a0), (3, .int i3), (4, .int i4)] [.int (0 : Int32), .int i4, .int i3, .ref a0] rfl ?_
      refine sm_gd fun h2 => ?_
      refine sm_cV (as := [.int i3, .int i4, .int (0 : Int32)]) (rest := []) rfl rfl rfl rfl h2 (Nat.le_of_ble_eq_true rfl) (ca_102  a0 i3 i4 (0 : Int32) w) fun w3 h4 => ?_
      show sm _ _ _ _ 95 [(0, .ref a0), (3, .int i3), (4, .int i4)] [] _ _
      refine sm_seg 2 80 [(0, .ref a0), (3, .int i3), (4, .int (i4 + (1 : Int32)))] [] rfl ?_
      exact ih a0 i3 (i4 + (1 : Int32)) w3
def fn_103 (a0 : Nat) (i1 : Int32) (i2 : Int32) (w : cm_W) : Option (Int32 × cm_W) := (if cm_sh w a0 = some (.inl 6) then (cm_R w a0 0).bind fun r6 => (if cm_sh w r6 = some (.inl 7) then (fn_98 r6 w).bind fun v9 => (if cm_sh v9.2 a0 = some (.inl 6) then (cm_R v9.2 a0 0).bind fun r12 => (if cm_sh v9.2 r12 = some (.inl 7) then (fn_99 r12 v9.1 (0 : Int32) i1 v9.2).bind fun w15 => (if cm_sh w15 a0 = some (.inl 6) then (cm_R w15 a0 0).bind fun r18 => (if cm_sh w15 r18 = some (.inl 7) then (fn_99 r18 v9.1 (1 : Int32) i2 w15).bind fun w21 => (if cm_sh w21 a0 = some (.inl 6) then (cm_R w21 a0 0).bind fun r24 => (if cm_sh w21 r24 = some (.inl 7) then (fn_99 r24 v9.1 (2 : Int32) i1 w21).bind fun w27 => (if cm_sh w27 a0 = some (.inl 6) then (cm_R w27 a0 0).bind fun r30 => (if cm_sh w27 r30 = some (.inl 7) then (fn_99 r30 v9.1 (3 : Int32) (-1 : Int32) w27).bind fun w33 => (if cm_sh w33 a0 = some (.inl 6) then (cm_R w33 a0 0).bind fun r36 => (if cm_sh w33 r36 = some (.inl 7) then (fn_99 r36 v9.1 (4 : Int32) (0 : Int32) w33).bind fun w39 => (if cm_sh w39 a0 = some (.inl 6) then (cm_R w39 a0 0).bind fun r42 => (if cm_sh w39 r42 = some (.inl 7) then (fn_99 r42 v9.1 (5 : Int32) (cm_I w39 a0 6) w39).bind fun w45 => (if cm_sh w45 a0 = some (.inl 6) then (fn_101 a0 v9.1 i1 w45).bind fun w48 => fn_103_80  cm_N a0 v9.1 (0 : Int32) w48 else none) else none) else none) else none) else none) else none) else none) else none) else none) else none) else none) else none) else none) else none) else none)
theorem jt_103_0 (a0 : Nat) (i1 : Int32) (i2 : Int32) (w : cm_W) : sm cm_g 103 ck_103 kq_103 0 [(0, .ref a0), (1, .int i1), (2, .int i2)] [] w ((fn_103 a0 i1 i2 w).map cm_gI) := by
  unfold fn_103
  refine sm_seg 1 1 [(0, .ref a0), (1, .int i1), (2, .int i2)] [.ref a0] rfl ?_
  refine sm_gd fun h5 => ?_
  refine sm_gR rfl h5 rfl rfl fun r6 h7 => ?_
  show sm _ _ _ _ 4 [(0, .ref a0), (1, .int i1), (2, .int i2)] [.ref r6] _ _
  refine sm_gd fun h8 => ?_
  refine sm_cV (as := []) (rest := []) rfl rfl rfl rfl h8 (Nat.le_of_ble_eq_true rfl) (ca_98  r6 w) fun v9 h10 => ?_
  show sm _ _ _ _ 7 [(0, .ref a0), (1, .int i1), (2, .int i2)] [.int v9.1] _ _
  refine sm_seg 2 9 [(3, .int v9.1), (0, .ref a0), (1, .int i1), (2, .int i2)] [.ref a0] rfl ?_
  refine sm_gd fun h11 => ?_
  refine sm_gR rfl h11 rfl rfl fun r12 h13 => ?_
  show sm _ _ _ _ 12 [(3, .int v9.1), (0, .ref a0), (1, .int i1), (2, .int i2)] [.ref r12] _ _
  refine sm_seg 3 15 [(3, .int v9.1), (0, .ref a0), (1, .int i1), (2, .int i2)] [.int i1, .int (0 : Int32), .int v9.1, .ref r12] rfl ?_
  refine sm_gd fun h14 => ?_
  refine sm_cV (as := [.int v9.1, .int (0 : Int32), .int i1]) (rest := []) rfl rfl rfl rfl h14 (Nat.le_of_ble_eq_true rfl) (ca_99  r12 v9.1 (0 : Int32) i1 v9.2) fun w15 h16 => ?_
  show sm _ _ _ _ 18 [(3, .int v9.1), (0, .ref a0), (1, .int i1), (2, .int i2)] [] _ _
  refine sm_seg 1 19 [(3, .int v9.1), (0, .ref a0), (1, .int i1), (2, .int i2)] [.ref a0] rfl ?_
  refine sm_gd fun h17 => ?_
  refine sm_gR rfl h17 rfl rfl fun r18 h19 => ?_
  show sm _ _ _ _ 22 [(3, .int v9.1), (0, .ref a0), (1, .int i1), (2, .int i2)] [.ref r18] _ _
  refine sm_seg 3 25 [(3, .int v9.1), (0, .ref a0), (1, .int i1), (2, .int i2)] [.int i2, .int (1 : Int32), .int v9.1, .ref r18] rfl ?_
  refine sm_gd fun h20 => ?_
  refine sm_cV (as := [.int v9.1, .int (1 : Int32), .int i2]) (rest := []) rfl rfl rfl rfl h20 (Nat.le_of_ble_eq_true rfl) (ca_99  r18 v9.1 (1 : Int32) i2 w15) fun w21 h22 => ?_
  show sm _ _ _ _ 28 [(3, .int v9.1), (0, .ref a0), (1, .int i1), (2, .int i2)] [] _ _
  refine sm_seg 1 29 [(3, .int v9.1), (0, .ref a0), (1, .int i1), (2, .int i2)] [.ref a0] rfl ?_
  refine sm_gd fun h23 => ?_
  refine sm_gR rfl h23 rfl rfl fun r24 h25 => ?_
  show sm _ _ _ _ 32 [(3, .int v9.1), (0, .ref a0), (1, .int i1), (2, .int i2)] [.ref r24] _ _
  refine sm_seg 3 35 [(3, .int v9.1), (0, .ref a0), (1, .int i1), (2, .int i2)] [.int i1, .int (2 : Int32), .int v9.1, .ref r24] rfl ?_
  refine sm_gd fun h26 => ?_
  refine sm_cV (as := [.int v9.1, .int (2 : Int32), .int i1]) (rest := []) rfl rfl rfl rfl h26 (Nat.le_of_ble_eq_true rfl) (ca_99  r24 v9.1 (2 : Int32) i1 w21) fun w27 h28 => ?_
  show sm _ _ _ _ 38 [(3, .int v9.1), (0, .ref a0), (1, .int i1), (2, .int i2)] [] _ _
  refine sm_seg 1 39 [(3, .int v9.1), (0, .ref a0), (1, .int i1), (2, .int i2)] [.ref a0] rfl ?_
  refine sm_gd fun h29 => ?_
  refine sm_gR rfl h29 rfl rfl fun r30 h31 => ?_
  show sm _ _ _ _ 42 [(3, .int v9.1), (0, .ref a0), (1, .int i1), (2, .int i2)] [.ref r30] _ _
  refine sm_seg 3 45 [(3, .int v9.1), (0, .ref a0), (1, .int i1), (2, .int i2)] [.int (-1 : Int32), .int (3 : Int32), .int v9.1, .ref r30] rfl ?_
  refine sm_gd fun h32 => ?_
  refine sm_cV (as := [.int v9.1, .int (3 : Int32), .int (-1 : Int32)]) (rest := []) rfl rfl rfl rfl h32 (Nat.le_of_ble_eq_true rfl) (ca_99  r30 v9.1 (3 : Int32) (-1 : Int32) w27) fun w33 h34 => ?_
  show sm _ _ _ _ 48 [(3, .int v9.1), (0, .ref a0), (1, .int i1), (2, .int i2)] [] _ _
  refine sm_seg 1 49 [(3, .int v9.1), (0, .ref a0), (1, .int i1), (2, .int i2)] [.ref a0] rfl ?_
  refine sm_gd fun h35 => ?_
  refine sm_gR rfl h35 rfl rfl fun r36 h37 => ?_
  show sm _ _ _ _ 52 [(3, .int v9.1), (0, .ref a0), (1, .int i1), (2, .int i2)] [.ref r36] _ _
  refine sm_seg 3 55 [(3, .int v9.1), (0, .ref a0), (1, .int i1), (2, .int i2)] [.int (0 : Int32), .int (4 : Int32), .int v9.1, .ref r36] rfl ?_
  refine sm_gd fun h38 => ?_
  refine sm_cV (as := [.int v9.1, .int (4 : Int32), .int (0 : Int32)]) (rest := []) rfl rfl rfl rfl h38 (Nat.le_of_ble_eq_true rfl) (ca_99  r36 v9.1 (4 : Int32) (0 : Int32) w33) fun w39 h40 => ?_
  show sm _ _ _ _ 58 [(3, .int v9.1), (0, .ref a0), (1, .int i1), (2, .int i2)] [] _ _
  refine sm_seg 1 59 [(3, .int v9.1), (0, .ref a0), (1, .int i1), (2, .int i2)] [.ref a0] rfl ?_
  refine sm_gd fun h41 => ?_
  refine sm_gR rfl h41 rfl rfl fun r42 h43 => ?_
  show sm _ _ _ _ 62 [(3, .int v9.1), (0, .ref a0), (1, .int i1), (2, .int i2)] [.ref r42] _ _
  refine sm_seg 3 65 [(3, .int v9.1), (0, .ref a0), (1, .int i1), (2, .int i2)] [.ref a0, .int (5 : Int32), .int v9.1, .ref r42] rfl ?_
  refine sm_gI rfl h41 rfl ?_
  show sm _ _ _ _ 68 [(3, .int v9.1), (0, .ref a0), (1, .int i1), (2, .int i2)] [.int (cm_I w39 a0 6), .int (5 : Int32), .int v9.1, .ref r42] _ _
  refine sm_gd fun h44 => ?_
  refine sm_cV (as := [.int v9.1, .int (5 : Int32), .int (cm_I w39 a0 6)]) (rest := []) rfl rfl rfl rfl h44 (Nat.le_of_ble_eq_true rfl) (ca_99  r42 v9.1 (5 : Int32) (cm_I w39 a0 6) w39) fun w45 h46 => ?_
  show sm _ _ _ _ 71 [(3, .int v9.1), (0, .ref a0), (1, .int i1), (2, .int i2)] [] _ _
  refine sm_seg 3 74 [(3, .int v9.1), (0, .ref a0), (1, .int i1), (2, .int i2)] [.int i1, .int v9.1, .ref a0] rfl ?_
  refine sm_gd fun h47 => ?_
  refine sm_cV (as := [.int v9.1, .int i1]) (rest := []) rfl rfl rfl rfl h47 (Nat.le_of_ble_eq_true rfl) (ca_101  a0 v9.1 i1 w45) fun w48 h49 => ?_
  show sm _ _ _ _ 77 [(3, .int v9.1), (0, .ref a0), (1, .int i1), (2, .int i2)] [] _ _
  refine sm_seg 2 80 [(0, .ref a0), (3, .int v9.1), (4, .int (0 : Int32))] [] rfl ?_
  exact jt_103_80  cm_N a0 v9.1 (0 : Int32) w48
theorem ca_103 (a0 : Nat) (i1 : Int32) (i2 : Int32) (w : cm_W) : cm_ca cm_g 103 [.ref a0, .int i1, .int i2] w ((fn_103 a0 i1 i2 w).map cm_gI) := cm_ca_of (cm_me_of rfl rfl) rfl (jt_103_0 a0 i1 i2 w)
-- NailedBoxes$State.knows(II)Z
def fn_104 (w : cm_W) (a0 : Nat) (i1 : Int32) (i2 : Int32) : Option Bool := (if cm_sh w a0 = some (.inl 6) then (cm_R w a0 0).bind fun r2 => (if cm_sh w r2 = some (.inl 7) then (fn_7 w r2 i1).bind fun v5 => (if (cm_b v5) = 0 then some false else (fn_100 w i2).bind fun v8 => (if (cm_b v8) = 0 then some false else (cm_R w a0 0).bind fun r11 => (if cm_sh w r11 = some (.inl 7) then (fn_1 w r11 i1 (4 : Int32)).bind fun v14 => (if ¬ ((v14 >>> (i2 &&& 31)) &&& (1 : Int32)) = (1 : Int32) then some false else some true) else none))) else none) else none)
theorem jt_104_0 (w : cm_W) (a0 : Nat) (i1 : Int32) (i2 : Int32) : sm cm_g 104 ck_104 kq_104 0 [(0, .ref a0), (1, .int i1), (2, .int i2)] [] w ((fn_104 w a0 i1 i2).map (cm_fB w)) := by
  unfold fn_104
  refine sm_seg 1 1 [(0, .ref a0), (1, .int i1), (2, .int i2)] [.ref a0] rfl ?_
  refine sm_gd fun h1 => ?_
  refine sm_gR rfl h1 rfl rfl fun r2 h3 => ?_
  show sm _ _ _ _ 4 [(0, .ref a0), (1, .int i1), (2, .int i2)] [.ref r2] _ _
  refine sm_seg 1 5 [(0, .ref a0), (1, .int i1), (2, .int i2)] [.int i1, .ref r2] rfl ?_
  refine sm_gd fun h4 => ?_
  refine sm_cV (as := [.int i1]) (rest := []) rfl rfl rfl rfl h4 (Nat.le_of_ble_eq_true rfl) (ca_7 w r2 i1) fun v5 h6 => ?_
  show sm _ _ _ _ 8 [(0, .ref a0), (1, .int i1), (2, .int i2)] [.int (cm_b v5)] _ _
  refine sm_if (pc1 := 39) (lv1 := []) (pc2 := 11) (lv2 := [(0, .ref a0), (1, .int i1), (2, .int i2)]) (st1 := []) rfl rfl rfl (fun h7 => ?_) (fun h7 => ?_)
  · refine sm_seg 1 40 [] [.int (0 : Int32)] rfl ?_
    exact sm_rB (b := false) rfl rfl
  · refine sm_seg 1 12 [(0, .ref a0), (1, .int i1), (2, .int i2)] [.int i2] rfl ?_
    refine sm_cS (av := [.int i2]) (rest := []) rfl rfl rfl rfl (Nat.le_of_ble_eq_true rfl) (ca_100 w i2) fun v8 h9 => ?_
    show sm _ _ _ _ 15 [(0, .ref a0), (1, .int i1), (2, .int i2)] [.int (cm_b v8)] _ _
    refine sm_if (pc1 := 39) (lv1 := []) (pc2 := 18) (lv2 := [(0, .ref a0), (1, .int i1), (2, .int i2)]) (st1 := []) rfl rfl rfl (fun h10 => ?_) (fun h10 => ?_)
    · refine sm_seg 1 40 [] [.int (0 : Int32)] rfl ?_
      exact sm_rB (b := false) rfl rfl
    · refine sm_seg 1 19 [(0, .ref a0), (1, .int i1), (2, .int i2)] [.ref a0] rfl ?_
      refine sm_gR rfl h1 rfl rfl fun r11 h12 => ?_
      show sm _ _ _ _ 22 [(0, .ref a0), (1, .int i1), (2, .int i2)] [.ref r11] _ _
      refine sm_seg 2 24 [(0, .ref a0), (1, .int i1), (2, .int i2)] [.int (4 : Int32), .int i1, .ref r11] rfl ?_
      refine sm_gd fun h13 => ?_
      refine sm_cV (as := [.int i1, .int (4 : Int32)]) (rest := []) rfl rfl rfl rfl h13 (Nat.le_of_ble_eq_true rfl) (ca_1 w r11 i1 (4 : Int32)) fun v14 h15 => ?_
      show sm _ _ _ _ 27 [(0, .ref a0), (1, .int i1), (2, .int i2)] [.int v14] _ _
      refine sm_seg 5 32 [(0, .ref a0), (1, .int i1), (2, .int i2)] [.int (1 : Int32), .int ((v14 >>> (i2 &&& 31)) &&& (1 : Int32))] rfl ?_
      refine sm_if (pc1 := 39) (lv1 := []) (pc2 := 35) (lv2 := [(0, .ref a0), (1, .int i1), (2, .int i2)]) (st1 := []) rfl rfl rfl (fun h16 => ?_) (fun h16 => ?_)
      · refine sm_seg 1 40 [] [.int (0 : Int32)] rfl ?_
        exact sm_rB (b := false) rfl rfl
      · refine sm_seg 2 40 [] [.int (1 : Int32)] rfl ?_
        exact sm_rB (b := true) rfl rfl
theorem ca_104 (w : cm_W) (a0 : Nat) (i1 : Int32) (i2 : Int32) : cm_ca cm_g 104 [.ref a0, .int i1, .int i2] w ((fn_104 w a0 i1 i2).map (cm_fB w)) := cm_ca_of (cm_me_of rfl rfl) rfl (jt_104_0 w a0 i1 i2)
-- NailedBoxes$State.addRecord(IIIII)V
def fn_105 (a0 : Nat) (i1 : Int32) (i2 : Int32) (i3 : Int32) (i4 : Int32) (i5 : Int32) (w : cm_W) : Option cm_W := (if cm_sh w a0 = some (.inl 6) then (cm_R w a0 1).bind fun r2 => (if cm_sh w r2 = some (.inl 7) then (fn_98 r2 w).bind fun v5 => (if cm_sh v5.2 a0 = some (.inl 6) then (cm_R v5.2 a0 1).bind fun r8 => (if cm_sh v5.2 r8 = some (.inl 7) then (fn_99 r8 v5.1 (0 : Int32) i2 v5.2).bind fun w11 => (if cm_sh w11 a0 = some (.inl 6) then (cm_R w11 a0 1).bind fun r14 => (if cm_sh w11 r14 = some (.inl 7) then (fn_99 r14 v5.1 (1 : Int32) i3 w11).bind fun w17 => (if cm_sh w17 a0 = some (.inl 6) then (cm_R w17 a0 1).bind fun r20 => (if cm_sh w17 r20 = some (.inl 7) then (fn_99 r20 v5.1 (2 : Int32) i4 w17).bind fun w23 => (if cm_sh w23 a0 = some (.inl 6) then (cm_R w23 a0 1).bind fun r26 => (if cm_sh w23 r26 = some (.inl 7) then (fn_99 r26 v5.1 (3 : Int32) i5 w23).bind fun w29 => (if cm_sh w29 a0 = some (.inl 6) then (cm_R w29 a0 1).bind fun r32 => (if cm_sh w29 r32 = some (.inl 7) then (fn_99 r32 v5.1 (4 : Int32) (cm_I w29 a0 6) w29).bind fun w35 => (if cm_sh w35 a0 = some (.inl 6) then (cm_R w35 a0 1).bind fun r38 => (if cm_sh w35 r38 = some (.inl 7) then (fn_99 r38 v5.1 (5 : Int32) i1 w35).bind fun w41 => (if cm_sh w41 a0 = some (.inl 6) then (cm_R w41 a0 1).bind fun r44 => (if i3 = (-1 : Int32) then (if cm_sh w41 r44 = some (.inl 7) then (fn_99 r44 v5.1 (6 : Int32) (0 : Int32) w41).bind fun w48 => some w48 else none) else (fn_104 w41 a0 i1 i3).bind fun v50 => (if (cm_b v50) = 0 then (if cm_sh w41 r44 = some (.inl 7) then (fn_99 r44 v5.1 (6 : Int32) (0 : Int32) w41).bind fun w54 => some w54 else none) else (if cm_sh w41 r44 = some (.inl 7) then (fn_99 r44 v5.1 (6 : Int32) (1 : Int32) w41).bind fun w57 => some w57 else none))) else none) else none) else none) else none) else none) else none) else none) else none) else none) else none) else none) else none) else none) else none) else none)
theorem jt_105_0 (a0 : Nat) (i1 : Int32) (i2 : Int32) (i3 : Int32) (i4 : Int32) (i5 : Int32) (w : cm_W) : sm cm_g 105 ck_105 kq_105 0 [(0, .ref a0), (1, .int i1), (2, .int i2), (3, .int i3), (4, .int i4), (5, .int i5)] [] w ((fn_105 a0 i1 i2 i3 i4 i5 w).map cm_gV) := by
  unfold fn_105
  refine sm_seg 1 1 [(0, .ref a0), (1, .int i1), (2, .int i2), (3, .int i3), (4, .int i4), (5, .int i5)] [.ref a0] rfl ?_
  refine sm_gd fun h1 => ?_
  refine sm_gR rfl h1 rfl rfl fun r2 h3 => ?_
  show sm _ _ _ _ 4 [(0, .ref a0), (1, .int i1), (2, .int i2), (3, .int i3), (4, .int i4), (5, .int i5)] [.ref r2] _ _
  refine sm_gd fun h4 => ?_
  refine sm_cV (as := []) (rest := []) rfl rfl rfl rfl h4 (Nat.le_of_ble_eq_true rfl) (ca_98  r2 w) fun v5 h6 => ?_
  show sm _ _ _ _ 7 [(0, .ref a0), (1, .int i1), (2, .int i2), (3, .int i3), (4, .int i4), (5, .int i5)] [.int v5.1] _ _
  refine sm_seg 2 10 [(6, .int v5.1), (0, .ref a0), (1, .int i1), (2, .int i2), (3, .int i3), (4, .int i4), (5, .int i5)] [.ref a0] rfl ?_
  refine sm_gd fun h7 => ?_
  refine sm_gR rfl h7 rfl rfl fun r8 h9 => ?_
  show sm _ _ _ _ 13 [(6, .int v5.1), (0, .ref a0), (1, .int i1), (2, .int i2), (3, .int i3), (4, .int i4), (5, .int i5)] [.ref r8] _ _
  refine sm_seg 3 17 [(6, .int v5.1), (0, .ref a0), (1, .int i1), (2, .int i2), (3, .int i3), (4, .int i4), (5, .int i5)] [.int i2, .int (0 : Int32), .int v5.1, .ref r8] rfl ?_
  refine sm_gd fun h10 => ?_
  refine sm_cV (as := [.int v5.1, .int (0 : Int32), .int i2]) (rest := []) rfl rfl rfl rfl h10 (Nat.le_of_ble_eq_true rfl) (ca_99  r8 v5.1 (0 : Int32) i2 v5.2) fun w11 h12 => ?_
  show sm _ _ _ _ 20 [(6, .int v5.1), (0, .ref a0), (1, .int i1), (2, .int i2), (3, .int i3), (4, .int i4), (5, .int i5)] [] _ _
  refine sm_seg 1 21 [(6, .int v5.1), (0, .ref a0), (1, .int i1), (2, .int i2), (3, .int i3), (4, .int i4), (5, .int i5)] [.ref a0] rfl ?_
  refine sm_gd fun h13 => ?_
  refine sm_gR rfl h13 rfl rfl fun r14 h15 => ?_
  show sm _ _ _ _ 24 [(6, .int v5.1), (0, .ref a0), (1, .int i1), (2, .int i2), (3, .int i3), (4, .int i4), (5, .int i5)] [.ref r14] _ _
  refine sm_seg 3 28 [(6, .int v5.1), (0, .ref a0), (1, .int i1), (2, .int i2), (3, .int i3), (4, .int i4), (5, .int i5)] [.int i3, .int (1 : Int32), .int v5.1, .ref r14] rfl ?_
  refine sm_gd fun h16 => ?_
  refine sm_cV (as := [.int v5.1, .int (1 : Int32), .int i3]) (rest := []) rfl rfl rfl rfl h16 (Nat.le_of_ble_eq_true rfl) (ca_99  r14 v5.1 (1 : Int32) i3 w11) fun w17 h18 => ?_
  show sm _ _ _ _ 31 [(6, .int v5.1), (0, .ref a0), (1, .int i1), (2, .int i2), (3, .int i3), (4, .int i4), (5, .int i5)] [] _ _
  refine sm_seg 1 32 [(6, .int v5.1), (0, .ref a0), (1, .int i1), (2, .int i2), (3, .int i3), (4, .int i4), (5, .int i5)] [.ref a0] rfl ?_
  refine sm_gd fun h19 => ?_
  refine sm_gR rfl h19 rfl rfl fun r20 h21 => ?_
  show sm _ _ _ _ 35 [(6, .int v5.1), (0, .ref a0), (1, .int i1), (2, .int i2), (3, .int i3), (4, .int i4), (5, .int i5)] [.ref r20] _ _
  refine sm_seg 3 40 [(6, .int v5.1), (0, .ref a0), (1, .int i1), (2, .int i2), (3, .int i3), (4, .int i4), (5, .int i5)] [.int i4, .int (2 : Int32), .int v5.1, .ref r20] rfl ?_
  refine sm_gd fun h22 => ?_
  refine sm_cV (as := [.int v5.1, .int (2 : Int32), .int i4]) (rest := []) rfl rfl rfl rfl h22 (Nat.le_of_ble_eq_true rfl) (ca_99  r20 v5.1 (2 : Int32) i4 w17) fun w23 h24 => ?_
  show sm _ _ _ _ 43 [(6, .int v5.1), (0, .ref a0), (1, .int i1), (2, .int i2), (3, .int i3), (4, .int i4), (5, .int i5)] [] _ _
  refine sm_seg 1 44 [(6, .int v5.1), (0, .ref a0), (1, .int i1), (2, .int i2), (3, .int i3), (4, .int i4), (5, .int i5)] [.ref a0] rfl ?_
  refine sm_gd fun h25 => ?_
  refine sm_gR rfl h25 rfl rfl fun r26 h27 => ?_
  show sm _ _ _ _ 47 [(6, .int v5.1), (0, .ref a0), (1, .int i1), (2, .int i2), (3, .int i3), (4, .int i4), (5, .int i5)] [.ref r26] _ _
  refine sm_seg 3 52 [(6, .int v5.1), (0, .ref a0), (1, .int i1), (2, .int i2), (3, .int i3), (4, .int i4), (5, .int i5)] [.int i5, .int (3 : Int32), .int v5.1, .ref r26] rfl ?_
  refine sm_gd fun h28 => ?_
  refine sm_cV (as := [.int v5.1, .int (3 : Int32), .int i5]) (rest := []) rfl rfl rfl rfl h28 (Nat.le_of_ble_eq_true rfl) (ca_99  r26 v5.1 (3 : Int32) i5 w23) fun w29 h30 => ?_
  show sm _ _ _ _ 55 [(6, .int v5.1), (0, .ref a0), (1, .int i1), (2, .int i2), (3, .int i3), (4, .int i4), (5, .int i5)] [] _ _
  refine sm_seg 1 56 [(6, .int v5.1), (0, .ref a0), (1, .int i1), (2, .int i2), (3, .int i3), (4, .int i4), (5, .int i5)] [.ref a0] rfl ?_
  refine sm_gd fun h31 => ?_
  refine sm_gR rfl h31 rfl rfl fun r32 h33 => ?_
  show sm _ _ _ _ 59 [(6, .int v5.1), (0, .ref a0), (1, .int i1), (2, .int i2), (3, .int i3), (4, .int i4), (5, .int i5)] [.ref r32] _ _
  refine sm_seg 3 63 [(6, .int v5.1), (0, .ref a0), (1, .int i1), (2, .int i2), (3, .int i3), (4, .int i4), (5, .int i5)] [.ref a0, .int (4 : Int32), .int v5.1, .ref r32] rfl ?_
  refine sm_gI rfl h31 rfl ?_
  show sm _ _ _ _ 66 [(6, .int v5.1), (0, .ref a0), (1, .int i1), (2, .int i2), (3, .int i3), (4, .int i4), (5, .int i5)] [.int (cm_I w29 a0 6), .int (4 : Int32), .int v5.1, .ref r32] _ _
  refine sm_gd fun h34 => ?_
  refine sm_cV (as := [.int v5.1, .int (4 : Int32), .int (cm_I w29 a0 6)]) (rest := []) rfl rfl rfl rfl h34 (Nat.le_of_ble_eq_true rfl) (ca_99  r32 v5.1 (4 : Int32) (cm_I w29 a0 6) w29) fun w35 h36 => ?_
  show sm _ _ _ _ 69 [(6, .int v5.1), (0, .ref a0), (1, .int i1), (2, .int i2), (3, .int i3), (4, .int i4), (5, .int i5)] [] _ _
  refine sm_seg 1 70 [(6, .int v5.1), (0, .ref a0), (1, .int i1), (2, .int i2), (3, .int i3), (4, .int i4), (5, .int i5)] [.ref a0] rfl ?_
  refine sm_gd fun h37 => ?_
  refine sm_gR rfl h37 rfl rfl fun r38 h39 => ?_
  show sm _ _ _ _ 73 [(6, .int v5.1), (0, .ref a0), (1, .int i1), (2, .int i2), (3, .int i3), (4, .int i4), (5, .int i5)] [.ref r38] _ _
  refine sm_seg 3 77 [(6, .int v5.1), (0, .ref a0), (1, .int i1), (2, .int i2), (3, .int i3), (4, .int i4), (5, .int i5)] [.int i1, .int (5 : Int32), .int v5.1, .ref r38] rfl ?_
  refine sm_gd fun h40 => ?_
  refine sm_cV (as := [.int v5.1, .int (5 : Int32), .int i1]) (rest := []) rfl rfl rfl rfl h40 (Nat.le_of_ble_eq_true rfl) (ca_99  r38 v5.1 (5 : Int32) i1 w35) fun w41 h42 => ?_
  show sm _ _ _ _ 80 [(6, .int v5.1), (0, .ref a0), (1, .int i1), (2, .int i2), (3, .int i3), (4, .int i4), (5, .int i5)] [] _ _
  refine sm_seg 1 81 [(6, .int v5.1), (0, .ref a0), (1, .int i1), (2, .int i2), (3, .int i3), (4, .int i4), (5, .int i5)] [.ref a0] rfl ?_
  refine sm_gd fun h43 => ?_
  refine sm_gR rfl h43 rfl rfl fun r44 h45 => ?_
  show sm _ _ _ _ 84 [(6, .int v5.1), (0, .ref a0), (1, .int i1), (2, .int i2), (3, .int i3), (4, .int i4), (5, .int i5)] [.ref r44] _ _
  refine sm_seg 4 90 [(6, .int v5.1), (0, .ref a0), (1, .int i1), (2, .int i2), (3, .int i3), (4, .int i4), (5, .int i5)] [.int (-1 : Int32), .int i3, .int (6 : Int32), .int v5.1, .ref r44] rfl ?_
  refine sm_if (pc1 := 106) (lv1 := []) (pc2 := 93) (lv2 := [(6, .int v5.1), (0, .ref a0), (1, .int i1), (2, .int i2), (3, .int i3), (4, .int i4), (5, .int i5)]) (st1 := [.int (6 : Int32), .int v5.1, .ref r44]) rfl rfl rfl (fun h46 => ?_) (fun h46 => ?_)
  · refine sm_seg 1 107 [] [.int (0 : Int32), .int (6 : Int32), .int v5.1, .ref r44] rfl ?_
    refine sm_gd fun h47 => ?_
    refine sm_cV (as := [.int v5.1, .int (6 : Int32), .int (0 : Int32)]) (rest := []) rfl rfl rfl rfl h47 (Nat.le_of_ble_eq_true rfl) (ca_99  r44 v5.1 (6 : Int32) (0 : Int32) w41) fun w48 h49 => ?_
    show sm _ _ _ _ 110 [] [] _ _
    exact sm_rV rfl rfl
  · refine sm_seg 3 96 [(6, .int v5.1), (0, .ref a0), (1, .int i1), (2, .int i2), (3, .int i3), (4, .int i4), (5, .int i5)] [.int i3, .int i1, .ref a0, .int (6 : Int32), .int v5.1, .ref r44] rfl ?_
    refine sm_cV (as := [.int i1, .int i3]) (rest := [.int (6 : Int32), .int v5.1, .ref r44]) rfl rfl rfl rfl h43 (Nat.le_of_ble_eq_true rfl) (ca_104 w41 a0 i1 i3) fun v50 h51 => ?_
    show sm _ _ _ _ 99 [(6, .int v5.1), (0, .ref a0), (1, .int i1), (2, .int i2), (3, .int i3), (4, .int i4), (5, .int i5)] [.int (cm_b v50), .int (6 : Int32), .int v5.1, .ref r44] _ _
    refine sm_if (pc1 := 106) (lv1 := []) (pc2 := 102) (lv2 := [(6, .int v5.1), (0, .ref a0), (1, .int i1), (2, .int i2), (3, .int i3), (4, .int i4), (5, .int i5)]) (st1 := [.int (6 : Int32), .int v5.1, .ref r44]) rfl rfl rfl (fun h52 => ?_) (fun h52 => ?_)
    · refine sm_seg 1 107 [] [.int (0 : Int32), .int (6 : Int32), .int v5.1, .ref r44] rfl ?_
      refine sm_gd fun h53 => ?_
      refine sm_cV (as := [.int v5.1, .int (6 : Int32), .int (0 : Int32)]) (rest := []) rfl rfl rfl rfl h53 (Nat.le_of_ble_eq_true rfl) (ca_99  r44 v5.1 (6 : Int32) (0 : Int32) w41) fun w54 h55 => ?_
      show sm _ _ _ _ 110 [] [] _ _
      exact sm_rV rfl rfl
    · refine sm_seg 2 107 [] [.int (1 : Int32), .int (6 : Int32), .int v5.1, .ref r44] rfl ?_
      refine sm_gd fun h56 => ?_
      refine sm_cV (as := [.int v5.1, .int (6 : Int32), .int (1 : Int32)]) (rest := []) rfl rfl rfl rfl h56 (Nat.le_of_ble_eq_true rfl) (ca_99  r44 v5.1 (6 : Int32) (1 : Int32) w41) fun w57 h58 => ?_
      show sm _ _ _ _ 110 [] [] _ _
      exact sm_rV rfl rfl
theorem ca_105 (a0 : Nat) (i1 : Int32) (i2 : Int32) (i3 : Int32) (i4 : Int32) (i5 : Int32) (w : cm_W) : cm_ca cm_g 105 [.ref a0, .int i1, .int i2, .int i3, .int i4, .int i5] w ((fn_105 a0 i1 i2 i3 i4 i5 w).map cm_gV) := cm_ca_of (cm_me_of rfl rfl) rfl (jt_105_0 a0 i1 i2 i3 i4 i5 w)
-- NailedBoxes$State.addLoan(IIIII)I
def fn_106 (a0 : Nat) (i1 : Int32) (i2 : Int32) (i3 : Int32) (i4 : Int32) (i5 : Int32) (w : cm_W) : Option (Int32 × cm_W) := (if cm_sh w a0 = some (.inl 6) then (cm_R w a0 2).bind fun r2 => (if cm_sh w r2 = some (.inl 7) then (fn_98 r2 w).bind fun v5 => (if cm_sh v5.2 a0 = some (.inl 6) then (cm_R v5.2 a0 2).bind fun r8 => (if cm_sh v5.2 r8 = some (.inl 7) then (fn_99 r8 v5.1 (0 : Int32) i1 v5.2).bind fun w11 => (if cm_sh w11 a0 = some (.inl 6) then (cm_R w11 a0 2).bind fun r14 => (if cm_sh w11 r14 = some (.inl 7) then (fn_99 r14 v5.1 (1 : Int32) i2 w11).bind fun w17 => (if cm_sh w17 a0 = some (.inl 6) then (cm_R w17 a0 2).bind fun r20 => (if cm_sh w17 r20 = some (.inl 7) then (fn_99 r20 v5.1 (2 : Int32) i3 w17).bind fun w23 => (if cm_sh w23 a0 = some (.inl 6) then (cm_R w23 a0 2).bind fun r26 => (if cm_sh w23 r26 = some (.inl 7) then (fn_99 r26 v5.1 (3 : Int32) i4 w23).bind fun w29 => (if cm_sh w29 a0 = some (.inl 6) then (cm_R w29 a0 2).bind fun r32 => (if cm_sh w29 r32 = some (.inl 7) then (fn_99 r32 v5.1 (4 : Int32) i5 w29).bind fun w35 => (if cm_sh w35 a0 = some (.inl 6) then (cm_R w35 a0 2).bind fun r38 => (if cm_sh w35 r38 = some (.inl 7) then (fn_99 r38 v5.1 (5 : Int32) (0 : Int32) w35).bind fun w41 => some (v5.1, w41) else none) else none) else none) else none) else none) else none) else none) else none) else none) else none) else none) else none) else none) else none)
theorem jt_106_0 (a0 : Nat) (i1 : Int32) (i2 : Int32) (i3 : Int32) (i4 : Int32) (i5 : Int32) (w : cm_W) : sm cm_g 106 ck_106 kq_106 0 [(0, .ref a0), (1, .int i1), (2, .int i2), (3, .int i3), (4, .int i4), (5, .int i5)] [] w ((fn_106 a0 i1 i2 i3 i4 i5 w).map cm_gI) := by
  unfold fn_106
  refine sm_seg 1 1 [(0, .ref a0), (1, .int i1), (2, .int i2), (3, .int i3), (4, .int i4), (5, .int i5)] [.ref a0] rfl ?_
  refine sm_gd fun h1 => ?_
  refine sm_gR rfl h1 rfl rfl fun r2 h3 => ?_
  show sm _ _ _ _ 4 [(0, .ref a0), (1, .int i1), (2, .int i2), (3, .int i3), (4, .int i4), (5, .int i5)] [.ref r2] _ _
  refine sm_gd fun h4 => ?_
  refine sm_cV (as := []) (rest := []) rfl rfl rfl rfl h4 (Nat.le_of_ble_eq_true rfl) (ca_98  r2 w) fun v5 h6 => ?_
  show sm _ _ _ _ 7 [(0, .ref a0), (1, .int i1), (2, .int i2), (3, .int i3), (4, .int i4), (5, .int i5)] [.int v5.1] _ _
  refine sm_seg 2 10 [(6, .int v5.1), (0, .ref a0), (1, .int i1), (2, .int i2), (3, .int i3), (4, .int i4), (5, .int i5)] [.ref a0] rfl ?_
  refine sm_gd fun h7 => ?_
  refine sm_gR rfl h7 rfl rfl fun r8 h9 => ?_
  show sm _ _ _ _ 13 [(6, .int v5.1), (0, .ref a0), (1, .int i1), (2, .int i2), (3, .int i3), (4, .int i4), (5, .int i5)] [.ref r8] _ _
  refine sm_seg 3 17 [(6, .int v5.1), (0, .ref a0), (1, .int i1), (2, .int i2), (3, .int i3), (4, .int i4), (5, .int i5)] [.int i1, .int (0 : Int32), .int v5.1, .ref r8] rfl ?_
  refine sm_gd fun h10 => ?_
  refine sm_cV (as := [.int v5.1, .int (0 : Int32), .int i1]) (rest := []) rfl rfl rfl rfl h10 (Nat.le_of_ble_eq_true rfl) (ca_99  r8 v5.1 (0 : Int32) i1 v5.2) fun w11 h12 => ?_
  show sm _ _ _ _ 20 [(6, .int v5.1), (0, .ref a0), (1, .int i1), (2, .int i2), (3, .int i3), (4, .int i4), (5, .int i5)] [] _ _
  refine sm_seg 1 21 [(6, .int v5.1), (0, .ref a0), (1, .int i1), (2, .int i2), (3, .int i3), (4, .int i4), (5, .int i5)] [.ref a0] rfl ?_
  refine sm_gd fun h13 => ?_
  refine sm_gR rfl h13 rfl rfl fun r14 h15 => ?_
  show sm _ _ _ _ 24 [(6, .int v5.1), (0, .ref a0), (1, .int i1), (2, .int i2), (3, .int i3), (4, .int i4), (5, .int i5)] [.ref r14] _ _
  refine sm_seg 3 28 [(6, .int v5.1), (0, .ref a0), (1, .int i1), (2, .int i2), (3, .int i3), (4, .int i4), (5, .int i5)] [.int i2, .int (1 : Int32), .int v5.1, .ref r14] rfl ?_
  refine sm_gd fun h16 => ?_
  refine sm_cV (as := [.int v5.1, .int (1 : Int32), .int i2]) (rest := []) rfl rfl rfl rfl h16 (Nat.le_of_ble_eq_true rfl) (ca_99  r14 v5.1 (1 : Int32) i2 w11) fun w17 h18 => ?_
  show sm _ _ _ _ 31 [(6, .int v5.1), (0, .ref a0), (1, .int i1), (2, .int i2), (3, .int i3), (4, .int i4), (5, .int i5)] [] _ _
  refine sm_seg 1 32 [(6, .int v5.1), (0, .ref a0), (1, .int i1), (2, .int i2), (3, .int i3), (4, .int i4), (5, .int i5)] [.ref a0] rfl ?_
  refine sm_gd fun h19 => ?_
  refine sm_gR rfl h19 rfl rfl fun r20 h21 => ?_
  show sm _ _ _ _ 35 [(6, .int v5.1), (0, .ref a0), (1, .int i1), (2, .int i2), (3, .int i3), (4, .int i4), (5, .int i5)] [.ref r20] _ _
  refine sm_seg 3 39 [(6, .int v5.1), (0, .ref a0), (1, .int i1), (2, .int i2), (3, .int i3), (4, .int i4), (5, .int i5)] [.int i3, .int (2 : Int32), .int v5.1, .ref r20] rfl ?_
  refine sm_gd fun h22 => ?_
  refine sm_cV (as := [.int v5.1, .int (2 : Int32), .int i3]) (rest := []) rfl rfl rfl rfl h22 (Nat.le_of_ble_eq_true rfl) (ca_99  r20 v5.1 (2 : Int32) i3 w17) fun w23 h24 => ?_
  show sm _ _ _ _ 42 [(6, .int v5.1), (0, .ref a0), (1, .int i1), (2, .int i2), (3, .int i3), (4, .int i4), (5, .int i5)] [] _ _
  refine sm_seg 1 43 [(6, .int v5.1), (0, .ref a0), (1, .int i1), (2, .int i2), (3, .int i3), (4, .int i4), (5, .int i5)] [.ref a0] rfl ?_
  refine sm_gd fun h25 => ?_
  refine sm_gR rfl h25 rfl rfl fun r26 h27 => ?_
  show sm _ _ _ _ 46 [(6, .int v5.1), (0, .ref a0), (1, .int i1), (2, .int i2), (3, .int i3), (4, .int i4), (5, .int i5)] [.ref r26] _ _
  refine sm_seg 3 51 [(6, .int v5.1), (0, .ref a0), (1, .int i1), (2, .int i2), (3, .int i3), (4, .int i4), (5, .int i5)] [.int i4, .int (3 : Int32), .int v5.1, .ref r26] rfl ?_
  refine sm_gd fun h28 => ?_
  refine sm_cV (as := [.int v5.1, .int (3 : Int32), .int i4]) (rest := []) rfl rfl rfl rfl h28 (Nat.le_of_ble_eq_true rfl) (ca_99  r26 v5.1 (3 : Int32) i4 w23) fun w29 h30 => ?_
  show sm _ _ _ _ 54 [(6, .int v5.1), (0, .ref a0), (1, .int i1), (2, .int i2), (3, .int i3), (4, .int i4), (5, .int i5)] [] _ _
  refine sm_seg 1 55 [(6, .int v5.1), (0, .ref a0), (1, .int i1), (2, .int i2), (3, .int i3), (4, .int i4), (5, .int i5)] [.ref a0] rfl ?_
  refine sm_gd fun h31 => ?_
  refine sm_gR rfl h31 rfl rfl fun r32 h33 => ?_
  show sm _ _ _ _ 58 [(6, .int v5.1), (0, .ref a0), (1, .int i1), (2, .int i2), (3, .int i3), (4, .int i4), (5, .int i5)] [.ref r32] _ _
  refine sm_seg 3 63 [(6, .int v5.1), (0, .ref a0), (1, .int i1), (2, .int i2), (3, .int i3), (4, .int i4), (5, .int i5)] [.int i5, .int (4 : Int32), .int v5.1, .ref r32] rfl ?_
  refine sm_gd fun h34 => ?_
  refine sm_cV (as := [.int v5.1, .int (4 : Int32), .int i5]) (rest := []) rfl rfl rfl rfl h34 (Nat.le_of_ble_eq_true rfl) (ca_99  r32 v5.1 (4 : Int32) i5 w29) fun w35 h36 => ?_
  show sm _ _ _ _ 66 [(6, .int v5.1), (0, .ref a0), (1, .int i1), (2, .int i2), (3, .int i3), (4, .int i4), (5, .int i5)] [] _ _
  refine sm_seg 1 67 [(6, .int v5.1), (0, .ref a0), (1, .int i1), (2, .int i2), (3, .int i3), (4, .int i4), (5, .int i5)] [.ref a0] rfl ?_
  refine sm_gd fun h37 => ?_
  refine sm_gR rfl h37 rfl rfl fun r38 h39 => ?_
  show sm _ _ _ _ 70 [(6, .int v5.1), (0, .ref a0), (1, .int i1), (2, .int i2), (3, .int i3), (4, .int i4), (5, .int i5)] [.ref r38] _ _
  refine sm_seg 3 74 [(6, .int v5.1), (0, .ref a0), (1, .int i1), (2, .int i2), (3, .int i3), (4, .int i4), (5, .int i5)] [.int (0 : Int32), .int (5 : Int32), .int v5.1, .ref r38] rfl ?_
  refine sm_gd fun h40 => ?_
  refine sm_cV (as := [.int v5.1, .int (5 : Int32), .int (0 : Int32)]) (rest := []) rfl rfl rfl rfl h40 (Nat.le_of_ble_eq_true rfl) (ca_99  r38 v5.1 (5 : Int32) (0 : Int32) w35) fun w41 h42 => ?_
  show sm _ _ _ _ 77 [(6, .int v5.1), (0, .ref a0), (1, .int i1), (2, .int i2), (3, .int i3), (4, .int i4), (5, .int i5)] [] _ _
  refine sm_seg 1 79 [(6, .int v5.1), (0, .ref a0), (1, .int i1), (2, .int i2), (3, .int i3), (4, .int i4), (5, .int i5)] [.int v5.1] rfl ?_
  exact sm_rIW rfl rfl
theorem ca_106 (a0 : Nat) (i1 : Int32) (i2 : Int32) (i3 : Int32) (i4 : Int32) (i5 : Int32) (w : cm_W) : cm_ca cm_g 106 [.ref a0, .int i1, .int i2, .int i3, .int i4, .int i5] w ((fn_106 a0 i1 i2 i3 i4 i5 w).map cm_gI) := cm_ca_of (cm_me_of rfl rfl) rfl (jt_106_0 a0 i1 i2 i3 i4 i5 w)
-- NailedBoxes$State.addBookRow(IIII)I
def fn_107 (a0 : Nat) (i1 : Int32) (i2 : Int32) (i3 : Int32) (i4 : Int32) (w : cm_W) : Option (Int32 × cm_W) := (if cm_sh w a0 = some (.inl 6) then (cm_R w a0 3).bind fun r2 => (if cm_sh w r2 = some (.inl 7) then (fn_98 r2 w).bind fun v5 => (if cm_sh v5.2 a0 = some (.inl 6) then (cm_R v5.2 a0 3).bind fun r8 => (if cm_sh v5.2 r8 = some (.inl 7) then (fn_99 r8 v5.1 (0 : Int32) i1 v5.2).bind fun w11 => (if cm_sh w11 a0 = some (.inl 6) then (cm_R w11 a0 3).bind fun r14 => (if cm_sh w11 r14 = some (.inl 7) then (fn_99 r14 v5.1 (1 : Int32) i2 w11).bind fun w17 => (if cm_sh w17 a0 = some (.inl 6) then (cm_R w17 a0 3).bind fun r20 => (if cm_sh w17 r20 = some (.inl 7) then (fn_99 r20 v5.1 (2 : Int32) i3 w17).bind fun w23 => (if cm_sh w23 a0 = some (.inl 6) then (cm_R w23 a0 3).bind fun r26 => (if cm_sh w23 r26 = some (.inl 7) then (fn_99 r26 v5.1 (3 : Int32) i4 w23).bind fun w29 => (if cm_sh w29 a0 = some (.inl 6) then (cm_R w29 a0 3).bind fun r32 => (if cm_sh w29 r32 = some (.inl 7) then some ((cm_I w29 r32 2), w29) else none) else none) else none) else none) else none) else none) else none) else none) else none) else none) else none) else none)
theorem jt_107_0 (a0 : Nat) (i1 : Int32) (i2 : Int32) (i3 : Int32) (i4 : Int32) (w : cm_W) : sm cm_g 107 ck_107 kq_107 0 [(0, .ref a0), (1, .int i1), (2, .int i2), (3, .int i3), (4, .int i4)] [] w ((fn_107 a0 i1 i2 i3 i4 w).map cm_gI) := by
  unfold fn_107
  refine sm_seg 1 1 [(0, .ref a0), (1, .int i1), (2, .int i2), (3, .int i3), (4, .int i4)] [.ref a0] rfl ?_
  refine sm_gd fun h1 => ?_
  refine sm_gR rfl h1 rfl rfl fun r2 h3 => ?_
  show sm _ _ _ _ 4 [(0, .ref a0), (1, .int i1), (2, .int i2), (3, .int i3), (4, .int i4)] [.ref r2] _ _
  refine sm_gd fun h4 => ?_
  refine sm_cV (as := []) (rest := []) rfl rfl rfl rfl h4 (Nat.le_of_ble_eq_true rfl) (ca_98  r2 w) fun v5 h6 => ?_
  show sm _ _ _ _ 7 [(0, .ref a0), (1, .int i1), (2, .int i2), (3, .int i3), (4, .int i4)] [.int v5.1] _ _
  refine sm_seg 2 10 [(5, .int v5.1), (0, .ref a0), (1, .int i1), (2, .int i2), (3, .int i3), (4, .int i4)] [.ref a0] rfl ?_
  refine sm_gd fun h7 => ?_
  refine sm_gR rfl h7 rfl rfl fun r8 h9 => ?_
  show sm _ _ _ _ 13 [(5, .int v5.1), (0, .ref a0), (1, .int i1), (2, .int i2), (3, .int i3), (4, .int i4)] [.ref r8] _ _
  refine sm_seg 3 17 [(5, .int v5.1), (0, .ref a0), (1, .int i1), (2, .int i2), (3, .int i3), (4, .int i4)] [.int i1, .int (0 : Int32), .int v5.1, .ref r8] rfl ?_
  refine sm_gd fun h10 => ?_
  refine sm_cV (as := [.int v5.1, .int (0 : Int32), .int i1]) (rest := []) rfl rfl rfl rfl h10 (Nat.le_of_ble_eq_true rfl) (ca_99  r8 v5.1 (0 : Int32) i1 v5.2) fun w11 h12 => ?_
  show sm _ _ _ _ 20 [(5, .int v5.1), (0, .ref a0), (1, .int i1), (2, .int i2), (3, .int i3), (4, .int i4)] [] _ _
  refine sm_seg 1 21 [(5, .int v5.1), (0, .ref a0), (1, .int i1), (2, .int i2), (3, .int i3), (4, .int i4)] [.ref a0] rfl ?_
  refine sm_gd fun h13 => ?_
  refine sm_gR rfl h13 rfl rfl fun r14 h15 => ?_
  show sm _ _ _ _ 24 [(5, .int v5.1), (0, .ref a0), (1, .int i1), (2, .int i2), (3, .int i3), (4, .int i4)] [.ref r14] _ _
  refine sm_seg 3 28 [(5, .int v5.1), (0, .ref a0), (1, .int i1), (2, .int i2), (3, .int i3), (4, .int i4)] [.int i2, .int (1 : Int32), .int v5.1, .ref r14] rfl ?_
  refine sm_gd fun h16 => ?_
  refine sm_cV (as := [.int v5.1, .int (1 : Int32), .int i2]) (rest := []) rfl rfl rfl rfl h16 (Nat.le_of_ble_eq_true rfl) (ca_99  r14 v5.1 (1 : Int32) i2 w11) fun w17 h18 => ?_
  show sm _ _ _ _ 31 [(5, .int v5.1), (0, .ref a0), (1, .int i1), (2, .int i2), (3, .int i3), (4, .int i4)] [] _ _
  refine sm_seg 1 32 [(5, .int v5.1), (0, .ref a0), (1, .int i1), (2, .int i2), (3, .int i3), (4, .int i4)] [.ref a0] rfl ?_
  refine sm_gd fun h19 => ?_
  refine sm_gR rfl h19 rfl rfl fun r20 h21 => ?_
  show sm _ _ _ _ 35 [(5, .int v5.1), (0, .ref a0), (1, .int i1), (2, .int i2), (3, .int i3), (4, .int i4)] [.ref r20] _ _
  refine sm_seg 3 39 [(5, .int v5.1), (0, .ref a0), (1, .int i1), (2, .int i2), (3, .int i3), (4, .int i4)] [.int i3, .int (2 : Int32), .int v5.1, .ref r20] rfl ?_
  refine sm_gd fun h22 => ?_
  refine sm_cV (as := [.int v5.1, .int (2 : Int32), .int i3]) (rest := []) rfl rfl rfl rfl h22 (Nat.le_of_ble_eq_true rfl) (ca_99  r20 v5.1 (2 : Int32) i3 w17) fun w23 h24 => ?_
  show sm _ _ _ _ 42 [(5, .int v5.1), (0, .ref a0), (1, .int i1), (2, .int i2), (3, .int i3), (4, .int i4)] [] _ _
  refine sm_seg 1 43 [(5, .int v5.1), (0, .ref a0), (1, .int i1), (2, .int i2), (3, .int i3), (4, .int i4)] [.ref a0] rfl ?_
  refine sm_gd fun h25 => ?_
  refine sm_gR rfl h25 rfl rfl fun r26 h27 => ?_
  show sm _ _ _ _ 46 [(5, .int v5.1), (0, .ref a0), (1, .int i1), (2, .int i2), (3, .int i3), (4, .int i4)] [.ref r26] _ _
  refine sm_seg 3 51 [(5, .int v5.1), (0, .ref a0), (1, .int i1), (2, .int i2), (3, .int i3), (4, .int i4)] [.int i4, .int (3 : Int32), .int v5.1, .ref r26] rfl ?_
  refine sm_gd fun h28 => ?_
  refine sm_cV (as := [.int v5.1, .int (3 : Int32), .int i4]) (rest := []) rfl rfl rfl rfl h28 (Nat.le_of_ble_eq_true rfl) (ca_99  r26 v5.1 (3 : Int32) i4 w23) fun w29 h30 => ?_
  show sm _ _ _ _ 54 [(5, .int v5.1), (0, .ref a0), (1, .int i1), (2, .int i2), (3, .int i3), (4, .int i4)] [] _ _
  refine sm_seg 1 55 [(5, .int v5.1), (0, .ref a0), (1, .int i1), (2, .int i2), (3, .int i3), (4, .int i4)] [.ref a0] rfl ?_
  refine sm_gd fun h31 => ?_
  refine sm_gR rfl h31 rfl rfl fun r32 h33 => ?_
  show sm _ _ _ _ 58 [(5, .int v5.1), (0, .ref a0), (1, .int i1), (2, .int i2), (3, .int i3), (4, .int i4)] [.ref r32] _ _
  refine sm_gd fun h34 => ?_
  refine sm_gI rfl h34 rfl ?_
  show sm _ _ _ _ 61 [(5, .int v5.1), (0, .ref a0), (1, .int i1), (2, .int i2), (3, .int i3), (4, .int i4)] [.int (cm_I w29 r32 2)] _ _
  exact sm_rIW rfl rfl
theorem ca_107 (a0 : Nat) (i1 : Int32) (i2 : Int32) (i3 : Int32) (i4 : Int32) (w : cm_W) : cm_ca cm_g 107 [.ref a0, .int i1, .int i2, .int i3, .int i4] w ((fn_107 a0 i1 i2 i3 i4 w).map cm_gI) := cm_ca_of (cm_me_of rfl rfl) rfl (jt_107_0 a0 i1 i2 i3 i4 w)
-- NailedBoxes$State.isOutermost(I)Z
def fn_108 (w : cm_W) (a0 : Nat) (i1 : Int32) : Option Bool := (if cm_sh w a0 = some (.inl 6) then (cm_R w a0 0).bind fun r2 => (if cm_sh w r2 = some (.inl 7) then (fn_7 w r2 i1).bind fun v5 => (if (cm_b v5) = 0 then some false else (cm_R w a0 0).bind fun r8 => (if cm_sh w r8 = some (.inl 7) then (fn_1 w r8 i1 (3 : Int32)).bind fun v11 => (if ¬ v11 = (-1 : Int32) then some false else some true) else none)) else none) else none)
theorem jt_108_0 (w : cm_W) (a0 : Nat) (i1 : Int32) : sm cm_g 108 ck_108 kq_108 0 [(0, .ref a0), (1, .int i1)] [] w ((fn_108 w a0 i1).map (cm_fB w)) := by
  unfold fn_108
  refine sm_seg 1 1 [(0, .ref a0), (1, .int i1)] [.ref a0] rfl ?_
  refine sm_gd fun h1 => ?_
  refine sm_gR rfl h1 rfl rfl fun r2 h3 => ?_
  show sm _ _ _ _ 4 [(0, .ref a0), (1, .int i1)] [.ref r2] _ _
  refine sm_seg 1 5 [(0, .ref a0), (1, .int i1)] [.int i1, .ref r2] rfl ?_
  refine sm_gd fun h4 => ?_
  refine sm_cV (as := [.int i1]) (rest := []) rfl rfl rfl rfl h4 (Nat.le_of_ble_eq_true rfl) (ca_7 w r2 i1) fun v5 h6 => ?_
  show sm _ _ _ _ 8 [(0, .ref a0), (1, .int i1)] [.int (cm_b v5)] _ _
  refine sm_if (pc1 := 28) (lv1 := []) (pc2 := 11) (lv2 := [(0, .ref a0), (1, .int i1)]) (st1 := []) rfl rfl rfl (fun h7 => ?_) (fun h7 => ?_)
  · refine sm_seg 1 29 [] [.int (0 : Int32)] rfl ?_
    exact sm_rB (b := false) rfl rfl
  · refine sm_seg 1 12 [(0, .ref a0), (1, .int i1)] [.ref a0] rfl ?_
    refine sm_gR rfl h1 rfl rfl fun r8 h9 => ?_
    show sm _ _ _ _ 15 [(0, .ref a0), (1, .int i1)] [.ref r8] _ _
    refine sm_seg 2 17 [(0, .ref a0), (1, .int i1)] [.int (3 : Int32), .int i1, .ref r8] rfl ?_
    refine sm_gd fun h10 => ?_
    refine sm_cV (as := [.int i1, .int (3 : Int32)]) (rest := []) rfl rfl rfl rfl h10 (Nat.le_of_ble_eq_true rfl) (ca_1 w r8 i1 (3 : Int32)) fun v11 h12 => ?_
    show sm _ _ _ _ 20 [(0, .ref a0), (1, .int i1)] [.int v11] _ _
    refine sm_seg 1 21 [(0, .ref a0), (1, .int i1)] [.int (-1 : Int32), .int v11] rfl ?_
    refine sm_if (pc1 := 28) (lv1 := []) (pc2 := 24) (lv2 := [(0, .ref a0), (1, .int i1)]) (st1 := []) rfl rfl rfl (fun h13 => ?_) (fun h13 => ?_)
    · refine sm_seg 1 29 [] [.int (0 : Int32)] rfl ?_
      exact sm_rB (b := false) rfl rfl
    · refine sm_seg 2 29 [] [.int (1 : Int32)] rfl ?_
      exact sm_rB (b := true) rfl rfl
theorem ca_108 (w : cm_W) (a0 : Nat) (i1 : Int32) : cm_ca cm_g 108 [.ref a0, .int i1] w ((fn_108 w a0 i1).map (cm_fB w)) := cm_ca_of (cm_me_of rfl rfl) rfl (jt_108_0 w a0 i1)
-- NailedBoxes$State.purseOf(I)I
def fn_109 (w : cm_W) (a0 : Nat) (i1 : Int32) : Option Int32 := (fn_100 w i1).bind fun v1 => (if (cm_b v1) = 0 then some (-1 : Int32) else (if cm_sh w a0 = some (.inl 6) then (cm_R w a0 5).bind fun r5 => (if cm_ga w .int r5 i1 = true then some (cm_I w r5 i1.toNatClampNeg) else none) else none))
theorem jt_109_0 (w : cm_W) (a0 : Nat) (i1 : Int32) : sm cm_g 109 ck_109 kq_109 0 [(0, .ref a0), (1, .int i1)] [] w ((fn_109 w a0 i1).map (cm_fI w)) := by
  unfold fn_109
  refine sm_seg 1 1 [(0, .ref a0), (1, .int i1)] [.int i1] rfl ?_
  refine sm_cS (av := [.int i1]) (rest := []) rfl rfl rfl rfl (Nat.le_of_ble_eq_true rfl) (ca_100 w i1) fun v1 h2 => ?_
  show sm _ _ _ _ 4 [(0, .ref a0), (1, .int i1)] [.int (cm_b v1)] _ _
  refine sm_if (pc1 := 16) (lv1 := []) (pc2 := 7) (lv2 := [(0, .ref a0), (1, .int i1)]) (st1 := []) rfl rfl rfl (fun h3 => ?_) (fun h3 => ?_)
  · refine sm_seg 1 17 [] [.int (-1 : Int32)] rfl ?_
    exact sm_rI rfl rfl
  · refine sm_seg 1 8 [(0, .ref a0), (1, .int i1)] [.ref a0] rfl ?_
    refine sm_gd fun h4 => ?_
    refine sm_gR rfl h4 rfl rfl fun r5 h6 => ?_
    show sm _ _ _ _ 11 [(0, .ref a0), (1, .int i1)] [.ref r5] _ _
    refine sm_seg 1 12 [(0, .ref a0), (1, .int i1)] [.int i1, .ref r5] rfl ?_
    refine sm_gd fun h7 => ?_
    refine sm_ai rfl h7 rfl ?_
    show sm _ _ _ _ 13 [(0, .ref a0), (1, .int i1)] [.int (cm_I w r5 i1.toNatClampNeg)] _ _
    refine sm_seg 1 17 [] [.int (cm_I w r5 i1.toNatClampNeg)] rfl ?_
    exact sm_rI rfl rfl
theorem ca_109 (w : cm_W) (a0 : Nat) (i1 : Int32) : cm_ca cm_g 109 [.ref a0, .int i1] w ((fn_109 w a0 i1).map (cm_fI w)) := cm_ca_of (cm_me_of rfl rfl) rfl (jt_109_0 w a0 i1)
-- NailedBoxes$State.owed(I)I
def fn_110 (w : cm_W) (a0 : Nat) (i1 : Int32) : Option Int32 := (if cm_sh w a0 = some (.inl 6) then (cm_R w a0 2).bind fun r2 => (if cm_sh w r2 = some (.inl 7) then (fn_1 w r2 i1 (3 : Int32)).bind fun v5 => (cm_R w a0 2).bind fun r7 => (if cm_sh w r7 = some (.inl 7) then (fn_1 w r7 i1 (4 : Int32)).bind fun v10 => some (v5 + v10) else none) else none) else none)
theorem jt_110_0 (w : cm_W) (a0 : Nat) (i1 : Int32) : sm cm_g 110 ck_110 kq_110 0 [(0, .ref a0), (1, .int i1)] [] w ((fn_110 w a0 i1).map (cm_fI w)) := by
  unfold fn_110
  refine sm_seg 1 1 [(0, .ref a0), (1, .int i1)] [.ref a0] rfl ?_
  refine sm_gd fun h1 => ?_
  refine sm_gR rfl h1 rfl rfl fun r2 h3 => ?_
  show sm _ _ _ _ 4 [(0, .ref a0), (1, .int i1)] [.ref r2] _ _
  refine sm_seg 2 6 [(0, .ref a0), (1, .int i1)] [.int (3 : Int32), .int i1, .ref r2] rfl ?_
  refine sm_gd fun h4 => ?_
  refine sm_cV (as := [.int i1, .int (3 : Int32)]) (rest := []) rfl rfl rfl rfl h4 (Nat.le_of_ble_eq_true rfl) (ca_1 w r2 i1 (3 : Int32)) fun v5 h6 => ?_
  show sm _ _ _ _ 9 [(0, .ref a0), (1, .int i1)] [.int v5] _ _
  refine sm_seg 1 10 [(0, .ref a0), (1, .int i1)] [.ref a0, .int v5] rfl ?_
  refine sm_gR rfl h1 rfl rfl fun r7 h8 => ?_
  show sm _ _ _ _ 13 [(0, .ref a0), (1, .int i1)] [.ref r7, .int v5] _ _
  refine sm_seg 2 15 [(0, .ref a0), (1, .int i1)] [.int (4 : Int32), .int i1, .ref r7, .int v5] rfl ?_
  refine sm_gd fun h9 => ?_
  refine sm_cV (as := [.int i1, .int (4 : Int32)]) (rest := [.int v5]) rfl rfl rfl rfl h9 (Nat.le_of_ble_eq_true rfl) (ca_1 w r7 i1 (4 : Int32)) fun v10 h11 => ?_
  show sm _ _ _ _ 18 [(0, .ref a0), (1, .int i1)] [.int v10, .int v5] _ _
  refine sm_seg 1 19 [(0, .ref a0), (1, .int i1)] [.int (v5 + v10)] rfl ?_
  exact sm_rI rfl rfl
theorem ca_110 (w : cm_W) (a0 : Nat) (i1 : Int32) : cm_ca cm_g 110 [.ref a0, .int i1] w ((fn_110 w a0 i1).map (cm_fI w)) := cm_ca_of (cm_me_of rfl rfl) rfl (jt_110_0 w a0 i1)
-- NailedBoxes$State.canBeBroughtBack(I)Z
def fn_111 (w : cm_W) (a0 : Nat) (i1 : Int32) : Option Bool := (if cm_sh w a0 = some (.inl 6) then (cm_R w a0 2).bind fun r2 => (if cm_sh w r2 = some (.inl 7) then (fn_1 w r2 i1 (0 : Int32)).bind fun v5 => (cm_R w a0 2).bind fun r7 => (if cm_sh w r7 = some (.inl 7) then (fn_1 w r7 i1 (5 : Int32)).bind fun v10 => (if ¬ v10 = 0 then some false else (fn_108 w a0 v5).bind fun v13 => (if (cm_b v13) = 0 then some false else (fn_17 w a0 v5).bind fun v16 => (cm_R w a0 2).bind fun r18 => (if cm_sh w r18 = some (.inl 7) then (fn_1 w r18 i1 (2 : Int32)).bind fun v21 => (if ¬ v16 = v21 then some false else (cm_R w a0 2).bind fun r24 => (if cm_sh w r24 = some (.inl 7) then (fn_1 w r24 i1 (1 : Int32)).bind fun v27 => (fn_109 w a0 v27).bind fun v29 => (fn_110 w a0 i1).bind fun v31 => (if v29 < v31 then some false else some true) else none)) else none))) else none) else none) else none)
theorem jt_111_0 (w : cm_W) (a0 : Nat) (i1 : Int32) : sm cm_g 111 ck_111 kq_111 0 [(0, .ref a0), (1, .int i1)] [] w ((fn_111 w a0 i1).map (cm_fB w)) := by
  unfold fn_111
  refine sm_seg 1 1 [(0, .ref a0), (1, .int i1)] [.ref a0] rfl ?_
  refine sm_gd fun h1 => ?_
  refine sm_gR rfl h1 rfl rfl fun r2 h3 => ?_
  show sm _ _ _ _ 4 [(0, .ref a0), (1, .int i1)] [.ref r2] _ _
  refine sm_seg 2 6 [(0, .ref a0), (1, .int i1)] [.int (0 : Int32), .int i1, .ref r2] rfl ?_
  refine sm_gd fun h4 => ?_
  refine sm_cV (as := [.int i1, .int (0 : Int32)]) (rest := []) rfl rfl rfl rfl h4 (Nat.le_of_ble_eq_true rfl) (ca_1 w r2 i1 (0 : Int32)) fun v5 h6 => ?_
  show sm _ _ _ _ 9 [(0, .ref a0), (1, .int i1)] [.int v5] _ _
  refine sm_seg 2 11 [(2, .int v5), (0, .ref a0), (1, .int i1)] [.ref a0] rfl ?_
  refine sm_gR rfl h1 rfl rfl fun r7 h8 => ?_
  show sm _ _ _ _ 14 [(2, .int v5), (0, .ref a0), (1, .int i1)] [.ref r7] _ _
  refine sm_seg 2 16 [(2, .int v5), (0, .ref a0), (1, .int i1)] [.int (5 : Int32), .int i1, .ref r7] rfl ?_
  refine sm_gd fun h9 => ?_
  refine sm_cV (as := [.int i1, .int (5 : Int32)]) (rest := []) rfl rfl rfl rfl h9 (Nat.le_of_ble_eq_true rfl) (ca_1 w r7 i1 (5 : Int32)) fun v10 h11 => ?_
  show sm _ _ _ _ 19 [(2, .int v5), (0, .ref a0), (1, .int i1)] [.int v10] _ _
  refine sm_if (pc1 := 72) (lv1 := []) (pc2 := 22) (lv2 := [(2, .int v5), (0, .ref a0), (1, .int i1)]) (st1 := []) rfl rfl rfl (fun h12 => ?_) (fun h12 => ?_)
  · refine sm_seg 1 73 [] [.int (0 : Int32)] rfl ?_
    exact sm_rB (b := false) rfl rfl
  · refine sm_seg 2 24 [(2, .int v5), (0, .ref a0), (1, .int i1)] [.int v5, .ref a0] rfl ?_
    refine sm_cV (as := [.int v5]) (rest := []) rfl rfl rfl rfl h1 (Nat.le_of_ble_eq_true rfl) (ca_108 w a0 v5) fun v13 h14 => ?_
    show sm _ _ _ _ 27 [(2, .int v5), (0, .ref a0), (1, .int i1)] [.int (cm_b v13)] _ _
    refine sm_if (pc1 := 72) (lv1 := []) (pc2 := 30) (lv2 := [(2, .int v5), (0, .ref a0), (1, .int i1)]) (st1 := []) rfl rfl rfl (fun h15 => ?_) (fun h15 => ?_)
    · refine sm_seg 1 73 [] [.int (0 : Int32)] rfl ?_
      exact sm_rB (b := false) rfl rfl
    · refine sm_seg 2 32 [(2, .int v5), (0, .ref a0), (1, .int i1)] [.int v5, .ref a0] rfl ?_
      refine sm_cV (as := [.int v5]) (rest := []) rfl rfl rfl rfl h1 (Nat.le_of_ble_eq_true rfl) (ca_17 w a0 v5) fun v16 h17 => ?_
      show sm _ _ _ _ 35 [(2, .int v5), (0, .ref a0), (1, .int i1)] [.int v16] _ _
      refine sm_seg 1 36 [(2, .int v5), (0, .ref a0), (1, .int i1)] [.ref a0, .int v16] rfl ?_
      refine sm_gR rfl h1 rfl rfl fun r18 h19 => ?_
      show sm _ _ _ _ 39 [(2, .int v5), (0, .ref a0), (1, .int i1)] [.ref r18, .int v16] _ _
      refine sm_seg 2 41 [(2, .int v5), (0, .ref a0), (1, .int i1)] [.int (2 : Int32), .int i1, .ref r18, .int v16] rfl ?_
      refine sm_gd fun h20 => ?_
      refine sm_cV (as := [.int i1, .int (2 : Int32)]) (rest := [.int v16]) rfl rfl rfl rfl h20 (Nat.le_of_ble_eq_true rfl) (ca_1 w r18 i1 (2 : Int32)) fun v21 h22 => ?_
      show sm _ _ _ _ 44 [(2, .int v5), (0, .ref a0), (1, .int i1)] [.int v21, .int v16] _ _
      refine sm_if (pc1 := 72) (lv1 := []) (pc2 := 47) (lv2 := [(2, .int v5), (0, .ref a0), (1, .int i1)]) (st1 := []) rfl rfl rfl (fun h23 => ?_) (fun h23 => ?_)
      · refine sm_seg 1 73 [] [.int (0 : Int32)] rfl ?_
        exact sm_rB (b := false) rfl rfl
      · refine sm_seg 2 49 [(2, .int v5), (0, .ref a0), (1, .int i1)] [.ref a0, .ref a0] rfl ?_
        refine sm_gR rfl h1 rfl rfl fun r24 h25 => ?_
        show sm _ _ _ _ 52 [(2, .int v5), (0, .ref a0), (1, .int i1)] [.ref r24, .ref a0] _ _
        refine sm_seg 2 54 [(2, .int v5), (0, .ref a0), (1, .int i1)] [.int (1 : Int32), .int i1, .ref r24, .ref a0] rfl ?_
        refine sm_gd fun h26 => ?_
        refine sm_cV (as := [.int i1, .int (1 : Int32)]) (rest := [.ref a0]) rfl rfl rfl rfl h26 (Nat.le_of_ble_eq_true rfl) (ca_1 w r24 i1 (1 : Int32)) fun v27 h28 => ?_
        show sm _ _ _ _ 57 [(2, .int v5), (0, .ref a0), (1, .int i1)] [.int v27, .ref a0] _ _
        refine sm_cV (as := [.int v27]) (rest := []) rfl rfl rfl rfl h1 (Nat.le_of_ble_eq_true rfl) (ca_109 w a0 v27) fun v29 h30 => ?_
        show sm _ _ _ _ 60 [(2, .int v5), (0, .ref a0), (1, .int i1)] [.int v29] _ _
        refine sm_seg 2 62 [(2, .int v5), (0, .ref a0), (1, .int i1)] [.int i1, .ref a0, .int v29] rfl ?_
        refine sm_cV (as := [.int i1]) (rest := [.int v29]) rfl rfl rfl rfl h1 (Nat.le_of_ble_eq_true rfl) (ca_110 w a0 i1) fun v31 h32 => ?_
        show sm _ _ _ _ 65 [(2, .int v5), (0, .ref a0), (1, .int i1)] [.int v31, .int v29] _ _
        refine sm_if (pc1 := 72) (lv1 := []) (pc2 := 68) (lv2 := [(2, .int v5), (0, .ref a0), (1, .int i1)]) (st1 := []) rfl rfl rfl (fun h33 => ?_) (fun h33 => ?_)
        · refine sm_seg 1 73 [] [.int (0 : Int32)] rfl ?_
          exact sm_rB (b := false) rfl rfl
        · refine sm_seg 2 73 [] [.int (1 : Int32)] rfl ?_
          exact sm_rB (b := true) rfl rfl
theorem ca_111 (w : cm_W) (a0 : Nat) (i1 : Int32) : cm_ca cm_g 111 [.ref a0, .int i1] w ((fn_111 w a0 i1).map (cm_fB w)) := cm_ca_of (cm_me_of rfl rfl) rfl (jt_111_0 w a0 i1)
-- NailedBoxes$State.hand(II)V
def fn_112 (a0 : Nat) (i1 : Int32) (i2 : Int32) (w : cm_W) : Option cm_W := (if cm_sh w a0 = some (.inl 6) then (cm_R w a0 0).bind fun r2 => (if cm_sh w r2 = some (.inl 7) then (fn_99 r2 i1 (2 : Int32) i2 w).bind fun w5 => some w5 else none) else none)
theorem jt_112_0 (a0 : Nat) (i1 : Int32) (i2 : Int32) (w : cm_W) : sm cm_g 112 ck_112 kq_112 0 [(0, .ref a0), (1, .int i1), (2, .int i2)] [] w ((fn_112 a0 i1 i2 w).map cm_gV) := by
  unfold fn_112
  refine sm_seg 1 1 [(0, .ref a0), (1, .int i1), (2, .int i2)] [.ref a0] rfl ?_
  refine sm_gd fun h1 => ?_
  refine sm_gR rfl h1 rfl rfl fun r2 h3 => ?_
  show sm _ _ _ _ 4 [(0, .ref a0), (1, .int i1), (2, .int i2)] [.ref r2] _ _
  refine sm_seg 3 7 [(0, .ref a0), (1, .int i1), (2, .int i2)] [.int i2, .int (2 : Int32), .int i1, .ref r2] rfl ?_
  refine sm_gd fun h4 => ?_
  refine sm_cV (as := [.int i1, .int (2 : Int32), .int i2]) (rest := []) rfl rfl rfl rfl h4 (Nat.le_of_ble_eq_true rfl) (ca_99  r2 i1 (2 : Int32) i2 w) fun w5 h6 => ?_
  show sm _ _ _ _ 10 [(0, .ref a0), (1, .int i1), (2, .int i2)] [] _ _
  exact sm_rV rfl rfl
theorem ca_112 (a0 : Nat) (i1 : Int32) (i2 : Int32) (w : cm_W) : cm_ca cm_g 112 [.ref a0, .int i1, .int i2] w ((fn_112 a0 i1 i2 w).map cm_gV) := cm_ca_of (cm_me_of rfl rfl) rfl (jt_112_0 a0 i1 i2 w)
-- NailedBoxes$State.pay(III)V
def fn_113 (a0 : Nat) (i1 : Int32) (i2 : Int32) (i3 : Int32) (w : cm_W) : Option cm_W := (fn_100 w i1).bind fun v1 => (if (cm_b v1) = 0 then some w else (fn_100 w i2).bind fun v4 => (if (cm_b v4) = 0 then some w else (if cm_sh w a0 = some (.inl 6) then (cm_R w a0 5).bind fun r8 => (if cm_ga w .int r8 i1 = true then (if cm_w2 30 41 r8 = true then (cm_R (cm_sI w r8 i1.toNatClampNeg ((cm_I w r8 i1.toNatClampNeg) - i3)) a0 5).bind fun r12 => (if cm_ga w .int r12 i2 = true then (if cm_w2 30 41 r12 = true then some (cm_sI (cm_sI w r8 i1.toNatClampNeg ((cm_I w r8 i1.toNatClampNeg) - i3)) r12 i2.toNatClampNeg ((cm_I (cm_sI w r8 i1.toNatClampNeg ((cm_I w r8 i1.toNatClampNeg) - i3)) r12 i2.toNatClampNeg) + i3)) else none) else none) else none) else none) else none)))
theorem jt_113_0 (a0 : Nat) (i1 : Int32) (i2 : Int32) (i3 : Int32) (w : cm_W) : sm cm_g 113 ck_113 kq_113 0 [(0, .ref a0), (1, .int i1), (2, .int i2), (3, .int i3)] [] w ((fn_113 a0 i1 i2 i3 w).map cm_gV) := by
  unfold fn_113
  refine sm_seg 1 1 [(0, .ref a0), (1, .int i1), (2, .int i2), (3, .int i3)] [.int i1] rfl ?_
  refine sm_cS (av := [.int i1]) (rest := []) rfl rfl rfl rfl (Nat.le_of_ble_eq_true rfl) (ca_100 w i1) fun v1 h2 => ?_
  show sm _ _ _ _ 4 [(0, .ref a0), (1, .int i1), (2, .int i2), (3, .int i3)] [.int (cm_b v1)] _ _
  refine sm_if (pc1 := 34) (lv1 := []) (pc2 := 7) (lv2 := [(0, .ref a0), (1, .int i1), (2, .int i2), (3, .int i3)]) (st1 := []) rfl rfl rfl (fun h3 => ?_) (fun h3 => ?_)
  · exact sm_rV rfl rfl
  · refine sm_seg 1 8 [(0, .ref a0), (1, .int i1), (2, .int i2), (3, .int i3)] [.int i2] rfl ?_
    refine sm_cS (av := [.int i2]) (rest := []) rfl rfl rfl rfl (Nat.le_of_ble_eq_true rfl) (ca_100 w i2) fun v4 h5 => ?_
    show sm _ _ _ _ 11 [(0, .ref a0), (1, .int i1), (2, .int i2), (3, .int i3)] [.int (cm_b v4)] _ _
    refine sm_if (pc1 := 34) (lv1 := []) (pc2 := 14) (lv2 := [(0, .ref a0), (1, .int i1), (2, .int i2), (3, .int i3)]) (st1 := []) rfl rfl rfl (fun h6 => ?_) (fun h6 => ?_)
    · exact sm_rV rfl rfl
    · refine sm_seg 1 15 [(0, .ref a0), (1, .int i1), (2, .int i2), (3, .int i3)] [.ref a0] rfl ?_
      refine sm_gd fun h7 => ?_
      refine sm_gR rfl h7 rfl rfl fun r8 h9 => ?_
      show sm _ _ _ _ 18 [(0, .ref a0), (1, .int i1), (2, .int i2), (3, .int i3)] [.ref r8] _ _
      refine sm_seg 2 20 [(0, .ref a0), (1, .int i1), (2, .int i2), (3, .int i3)] [.int i1, .ref r8, .int i1, .ref r8] rfl ?_
      refine sm_gd fun h10 => ?_
      refine sm_ai rfl h10 rfl ?_
      show sm _ _ _ _ 21 [(0, .ref a0), (1, .int i1), (2, .int i2), (3, .int i3)] [.int (cm_I w r8 i1.toNatClampNeg), .int i1, .ref r8] _ _
      refine sm_seg 2 23 [(0, .ref a0), (1, .int i1), (2, .int i2), (3, .int i3)] [.int ((cm_I w r8 i1.toNatClampNeg) - i3), .int i1, .ref r8] rfl ?_
      refine sm_gd fun h11 => ?_
      refine sm_si rfl h10 h11 rfl rfl ?_
      show sm _ _ _ _ 24 [(0, .ref a0), (1, .int i1), (2, .int i2), (3, .int i3)] [] _ _
      refine sm_seg 1 25 [(0, .ref a0), (1, .int i1), (2, .int i2), (3, .int i3)] [.ref a0] rfl ?_
      refine sm_gR rfl h7 rfl rfl fun r12 h13 => ?_
      show sm _ _ _ _ 28 [(0, .ref a0), (1, .int i1), (2, .int i2), (3, .int i3)] [.ref r12] _ _
      refine sm_seg 2 30 [(0, .ref a0), (1, .int i1), (2, .int i2), (3, .int i3)] [.int i2, .ref r12, .int i2, .ref r12] rfl ?_
      refine sm_gd fun h14 => ?_
      refine sm_ai rfl h14 rfl ?_
      show sm _ _ _ _ 31 [(0, .ref a0), (1, .int i1), (2, .int i2), (3, .int i3)] [.int (cm_I (cm_sI w r8 i1.toNatClampNeg ((cm_I w r8 i1.toNatClampNeg) - i3)) r12 i2.toNatClampNeg), .int i2, .ref r12] _ _
      refine sm_seg 2 33 [(0, .ref a0), (1, .int i1), (2, .int i2), (3, .int i3)] [.int ((cm_I (cm_sI w r8 i1.toNatClampNeg ((cm_I w r8 i1.toNatClampNeg) - i3)) r12 i2.toNatClampNeg) + i3), .int i2, .ref r12] rfl ?_
      refine sm_gd fun h15 => ?_
      refine sm_si rfl h14 h15 rfl rfl ?_
      show sm _ _ _ _ 34 [] [] _ _
      exact sm_rV rfl rfl
theorem ca_113 (a0 : Nat) (i1 : Int32) (i2 : Int32) (i3 : Int32) (w : cm_W) : cm_ca cm_g 113 [.ref a0, .int i1, .int i2, .int i3] w ((fn_113 a0 i1 i2 i3 w).map cm_gV) := cm_ca_of (cm_me_of rfl rfl) rfl (jt_113_0 a0 i1 i2 i3 w)
-- NailedBoxes$State.bringBack(I)V
def fn_114 (a0 : Nat) (i1 : Int32) (w : cm_W) : Option cm_W := (if cm_sh w a0 = some (.inl 6) then (cm_R w a0 2).bind fun r2 => (if cm_sh w r2 = some (.inl 7) then (fn_1 w r2 i1 (1 : Int32)).bind fun v5 => (cm_R w a0 2).bind fun r7 => (if cm_sh w r7 = some (.inl 7) then (fn_1 w r7 i1 (0 : Int32)).bind fun v10 => (fn_112 a0 v10 v5 w).bind fun w12 => (if cm_sh w12 a0 = some (.inl 6) then (cm_R w12 a0 2).bind fun r15 => (if cm_sh w12 r15 = some (.inl 7) then (fn_1 w12 r15 i1 (2 : Int32)).bind fun v18 => (fn_110 w12 a0 i1).bind fun v20 => (fn_113 a0 v5 v18 v20 w12).bind fun w22 => (if cm_sh w22 a0 = some (.inl 6) then (cm_R w22 a0 2).bind fun r25 => (if cm_sh w22 r25 = some (.inl 7) then (fn_99 r25 i1 (5 : Int32) (1 : Int32) w22).bind fun w28 => some w28 else none) else none) else none) else none) else none) else none) else none)
theorem jt_114_0 (a0 : Nat) (i1 : Int32) (w : cm_W) : sm cm_g 114 ck_114 kq_114 0 [(0, .ref a0), (1, .int i1)] [] w ((fn_114 a0 i1 w).map cm_gV) := by
  unfold fn_114
  refine sm_seg 1 1 [(0, .ref a0), (1, .int i1)] [.ref a0] rfl ?_
  refine sm_gd fun h1 => ?_
  refine sm_gR rfl h1 rfl rfl fun r2 h3 => ?_
  show sm _ _ _ _ 4 [(0, .ref a0), (1, .int i1)] [.ref r2] _ _
  refine sm_seg 2 6 [(0, .ref a0), (1, .int i1)] [.int (1 : Int32), .int i1, .ref r2] rfl ?_
  refine sm_gd fun h4 => ?_
  refine sm_cV (as := [.int i1, .int (1 : Int32)]) (rest := []) rfl rfl rfl rfl h4 (Nat.le_of_ble_eq_true rfl) (ca_1 w r2 i1 (1 : Int32)) fun v5 h6 => ?_
  show sm _ _ _ _ 9 [(0, .ref a0), (1, .int i1)] [.int v5] _ _
  refine sm_seg 3 12 [(2, .int v5), (0, .ref a0), (1, .int i1)] [.ref a0, .ref a0] rfl ?_
  refine sm_gR rfl h1 rfl rfl fun r7 h8 => ?_
  show sm _ _ _ _ 15 [(2, .int v5), (0, .ref a0), (1, .int i1)] [.ref r7, .ref a0] _ _
  refine sm_seg 2 17 [(2, .int v5), (0, .ref a0), (1, .int i1)] [.int (0 : Int32), .int i1, .ref r7, .ref a0] rfl ?_
  refine sm_gd fun h9 => ?_
  refine sm_cV (as := [.int i1, .int (0 : Int32)]) (rest := [.ref a0]) rfl rfl rfl rfl h9 (Nat.le_of_ble_eq_true rfl) (ca_1 w r7 i1 (0 : Int32)) fun v10 h11 => ?_
  show sm _ _ _ _ 20 [(2, .int v5), (0, .ref a0), (1, .int i1)] [.int v10, .ref a0] _ _
  refine sm_seg 1 21 [(2, .int v5), (0, .ref a0), (1, .int i1)] [.int v5, .int v10, .ref a0] rfl ?_
  refine sm_cV (as := [.int v10, .int v5]) (rest := []) rfl rfl rfl rfl h1 (Nat.le_of_ble_eq_true rfl) (ca_112  a0 v10 v5 w) fun w12 h13 => ?_
  show sm _ _ _ _ 24 [(2, .int v5), (0, .ref a0), (1, .int i1)] [] _ _
  refine sm_seg 3 27 [(2, .int v5), (0, .ref a0), (1, .int i1)] [.ref a0, .int v5, .ref a0] rfl ?_
  refine sm_gd fun h14 => ?_
  refine sm_gR rfl h14 rfl rfl fun r15 h16 => ?_
  show sm _ _ _ _ 30 [(2, .int v5), (0, .ref a0), (1, .int i1)] [.ref r15, .int v5, .ref a0] _ _
  refine sm_seg 2 32 [(2, .int v5), (0, .ref a0), (1, .int i1)] [.int (2 : Int32), .int i1, .ref r15, .int v5, .ref a0] rfl ?_
  refine sm_gd fun h17 => ?_
  refine sm_cV (as := [.int i1, .int (2 : Int32)]) (rest := [.int v5, .ref a0]) rfl rfl rfl rfl h17 (Nat.le_of_ble_eq_true rfl) (ca_1 w12 r15 i1 (2 : Int32)) fun v18 h19 => ?_
  show sm _ _ _ _ 35 [(2, .int v5), (0, .ref a0), (1, .int i1)] [.int v18, .int v5, .ref a0] _ _
  refine sm_seg 2 37 [(2, .int v5), (0, .ref a0), (1, .int i1)] [.int i1, .ref a0, .int v18, .int v5, .ref a0] rfl ?_
  refine sm_cV (as := [.int i1]) (rest := [.int v18, .int v5, .ref a0]) rfl rfl rfl rfl h14 (Nat.le_of_ble_eq_true rfl) (ca_110 w12 a0 i1) fun v20 h21 => ?_
  show sm _ _ _ _ 40 [(2, .int v5), (0, .ref a0), (1, .int i1)] [.int v20, .int v18, .int v5, .ref a0] _ _
  refine sm_cV (as := [.int v5, .int v18, .int v20]) (rest := []) rfl rfl rfl rfl h14 (Nat.le_of_ble_eq_true rfl) (ca_113  a0 v5 v18 v20 w12) fun w22 h23 => ?_
  show sm _ _ _ _ 43 [(2, .int v5), (0, .ref a0), (1, .int i1)] [] _ _
  refine sm_seg 1 44 [(2, .int v5), (0, .ref a0), (1, .int i1)] [.ref a0] rfl ?_
  refine sm_gd fun h24 => ?_
  refine sm_gR rfl h24 rfl rfl fun r25 h26 => ?_
  show sm _ _ _ _ 47 [(2, .int v5), (0, .ref a0), (1, .int i1)] [.ref r25] _ _
  refine sm_seg 3 50 [(2, .int v5), (0, .ref a0), (1, .int i1)] [.int (1 : Int32), .int (5 : Int32), .int i1, .ref r25] rfl ?_
  refine sm_gd fun h27 => ?_
  refine sm_cV (as := [.int i1, .int (5 : Int32), .int (1 : Int32)]) (rest := []) rfl rfl rfl rfl h27 (Nat.le_of_ble_eq_true rfl) (ca_99  r25 i1 (5 : Int32) (1 : Int32) w22) fun w28 h29 => ?_
  show sm _ _ _ _ 53 [(2, .int v5), (0, .ref a0), (1, .int i1)] [] _ _
  exact sm_rV rfl rfl
theorem ca_114 (a0 : Nat) (i1 : Int32) (w : cm_W) : cm_ca cm_g 114 [.ref a0, .int i1] w ((fn_114 a0 i1 w).map cm_gV) := cm_ca_of (cm_me_of rfl rfl) rfl (jt_114_0 a0 i1 w)
-- NailedBoxes$State.isWithin(II)Z
def fn_115_38 (w : cm_W) (i2 : Int32) (i3 : Int32) : Option Bool := (if ¬ i3 = i2 then some false else some true)
theorem jt_115_38 (w : cm_W) (i2 : Int32) (i3 : Int32) : sm cm_g 115 ck_115 kq_115 38 [(2, .int i2), (3, .int i3)] [] w ((fn_115_38 w i2 i3).map (cm_fB w)) := by
  unfold fn_115_38
  refine sm_seg 2 40 [(2, .int i2), (3, .int i3)] [.int i2, .int i3] rfl ?_
  refine sm_if (pc1 := 47) (lv1 := []) (pc2 := 43) (lv2 := [(2, .int i2), (3, .int i3)]) (st1 := []) rfl rfl rfl (fun h1 => ?_) (fun h1 => ?_)
  · refine sm_seg 1 48 [] [.int (0 : Int32)] rfl ?_
    exact sm_rB (b := false) rfl rfl
  · refine sm_seg 2 48 [] [.int (1 : Int32)] rfl ?_
    exact sm_rB (b := true) rfl rfl
def fn_115_5 (w : cm_W) : Nat → Nat → Int32 → Int32 → Int32 → Option Bool
  | 0, _, _, _, _ => none
  | n + 1, a0, i2, i3, i4 => (if (40 : Int32) ≤ i4 then fn_115_38 w i2 i3 else (if i3 = i2 then fn_115_38 w i2 i3 else (if i3 = (-1 : Int32) then fn_115_38 w i2 i3 else (if cm_sh w a0 = some (.inl 6) then (cm_R w a0 0).bind fun r6 => (if cm_sh w r6 = some (.inl 7) then (fn_1 w r6 i3 (3 : Int32)).bind fun v9 => fn_115_5 w n a0 i2 v9 (i4 + (1 : Int32)) else none) else none))))
theorem jt_115_5 (w : cm_W) : ∀ (n : Nat) (a0 : Nat) (i2 : Int32) (i3 : Int32) (i4 : Int32), sm cm_g 115 ck_115 kq_115 5 [(0, .ref a0), (2, .int i2), (3, .int i3), (4, .int i4)] [] w ((fn_115_5 w n a0 i2 i3 i4).map (cm_fB w)) := by
  intro n
  induction n with
  | zero => intro a0 i2 i3 i4; exact sm_no
  | succ n ih =>
    intro a0 i2 i3 i4
    rw [fn_115_5]
    refine sm_seg 2 9 [(0, .ref a0), (2, .int i2), (3, .int i3), (4, .int i4)] [.int (40 : Int32), .int i4] rfl ?_
    refine sm_if (pc1 := 38) (lv1 := [(2, .int i2), (3, .int i3)]) (pc2 := 12) (lv2 := [(0, .ref a0), (2, .int i2), (3, .int i3), (4, .int i4)]) (st1 := []) rfl rfl rfl (fun h2 => ?_) (fun h2 => ?_)
    · exact jt_115_38 w i2 i3
    · refine sm_seg 2 14 [(0, .ref a0), (2, .int i2), (3, .int i3), (4, .int i4)] [.int i2, .int i3] rfl ?_
      refine sm_if (pc1 := 38) (lv1 := [(2, .int i2), (3, .int i3)]) (pc2 := 17) (lv2 := [(0, .ref a0), (2, .int i2), (3, .int i3), (4, .int i4)]) (st1 := []) rfl rfl rfl (fun h3 => ?_) (fun h3 => ?_)
      · exact jt_115_38 w i2 i3
      · refine sm_seg 2 19 [(0, .ref a0), (2, .int i2), (3, .int i3), (4, .int i4)] [.int (-1 : Int32), .int i3] rfl ?_
        refine sm_if (pc1 := 38) (lv1 := [(2, .int i2), (3, .int i3)]) (pc2 := 22) (lv2 := [(0, .ref a0), (2, .int i2), (3, .int i3), (4, .int i4)]) (st1 := []) rfl rfl rfl (fun h4 => ?_) (fun h4 => ?_)
        · exact jt_115_38 w i2 i3
        · refine sm_seg 1 23 [(0, .ref a0), (2, .int i2), (3, .int i3), (4, .int i4)] [.ref a0] rfl ?_
          refine sm_gd fun h5 => ?_
          refine sm_gR rfl h5 rfl rfl fun r6 h7 => ?_
          show sm _ _ _ _ 26 [(0, .ref a0), (2, .int i2), (3, .int i3), (4, .int i4)] [.ref r6] _ _
          refine sm_seg 2 28 [(0, .ref a0), (2, .int i2), (3, .int i3), (4, .int i4)] [.int (3 : Int32), .int i3, .ref r6] rfl ?_
          refine sm_gd fun h8 => ?_
          refine sm_cV (as := [.int i3, .int (3 : Int32)]) (rest := []) rfl rfl rfl rfl h8 (Nat.le_of_ble_eq_true rfl) (ca_1 w r6 i3 (3 : Int32)) fun v9 h10 => ?_
          show sm _ _ _ _ 31 [(0, .ref a0), (2, .int i2), (3, .int i3), (4, .int i4)] [.int v9] _ _
          refine sm_seg 3 5 [(0, .ref a0), (2, .int i2), (3, .int v9), (4, .int (i4 + (1 : Int32)))] [] rfl ?_
          exact ih a0 i2 v9 (i4 + (1 : Int32))
def fn_115 (w : cm_W) (a0 : Nat) (i1 : Int32) (i2 : Int32) : Option Bool := fn_115_5 w cm_N a0 i2 i1 (0 : Int32)
theorem jt_115_0 (w : cm_W) (a0 : Nat) (i1 : Int32) (i2 : Int32) : sm cm_g 115 ck_115 kq_115 0 [(0, .ref a0), (1, .int i1), (2, .int i2)] [] w ((fn_115 w a0 i1 i2).map (cm_fB w)) := by
  unfold fn_115
  refine sm_seg 4 5 [(0, .ref a0), (2, .int i2), (3, .int i1), (4, .int (0 : Int32))] [] rfl ?_
  exact jt_115_5 w cm_N a0 i2 i1 (0 : Int32)
theorem ca_115 (w : cm_W) (a0 : Nat) (i1 : Int32) (i2 : Int32) : cm_ca cm_g 115 [.ref a0, .int i1, .int i2] w ((fn_115 w a0 i1 i2).map (cm_fB w)) := cm_ca_of (cm_me_of rfl rfl) rfl (jt_115_0 w a0 i1 i2)
-- NailedBoxes$State.boxesInHands(I)I
def fn_116_4 (w : cm_W) : Nat → Nat → Int32 → Int32 → Int32 → Option Int32
  | 0, _, _, _, _ => none
  | n + 1, a0, i1, i2, i3 => (if cm_sh w a0 = some (.inl 6) then (cm_R w a0 0).bind fun r2 => (if cm_sh w r2 = some (.inl 7) then (if (cm_I w r2 2) ≤ i3 then some i2 else (fn_17 w a0 i3).bind fun v6 => (if ¬ v6 = i1 then fn_116_4 w n a0 i1 (i2 + (0 : Int32)) (i3 + (1 : Int32)) else fn_116_4 w n a0 i1 (i2 + (1 : Int32)) (i3 + (1 : Int32)))) else none) else none)
theorem jt_116_4 (w : cm_W) : ∀ (n : Nat) (a0 : Nat) (i1 : Int32) (i2 : Int32) (i3 : Int32), sm cm_g 116 ck_116 kq_116 4 [(0, .ref a0), (1, .int i1), (2, .int i2), (3, .int i3)] [] w ((fn_116_4 w n a0 i1 i2 i3).map (cm_fI w)) := by
  intro n
  induction n with
  | zero => intro a0 i1 i2 i3; exact sm_no
  | succ n ih =>
    intro a0 i1 i2 i3
    rw [fn_116_4]
    refine sm_seg 2 6 [(0, .ref a0), (1, .int i1), (2, .int i2), (3, .int i3)] [.ref a0, .int i3] rfl ?_
    refine sm_gd fun h1 => ?_
    refine sm_gR rfl h1 rfl rfl fun r2 h3 => ?_
    show sm _ _ _ _ 9 [(0, .ref a0), (1, .int i1), (2, .int i2), (3, .int i3)] [.ref r2, .int i3] _ _
    refine sm_gd fun h4 => ?_
    refine sm_gI rfl h4 rfl ?_
    show sm _ _ _ _ 12 [(0, .ref a0), (1, .int i1), (2, .int i2), (3, .int i3)] [.int (cm_I w r2 2), .int i3] _ _
    refine sm_if (pc1 := 38) (lv1 := [(2, .int i2)]) (pc2 := 15) (lv2 := [(0, .ref a0), (1, .int i1), (2, .int i2), (3, .int i3)]) (st1 := []) rfl rfl rfl (fun h5 => ?_) (fun h5 => ?_)
    · refine sm_seg 1 39 [(2, .int i2)] [.int i2] rfl ?_
      exact sm_rI rfl rfl
    · refine sm_seg 3 18 [(0, .ref a0), (1, .int i1), (2, .int i2), (3, .int i3)] [.int i3, .ref a0, .int i2] rfl ?_
      refine sm_cV (as := [.int i3]) (rest := [.int i2]) rfl rfl rfl rfl h1 (Nat.le_of_ble_eq_true rfl) (ca_17 w a0 i3) fun v6 h7 => ?_
      show sm _ _ _ _ 21 [(0, .ref a0), (1, .int i1), (2, .int i2), (3, .int i3)] [.int v6, .int i2] _ _
      refine sm_seg 1 22 [(0, .ref a0), (1, .int i1), (2, .int i2), (3, .int i3)] [.int i1, .int v6, .int i2] rfl ?_
      refine sm_if (pc1 := 29) (lv1 := [(0, .ref a0), (1, .int i1), (3, .int i3)]) (pc2 := 25) (lv2 := [(0, .ref a0), (1, .int i1), (2, .int i2), (3, .int i3)]) (st1 := [.int i2]) rfl rfl rfl (fun h8 => ?_) (fun h8 => ?_)
      · refine sm_seg 5 4 [(0, .ref a0), (1, .int i1), (2, .int (i2 + (0 : Int32))), (3, .int (i3 + (1 : Int32)))] [] rfl ?_
        exact ih a0 i1 (i2 + (0 : Int32)) (i3 + (1 : Int32))
      · refine sm_seg 6 4 [(0, .ref a0), (1, .int i1), (2, .int (i2 + (1 : Int32))), (3, .int (i3 + (1 : Int32)))] [] rfl ?_
        exact ih a0 i1 (i2 + (1 : Int32)) (i3 + (1 : Int32))
def fn_116 (w : cm_W) (a0 : Nat) (i1 : Int32) : Option Int32 := fn_116_4 w cm_N a0 i1 (0 : Int32) (0 : Int32)
theorem jt_116_0 (w : cm_W) (a0 : Nat) (i1 : Int32) : sm cm_g 116 ck_116 kq_116 0 [(0, .ref a0), (1, .int i1)] [] w ((fn_116 w a0 i1).map (cm_fI w)) := by
  unfold fn_116
  refine sm_seg 4 4 [(0, .ref a0), (1, .int i1), (2, .int (0 : Int32)), (3, .int (0 : Int32))] [] rfl ?_
  exact jt_116_4 w cm_N a0 i1 (0 : Int32) (0 : Int32)
theorem ca_116 (w : cm_W) (a0 : Nat) (i1 : Int32) : cm_ca cm_g 116 [.ref a0, .int i1] w ((fn_116 w a0 i1).map (cm_fI w)) := cm_ca_of (cm_me_of rfl rfl) rfl (jt_116_0 w a0 i1)
-- NailedBoxes$State.recordsOf(I)I
def fn_117_4 (w : cm_W) : Nat → Nat → Int32 → Int32 → Int32 → Option Int32
  | 0, _, _, _, _ => none
  | n + 1, a0, i1, i2, i3 => (if cm_sh w a0 = some (.inl 6) then (cm_R w a0 1).bind fun r2 => (if cm_sh w r2 = some (.inl 7) then (if (cm_I w r2 2) ≤ i3 then some i2 else (cm_R w a0 1).bind fun r6 => (if cm_sh w r6 = some (.inl 7) then (fn_1 w r6 i3 (5 : Int32)).bind fun v9 => (if ¬ v9 = i1 then fn_117_4 w n a0 i1 (i2 + (0 : Int32)) (i3 + (1 : Int32)) else fn_117_4 w n a0 i1 (i2 + (1 : Int32)) (i3 + (1 : Int32))) else none)) else none) else none)
theorem jt_117_4 (w : cm_W) : ∀ (n : Nat) (a0 : Nat) (i1 : Int32) (i2 : Int32) (i3 : Int32), sm cm_g 117 ck_117 kq_117 4 [(0, .ref a0), (1, .int i1), (2, .int i2), (3, .int i3)] [] w ((fn_117_4 w n a0 i1 i2 i3).map (cm_fI w)) := by
  intro n
  induction n with
  | zero => intro a0 i1 i2 i3; exact sm_no
  | succ n ih =>
    intro a0 i1 i2 i3
    rw [fn_117_4]
    refine sm_seg 2 6 [(0, .ref a0), (1, .int i1), (2, .int i2), (3, .int i3)] [.ref a0, .int i3] rfl ?_
    refine sm_gd fun h1 => ?_
    refine sm_gR rfl h1 rfl rfl fun r2 h3 => ?_
    show sm _ _ _ _ 9 [(0, .ref a0), (1, .int i1), (2, .int i2), (3, .int i3)] [.ref r2, .int i3] _ _
    refine sm_gd fun h4 => ?_
    refine sm_gI rfl h4 rfl ?_
    show sm _ _ _ _ 12 [(0, .ref a0), (1, .int i1), (2, .int i2), (3, .int i3)] [.int (cm_I w r2 2), .int i3] _ _
    refine sm_if (pc1 := 42) (lv1 := [(2, .int i2)]) (pc2 := 15) (lv2 := [(0, .ref a0), (1, .int i1), (2, .int i2), (3, .int i3)]) (st1 := []) rfl rfl rfl (fun h5 => ?_) (fun h5 => ?_)
    · refine sm_seg 1 43 [(2, .int i2)] [.int i2] rfl ?_
      exact sm_rI rfl rfl
    · refine sm_seg 2 17 [(0, .ref a0), (1, .int i1), (2, .int i2), (3, .int i3)] [.ref a0, .int i2] rfl ?_
      refine sm_gR rfl h1 rfl rfl fun r6 h7 => ?_
      show sm _ _ _ _ 20 [(0, .ref a0), (1, .int i1), (2, .int i2), (3, .int i3)] [.ref r6, .int i2] _ _
      refine sm_seg 2 22 [(0, .ref a0), (1, .int i1), (2, .int i2), (3, .int i3)] [.int (5 : Int32), .int i3, .ref r6, .int i2] rfl ?_
      refine sm_gd fun h8 => ?_
      refine sm_cV (as := [.int i3, .int (5 : Int32)]) (rest := [.int i2]) rfl rfl rfl rfl h8 (Nat.le_of_ble_eq_true rfl) (ca_1 w r6 i3 (5 : Int32)) fun v9 h10 => ?_
      show sm _ _ _ _ 25 [(0, .ref a0), (1, .int i1), (2, .int i2), (3, .int i3)] [.int v9, .int i2] _ _
      refine sm_seg 1 26 [(0, .ref a0), (1, .int i1), (2, .int i2), (3, .int i3)] [.int i1, .int v9, .int i2] rfl ?_
      refine sm_if (pc1 := 33) (lv1 := [(0, .ref a0), (1, .int i1), (3, .int i3)]) (pc2 := 29) (lv2 := [(0, .ref a0), (1, .int i1), (2, .int i2), (3, .int i3)]) (st1 := [.int i2]) rfl rfl rfl (fun h11 => ?_) (fun h11 => ?_)
      · refine sm_seg 5 4 [(0, .ref a0), (1, .int i1), (2, .int (i2 + (0 : Int32))), (3, .int (i3 + (1 : Int32)))] [] rfl ?_
        exact ih a0 i1 (i2 + (0 : Int32)) (i3 + (1 : Int32))
      · refine sm_seg 6 4 [(0, .ref a0), (1, .int i1), (2, .int (i2 + (1 : Int32))), (3, .int (i3 + (1 : Int32)))] [] rfl ?_
        exact ih a0 i1 (i2 + (1 : Int32)) (i3 + (1 : Int32))
def fn_117 (w : cm_W) (a0 : Nat) (i1 : Int32) : Option Int32 := fn_117_4 w cm_N a0 i1 (0 : Int32) (0 : Int32)
theorem jt_117_0 (w : cm_W) (a0 : Nat) (i1 : Int32) : sm cm_g 117 ck_117 kq_117 0 [(0, .ref a0), (1, .int i1)] [] w ((fn_117 w a0 i1).map (cm_fI w)) := by
  unfold fn_117
  refine sm_seg 4 4 [(0, .ref a0), (1, .int i1), (2, .int (0 : Int32)), (3, .int (0 : Int32))] [] rfl ?_
  exact jt_117_4 w cm_N a0 i1 (0 : Int32) (0 : Int32)
theorem ca_117 (w : cm_W) (a0 : Nat) (i1 : Int32) : cm_ca cm_g 117 [.ref a0, .int i1] w ((fn_117 w a0 i1).map (cm_fI w)) := cm_ca_of (cm_me_of rfl rfl) rfl (jt_117_0 w a0 i1)
-- NailedBoxes$State.findRecord(II)I
def fn_118_50 (w : cm_W) (k_5 : Nat → Int32 → Int32 → Int32 → Option Int32) (a0 : Nat) (i1 : Int32) (i3 : Int32) (i4 : Int32) (i5 : Int32) : Option Int32 := (if i5 = 0 then k_5 a0 i1 (i3 - (0 : Int32)) (i4 + (1 : Int32)) else k_5 a0 i1 (i3 - (1 : Int32)) (i4 + (1 : Int32)))
theorem jt_118_50 (w : cm_W) (k_5 : Nat → Int32 → Int32 → Int32 → Option Int32) (hk_5 : ∀ (a0 : Nat) (i1 : Int32) (i3 : Int32) (i4 : Int32), sm cm_g 118 ck_118 kq_118 5 [(0, .ref a0), (1, .int i1), (3, .int i3), (4, .int i4)] [] w ((k_5 a0 i1 i3 i4).map (cm_fI w))) (a0 : Nat) (i1 : Int32) (i3 : Int32) (i4 : Int32) (i5 : Int32) : sm cm_g 118 ck_118 kq_118 50 [(0, .ref a0), (1, .int i1), (3, .int i3), (4, .int i4), (5, .int i5)] [] w ((fn_118_50 w k_5 a0 i1 i3 i4 i5).map (cm_fI w)) := by
  unfold fn_118_50
  refine sm_seg 2 53 [(0, .ref a0), (1, .int i1), (3, .int i3), (4, .int i4), (5, .int i5)] [.int i5, .int i3] rfl ?_
  refine sm_if (pc1 := 60) (lv1 := [(0, .ref a0), (1, .int i1), (4, .int i4)]) (pc2 := 56) (lv2 := [(0, .ref a0), (1, .int i1), (3, .int i3), (4, .int i4), (5, .int i5)]) (st1 := [.int i3]) rfl rfl rfl (fun h1 => ?_) (fun h1 => ?_)
  · refine sm_seg 5 5 [(0, .ref a0), (1, .int i1), (3, .int (i3 - (0 : Int32))), (4, .int (i4 + (1 : Int32)))] [] rfl ?_
    exact hk_5 a0 i1 (i3 - (0 : Int32)) (i4 + (1 : Int32))
  · refine sm_seg 6 5 [(0, .ref a0), (1, .int i1), (3, .int (i3 - (1 : Int32))), (4, .int (i4 + (1 : Int32)))] [] rfl ?_
    exact hk_5 a0 i1 (i3 - (1 : Int32)) (i4 + (1 : Int32))
def fn_118_35 (w : cm_W) (k_5 : Nat → Int32 → Int32 → Int32 → Option Int32) (a0 : Nat) (i1 : Int32) (i3 : Int32) (i4 : Int32) : Option Int32 := fn_118_50 w k_5 a0 i1 i3 i4 (0 : Int32)
theorem jt_118_35 (w : cm_W) (k_5 : Nat → Int32 → Int32 → Int32 → Option Int32) (hk_5 : ∀ (a0 : Nat) (i1 : Int32) (i3 : Int32) (i4 : Int32), sm cm_g 118 ck_118 kq_118 5 [(0, .ref a0), (1, .int i1), (3, .int i3), (4, .int i4)] [] w ((k_5 a0 i1 i3 i4).map (cm_fI w))) (a0 : Nat) (i1 : Int32) (i3 : Int32) (i4 : Int32) : sm cm_g 118 ck_118 kq_118 35 [(0, .ref a0), (1, .int i1), (3, .int i3), (4, .int i4)] [] w ((fn_118_35 w k_5 a0 i1 i3 i4).map (cm_fI w)) := by
  unfold fn_118_35
  refine sm_seg 3 40 [(5, .int (0 : Int32)), (0, .ref a0), (1, .int i1), (3, .int i3), (4, .int i4)] [.int (0 : Int32)] rfl ?_
  refine sm_ift (c := (0 : Int32) = 0) (pc1 := 50) (pc2 := 43) (lv1 := [(0, .ref a0), (1, .int i1), (3, .int i3), (4, .int i4), (5, .int (0 : Int32))]) (st1 := []) rfl (by decide) rfl ?_
  exact jt_118_50 w k_5 hk_5 a0 i1 i3 i4 (0 : Int32)
def fn_118_5 (w : cm_W) : Nat → Nat → Int32 → Int32 → Int32 → Option Int32
  | 0, _, _, _, _ => none
  | n + 1, a0, i1, i3, i4 => (if cm_sh w a0 = some (.inl 6) then (cm_R w a0 1).bind fun r3 => (if cm_sh w r3 = some (.inl 7) then (if (cm_I w r3 2) ≤ i4 then some (-1 : Int32) else (cm_R w a0 1).bind fun r7 => (if cm_sh w r7 = some (.inl 7) then (fn_1 w r7 i4 (5 : Int32)).bind fun v10 => (if ¬ v10 = i1 then fn_118_35 w (fn_118_5 w n) a0 i1 i3 i4 else (if ¬ i3 = 0 then fn_118_50 w (fn_118_5 w n) a0 i1 i3 i4 (1 : Int32) else some i4)) else none)) else none) else none)
theorem jt_118_5 (w : cm_W) : ∀ (n : Nat) (a0 : Nat) (i1 : Int32) (i3 : Int32) (i4 : Int32), sm cm_g 118 ck_118 kq_118 5 [(0, .ref a0), (1, .int i1), (3, .int i3), (4, .int i4)] [] w ((fn_118_5 w n a0 i1 i3 i4).map (cm_fI w)) := by
  intro n
  induction n with
  | zero => intro a0 i1 i3 i4; exact sm_no
  | succ n ih =>
    intro a0 i1 i3 i4
    rw [fn_118_5]
    refine sm_seg 2 8 [(0, .ref a0), (1, .int i1), (3, .int i3), (4, .int i4)] [.ref a0, .int i4] rfl ?_
    refine sm_gd fun h2 => ?_
    refine sm_gR rfl h2 rfl rfl fun r3 h4 => ?_
    show sm _ _ _ _ 11 [(0, .ref a0), (1, .int i1), (3, .int i3), (4, .int i4)] [.ref r3, .int i4] _ _
    refine sm_gd fun h5 => ?_
    refine sm_gI rfl h5 rfl ?_
    show sm _ _ _ _ 14 [(0, .ref a0), (1, .int i1), (3, .int i3), (4, .int i4)] [.int (cm_I w r3 2), .int i4] _ _
    refine sm_if (pc1 := 69) (lv1 := []) (pc2 := 17) (lv2 := [(0, .ref a0), (1, .int i1), (3, .int i3), (4, .int i4)]) (st1 := []) rfl rfl rfl (fun h6 => ?_) (fun h6 => ?_)
    · refine sm_seg 1 70 [] [.int (-1 : Int32)] rfl ?_
      exact sm_rI rfl rfl
    · refine sm_seg 1 18 [(0, .ref a0), (1, .int i1), (3, .int i3), (4, .int i4)] [.ref a0] rfl ?_
      refine sm_gR rfl h2 rfl rfl fun r7 h8 => ?_
      show sm _ _ _ _ 21 [(0, .ref a0), (1, .int i1), (3, .int i3), (4, .int i4)] [.ref r7] _ _
      refine sm_seg 2 24 [(0, .ref a0), (1, .int i1), (3, .int i3), (4, .int i4)] [.int (5 : Int32), .int i4, .ref r7] rfl ?_
      refine sm_gd fun h9 => ?_
      refine sm_cV (as := [.int i4, .int (5 : Int32)]) (rest := []) rfl rfl rfl rfl h9 (Nat.le_of_ble_eq_true rfl) (ca_1 w r7 i4 (5 : Int32)) fun v10 h11 => ?_
      show sm _ _ _ _ 27 [(0, .ref a0), (1, .int i1), (3, .int i3), (4, .int i4)] [.int v10] _ _
      refine sm_seg 1 28 [(0, .ref a0), (1, .int i1), (3, .int i3), (4, .int i4)] [.int i1, .int v10] rfl ?_
      refine sm_if (pc1 := 35) (lv1 := [(0, .ref a0), (1, .int i1), (3, .int i3), (4, .int i4)]) (pc2 := 31) (lv2 := [(0, .ref a0), (1, .int i1), (3, .int i3), (4, .int i4)]) (st1 := []) rfl rfl rfl (fun h12 => ?_) (fun h12 => ?_)
      · exact jt_118_35 w (fn_118_5 w n) ih a0 i1 i3 i4
      · refine sm_seg 4 40 [(5, .int (1 : Int32)), (0, .ref a0), (1, .int i1), (3, .int i3), (4, .int i4)] [.int (1 : Int32)] rfl ?_
        refine sm_iff (c := (1 : Int32) = 0) (pc1 := 50) (pc2 := 43) (lv1 := [(5, .int (1 : Int32)), (0, .ref a0), (1, .int i1), (3, .int i3), (4, .int i4)]) (st1 := []) rfl (by decide) rfl ?_
        refine sm_seg 1 44 [(5, .int (1 : Int32)), (0, .ref a0), (1, .int i1), (3, .int i3), (4, .int i4)] [.int i3] rfl ?_
        refine sm_if (pc1 := 50) (lv1 := [(0, .ref a0), (1, .int i1), (3, .int i3), (4, .int i4), (5, .int (1 : Int32))]) (pc2 := 47) (lv2 := [(5, .int (1 : Int32)), (0, .ref a0), (1, .int i1), (3, .int i3), (4, .int i4)]) (st1 := []) rfl rfl rfl (fun h13 => ?_) (fun h13 => ?_)
        · exact jt_118_50 w (fn_118_5 w n) ih a0 i1 i3 i4 (1 : Int32)
        · refine sm_seg 1 49 [(5, .int (1 : Int32)), (0, .ref a0), (1, .int i1), (3, .int i3), (4, .int i4)] [.int i4] rfl ?_
          exact sm_rI rfl rfl
def fn_118 (w : cm_W) (a0 : Nat) (i1 : Int32) (i2 : Int32) : Option Int32 := fn_118_5 w cm_N a0 i1 i2 (0 : Int32)
theorem jt_118_0 (w : cm_W) (a0 : Nat) (i1 : Int32) (i2 : Int32) : sm cm_g 118 ck_118 kq_118 0 [(0, .ref a0), (1, .int i1), (2, .int i2)] [] w ((fn_118 w a0 i1 i2).map (cm_fI w)) := by
  unfold fn_118
  refine sm_seg 4 5 [(0, .ref a0), (1, .int i1), (3, .int i2), (4, .int (0 : Int32))] [] rfl ?_
  exact jt_118_5 w cm_N a0 i1 i2 (0 : Int32)
theorem ca_118 (w : cm_W) (a0 : Nat) (i1 : Int32) (i2 : Int32) : cm_ca cm_g 118 [.ref a0, .int i1, .int i2] w ((fn_118 w a0 i1 i2).map (cm_fI w)) := cm_ca_of (cm_me_of rfl rfl) rfl (jt_118_0 w a0 i1 i2)
-- NailedBoxes$State.soldOf(I)I
def fn_119_4 (w : cm_W) : Nat → Nat → Int32 → Int32 → Int32 → Option Int32
  | 0, _, _, _, _ => none
  | n + 1, a0, i1, i2, i3 => (if cm_sh w a0 = some (.inl 6) then (cm_R w a0 0).bind fun r2 => (if cm_sh w r2 = some (.inl 7) then (if (cm_I w r2 2) ≤ i3 then some i2 else (cm_R w a0 0).bind fun r6 => (if cm_sh w r6 = some (.inl 7) then (fn_1 w r6 i3 (0 : Int32)).bind fun v9 => (if ¬ v9 = i1 then fn_119_4 w n a0 i1 (i2 + (0 : Int32)) (i3 + (1 : Int32)) else (fn_28 w a0 i3).bind fun v12 => (if v12 ≤ 0 then fn_119_4 w n a0 i1 (i2 + (0 : Int32)) (i3 + (1 : Int32)) else fn_119_4 w n a0 i1 (i2 + (1 : Int32)) (i3 + (1 : Int32)))) else none)) else none) else none)
theorem jt_119_4 (w : cm_W) : ∀ (n : Nat) (a0 : Nat) (i1 : Int32) (i2 : Int32) (i3 : Int32), sm cm_g 119 ck_119 kq_119 4 [(0, .ref a0), (1, .int i1), (2, .int i2), (3, .int i3)] [] w ((fn_119_4 w n a0 i1 i2 i3).map (cm_fI w)) := by
  intro n
  induction n with
  | zero => intro a0 i1 i2 i3; exact sm_no
  | succ n ih =>
    intro a0 i1 i2 i3
    rw [fn_119_4]
    refine sm_seg 2 6 [(0, .ref a0), (1, .int i1), (2, .int i2), (3, .int i3)] [.ref a0, .int i3] rfl ?_
    refine sm_gd fun h1 => ?_
    refine sm_gR rfl h1 rfl rfl fun r2 h3 => ?_
    show sm _ _ _ _ 9 [(0, .ref a0), (1, .int i1), (2, .int i2), (3, .int i3)] [.ref r2, .int i3] _ _
    refine sm_gd fun h4 => ?_
    refine sm_gI rfl h4 rfl ?_
    show sm _ _ _ _ 12 [(0, .ref a0), (1, .int i1), (2, .int i2), (3, .int i3)] [.int (cm_I w r2 2), .int i3] _ _
    refine sm_if (pc1 := 50) (lv1 := [(2, .int i2)]) (pc2 := 15) (lv2 := [(0, .ref a0), (1, .int i1), (2, .int i2), (3, .int i3)]) (st1 := []) rfl rfl rfl (fun h5 => ?_) (fun h5 => ?_)
    · refine sm_seg 1 51 [(2, .int i2)] [.int i2] rfl ?_
      exact sm_rI rfl rfl
    · refine sm_seg 2 17 [(0, .ref a0), (1, .int i1), (2, .int i2), (3, .int i3)] [.ref a0, .int i2] rfl ?_
      refine sm_gR rfl h1 rfl rfl fun r6 h7 => ?_
      show sm _ _ _ _ 20 [(0, .ref a0), (1, .int i1), (2, .int i2), (3, .int i3)] [.ref r6, .int i2] _ _
      refine sm_seg 2 22 [(0, .ref a0), (1, .int i1), (2, .int i2), (3, .int i3)] [.int (0 : Int32), .int i3, .ref r6, .int i2] rfl ?_
      refine sm_gd fun h8 => ?_
      refine sm_cV (as := [.int i3, .int (0 : Int32)]) (rest := [.int i2]) rfl rfl rfl rfl h8 (Nat.le_of_ble_eq_true rfl) (ca_1 w r6 i3 (0 : Int32)) fun v9 h10 => ?_
      show sm _ _ _ _ 25 [(0, .ref a0), (1, .int i1), (2, .int i2), (3, .int i3)] [.int v9, .int i2] _ _
      refine sm_seg 1 26 [(0, .ref a0), (1, .int i1), (2, .int i2), (3, .int i3)] [.int i1, .int v9, .int i2] rfl ?_
      refine sm_if (pc1 := 41) (lv1 := [(0, .ref a0), (1, .int i1), (3, .int i3)]) (pc2 := 29) (lv2 := [(0, .ref a0), (1, .int i1), (2, .int i2), (3, .int i3)]) (st1 := [.int i2]) rfl rfl rfl (fun h11 => ?_) (fun h11 => ?_)
      · refine sm_seg 5 4 [(0, .ref a0), (1, .int i1), (2, .int (i2 + (0 : Int32))), (3, .int (i3 + (1 : Int32)))] [] rfl ?_
        exact ih a0 i1 (i2 + (0 : Int32)) (i3 + (1 : Int32))
      · refine sm_seg 2 31 [(0, .ref a0), (1, .int i1), (2, .int i2), (3, .int i3)] [.int i3, .ref a0, .int i2] rfl ?_
        refine sm_cV (as := [.int i3]) (rest := [.int i2]) rfl rfl rfl rfl h1 (Nat.le_of_ble_eq_true rfl) (ca_28 w a0 i3) fun v12 h13 => ?_
        show sm _ _ _ _ 34 [(0, .ref a0), (1, .int i1), (2, .int i2), (3, .int i3)] [.int v12, .int i2] _ _
        refine sm_if (pc1 := 41) (lv1 := [(0, .ref a0), (1, .int i1), (3, .int i3)]) (pc2 := 37) (lv2 := [(0, .ref a0), (1, .int i1), (2, .int i2), (3, .int i3)]) (st1 := [.int i2]) rfl rfl rfl (fun h14 => ?_) (fun h14 => ?_)
        · refine sm_seg 5 4 [(0, .ref a0), (1, .int i1), (2, .int (i2 + (0 : Int32))), (3, .int (i3 + (1 : Int32)))] [] rfl ?_
          exact ih a0 i1 (i2 + (0 : Int32)) (i3 + (1 : Int32))
        · refine sm_seg 6 4 [(0, .ref a0), (1, .int i1), (2, .int (i2 + (1 : Int32))), (3, .int (i3 + (1 : Int32)))] [] rfl ?_
          exact ih a0 i1 (i2 + (1 : Int32)) (i3 + (1 : Int32))
def fn_119 (w : cm_W) (a0 : Nat) (i1 : Int32) : Option Int32 := fn_119_4 w cm_N a0 i1 (0 : Int32) (0 : Int32)
theorem jt_119_0 (w : cm_W) (a0 : Nat) (i1 : Int32) : sm cm_g 119 ck_119 kq_119 0 [(0, .ref a0), (1, .int i1)] [] w ((fn_119 w a0 i1).map (cm_fI w)) := by
  unfold fn_119
  refine sm_seg 4 4 [(0, .ref a0), (1, .int i1), (2, .int (0 : Int32)), (3, .int (0 : Int32))] [] rfl ?_
  exact jt_119_4 w cm_N a0 i1 (0 : Int32) (0 : Int32)
theorem ca_119 (w : cm_W) (a0 : Nat) (i1 : Int32) : cm_ca cm_g 119 [.ref a0, .int i1] w ((fn_119 w a0 i1).map (cm_fI w)) := cm_ca_of (cm_me_of rfl rfl) rfl (jt_119_0 w a0 i1)
-- NailedBoxes$State.sayingsBy(IZ)I
def fn_120_97 (w : cm_W) (k_5 : Nat → Int32 → Int32 → Int32 → Int32 → Option Int32) (a0 : Nat) (i1 : Int32) (i2 : Int32) (i3 : Int32) (i4 : Int32) : Option Int32 := k_5 a0 i1 i2 i3 (i4 + (1 : Int32))
theorem jt_120_97 (w : cm_W) (k_5 : Nat → Int32 → Int32 → Int32 → Int32 → Option Int32) (hk_5 : ∀ (a0 : Nat) (i1 : Int32) (i2 : Int32) (i3 : Int32) (i4 : Int32), sm cm_g 120 ck_120 kq_120 5 [(0, .ref a0), (1, .int i1), (2, .int i2), (3, .int i3), (4, .int i4)] [] w ((k_5 a0 i1 i2 i3 i4).map (cm_fI w))) (a0 : Nat) (i1 : Int32) (i2 : Int32) (i3 : Int32) (i4 : Int32) : sm cm_g 120 ck_120 kq_120 97 [(0, .ref a0), (1, .int i1), (2, .int i2), (3, .int i3), (4, .int i4)] [] w ((fn_120_97 w k_5 a0 i1 i2 i3 i4).map (cm_fI w)) := by
  unfold fn_120_97
  refine sm_seg 2 5 [(0, .ref a0), (1, .int i1), (2, .int i2), (3, .int i3), (4, .int (i4 + (1 : Int32)))] [] rfl ?_
  exact hk_5 a0 i1 i2 i3 (i4 + (1 : Int32))
def fn_120_5 (w : cm_W) : Nat → Nat → Int32 → Int32 → Int32 → Int32 → Option Int32
  | 0, _, _, _, _, _ => none
  | n + 1, a0, i1, i2, i3, i4 => (if cm_sh w a0 = some (.inl 6) then (cm_R w a0 1).bind fun r2 => (if cm_sh w r2 = some (.inl 7) then (if (cm_I w r2 2) ≤ i4 then some i3 else (cm_R w a0 1).bind fun r6 => (if cm_sh w r6 = some (.inl 7) then (fn_1 w r6 i4 (0 : Int32)).bind fun v9 => (if ¬ v9 = (1 : Int32) then fn_120_97 w (fn_120_5 w n) a0 i1 i2 i3 i4 else (cm_R w a0 1).bind fun r12 => (if cm_sh w r12 = some (.inl 7) then (fn_1 w r12 i4 (1 : Int32)).bind fun v15 => (if ¬ v15 = i1 then fn_120_97 w (fn_120_5 w n) a0 i1 i2 i3 i4 else (cm_R w a0 0).bind fun r18 => (cm_R w a0 1).bind fun r20 => (if cm_sh w r20 = some (.inl 7) then (fn_1 w r20 i4 (5 : Int32)).bind fun v23 => (if cm_sh w r18 = some (.inl 7) then (fn_1 w r18 v23 (1 : Int32)).bind fun v26 => (cm_R w a0 1).bind fun r28 => (if cm_sh w r28 = some (.inl 7) then (fn_1 w r28 i4 (3 : Int32)).bind fun v31 => (if ¬ v31 = v26 then (if ¬ (0 : Int32) = i2 then fn_120_97 w (fn_120_5 w n) a0 i1 i2 (i3 + (0 : Int32)) i4 else fn_120_97 w (fn_120_5 w n) a0 i1 i2 (i3 + (1 : Int32)) i4) else (if ¬ (1 : Int32) = i2 then fn_120_97 w (fn_120_5 w n) a0 i1 i2 (i3 + (0 : Int32)) i4 else fn_120_97 w (fn_120_5 w n) a0 i1 i2 (i3 + (1 : Int32)) i4)) else none) else none) else none)) else none)) else none)) else none) else none)
theorem jt_120_5 (w : cm_W) : ∀ (n : Nat) (a0 : Nat) (i1 : Int32) (i2 : Int32) (i3 : Int32) (i4 : Int32), sm cm_g 120 ck_120 kq_120 5 [(0, .ref a0), (1, .int i1), (2, .int i2), (3, .int i3), (4, .int i4)] [] w ((fn_120_5 w n a0 i1 i2 i3 i4).map (cm_fI w)) := by
  intro n
  induction n with
  | zero => intro a0 i1 i2 i3 i4; exact sm_no
  | succ n ih =>
    intro a0 i1 i2 i3 i4
    rw [fn_120_5]
    refine sm_seg 2 8 [(0, .ref a0), (1, .int i1), (2, .int i2), (3, .int i3), (4, .int i4)] [.ref a0, .int i4] rfl ?_
    refine sm_gd fun h1 => ?_
    refine sm_gR rfl h1 rfl rfl fun r2 h3 => ?_
    show sm _ _ _ _ 11 [(0, .ref a0), (1, .int i1), (2, .int i2), (3, .int i3), (4, .int i4)] [.ref r2, .int i4] _ _
    refine sm_gd fun h4 => ?_
    refine sm_gI rfl h4 rfl ?_
    show sm _ _ _ _ 14 [(0, .ref a0), (1, .int i1), (2, .int i2), (3, .int i3), (4, .int i4)] [.int (cm_I w r2 2), .int i4] _ _
    refine sm_if (pc1 := 103) (lv1 := [(3, .int i3)]) (pc2 := 17) (lv2 := [(0, .ref a0), (1, .int i1), (2, .int i2), (3, .int i3), (4, .int i4)]) (st1 := []) rfl rfl rfl (fun h5 => ?_) (fun h5 => ?_)
    · refine sm_seg 1 104 [(3, .int i3)] [.int i3] rfl ?_
      exact sm_rI rfl rfl
    · refine sm_seg 1 18 [(0, .ref a0), (1, .int i1), (2, .int i2), (3, .int i3), (4, .int i4)] [.ref a0] rfl ?_
      refine sm_gR rfl h1 rfl rfl fun r6 h7 => ?_
      show sm _ _ _ _ 21 [(0, .ref a0), (1, .int i1), (2, .int i2), (3, .int i3), (4, .int i4)] [.ref r6] _ _
      refine sm_seg 2 24 [(0, .ref a0), (1, .int i1), (2, .int i2), (3, .int i3), (4, .int i4)] [.int (0 : Int32), .int i4, .ref r6] rfl ?_
      refine sm_gd fun h8 => ?_
      refine sm_cV (as := [.int i4, .int (0 : Int32)]) (rest := []) rfl rfl rfl rfl h8 (Nat.le_of_ble_eq_true rfl) (ca_1 w r6 i4 (0 : Int32)) fun v9 h10 => ?_
      show sm _ _ _ _ 27 [(0, .ref a0), (1, .int i1), (2, .int i2), (3, .int i3), (4, .int i4)] [.int v9] _ _
      refine sm_seg 1 28 [(0, .ref a0), (1, .int i1), (2, .int i2), (3, .int i3), (4, .int i4)] [.int (1 : Int32), .int v9] rfl ?_
      refine sm_if (pc1 := 97) (lv1 := [(0, .ref a0), (1, .int i1), (2, .int i2), (3, .int i3), (4, .int i4)]) (pc2 := 31) (lv2 := [(0, .ref a0), (1, .int i1), (2, .int i2), (3, .int i3), (4, .int i4)]) (st1 := []) rfl rfl rfl (fun h11 => ?_) (fun h11 => ?_)
      · exact jt_120_97 w (fn_120_5 w n) ih a0 i1 i2 i3 i4
      · refine sm_seg 1 32 [(0, .ref a0), (1, .int i1), (2, .int i2), (3, .int i3), (4, .int i4)] [.ref a0] rfl ?_
        refine sm_gR rfl h1 rfl rfl fun r12 h13 => ?_
        show sm _ _ _ _ 35 [(0, .ref a0), (1, .int i1), (2, .int i2), (3, .int i3), (4, .int i4)] [.ref r12] _ _
        refine sm_seg 2 38 [(0, .ref a0), (1, .int i1), (2, .int i2), (3, .int i3), (4, .int i4)] [.int (1 : Int32), .int i4, .ref r12] rfl ?_
        refine sm_gd fun h14 => ?_
        refine sm_cV (as := [.int i4, .int (1 : Int32)]) (rest := []) rfl rfl rfl rfl h14 (Nat.le_of_ble_eq_true rfl) (ca_1 w r12 i4 (1 : Int32)) fun v15 h16 => ?_
        show sm _ _ _ _ 41 [(0, .ref a0), (1, .int i1), (2, .int i2), (3, .int i3), (4, .int i4)] [.int v15] _ _
        refine sm_seg 1 42 [(0, .ref a0), (1, .int i1), (2, .int i2), (3, .int i3), (4, .int i4)] [.int i1, .int v15] rfl ?_
        refine sm_if (pc1 := 97) (lv1 := [(0, .ref a0), (1, .int i1), (2, .int i2), (3, .int i3), (4, .int i4)]) (pc2 := 45) (lv2 := [(0, .ref a0), (1, .int i1), (2, .int i2), (3, .int i3), (4, .int i4)]) (st1 := []) rfl rfl rfl (fun h17 => ?_) (fun h17 => ?_)
        · exact jt_120_97 w (fn_120_5 w n) ih a0 i1 i2 i3 i4
        · refine sm_seg 1 46 [(0, .ref a0), (1, .int i1), (2, .int i2), (3, .int i3), (4, .int i4)] [.ref a0] rfl ?_
          refine sm_gR rfl h1 rfl rfl fun r18 h19 => ?_
          show sm _ _ _ _ 49 [(0, .ref a0), (1, .int i1), (2, .int i2), (3, .int i3), (4, .int i4)] [.ref r18] _ _
          refine sm_seg 1 50 [(0, .ref a0), (1, .int i1), (2, .int i2), (3, .int i3), (4, .int i4)] [.ref a0, .ref r18] rfl ?_
          refine sm_gR rfl h1 rfl rfl fun r20 h21 => ?_
          show sm _ _ _ _ 53 [(0, .ref a0), (1, .int i1), (2, .int i2), (3, .int i3), (4, .int i4)] [.ref r20, .ref r18] _ _
          refine sm_seg 2 56 [(0, .ref a0), (1, .int i1), (2, .int i2), (3, .int i3), (4, .int i4)] [.int (5 : Int32), .int i4, .ref r20, .ref r18] rfl ?_
          refine sm_gd fun h22 => ?_
          refine sm_cV (as := [.int i4, .int (5 : Int32)]) (rest := [.ref r18]) rfl rfl rfl rfl h22 (Nat.le_of_ble_eq_true rfl) (ca_1 w r20 i4 (5 : Int32)) fun v23 h24 => ?_
          show sm _ _ _ _ 59 [(0, .ref a0), (1, .int i1), (2, .int i2), (3, .int i3), (4, .int i4)] [.int v23, .ref r18] _ _
          refine sm_seg 1 60 [(0, .ref a0), (1, .int i1), (2, .int i2), (3, .int i3), (4, .int i4)] [.int (1 : Int32), .int v23, .ref r18] rfl ?_
          refine sm_gd fun h25 => ?_
          refine sm_cV (as := [.int v23, .int (1 : Int32)]) (rest := []) rfl rfl rfl rfl h25 (Nat.le_of_ble_eq_true rfl) (ca_1 w r18 v23 (1 : Int32)) fun v26 h27 => ?_
          show sm _ _ _ _ 63 [(0, .ref a0), (1, .int i1), (2, .int i2), (3, .int i3), (4, .int i4)] [.int v26] _ _
          refine sm_seg 3 67 [(5, .int v26), (0, .ref a0), (1, .int i1), (2, .int i2), (3, .int i3), (4, .int i4)] [.ref a0, .int i3] rfl ?_
          refine sm_gR rfl h1 rfl rfl fun r28 h29 => ?_
          show sm _ _ _ _ 70 [(5, .int v26), (0, .ref a0), (1, .int i1), (2, .int i2), (3, .int i3), (4, .int i4)] [.ref r28, .int i3] _ _
          refine sm_seg 2 73 [(5, .int v26), (0, .ref a0), (1, .int i1), (2, .int i2), (3, .int i3), (4, .int i4)] [.int (3 : Int32), .int i4, .ref r28, .int i3] rfl ?_
          refine sm_gd fun h30 => ?_
          refine sm_cV (as := [.int i4, .int (3 : Int32)]) (rest := [.int i3]) rfl rfl rfl rfl h30 (Nat.le_of_ble_eq_true rfl) (ca_1 w r28 i4 (3 : Int32)) fun v31 h32 => ?_
          show sm _ _ _ _ 76 [(5, .int v26), (0, .ref a0), (1, .int i1), (2, .int i2), (3, .int i3), (4, .int i4)] [.int v31, .int i3] _ _
          refine sm_seg 1 78 [(5, .int v26), (0, .ref a0), (1, .int i1), (2, .int i2), (3, .int i3), (4, .int i4)] [.int v26, .int v31, .int i3] rfl ?_
          refine sm_if (pc1 := 85) (lv1 := [(0, .ref a0), (1, .int i1), (2, .int i2), (4, .int i4)]) (pc2 := 81) (lv2 := [(5, .int v26), (0, .ref a0), (1, .int i1), (2, .int i2), (3, .int i3), (4, .int i4)]) (st1 := [.int i3]) rfl rfl rfl (fun h33 => ?_) (fun h33 => ?_)
          · refine sm_seg 2 87 [(0, .ref a0), (1, .int i1), (2, .int i2), (4, .int i4)] [.int i2, .int (0 : Int32), .int i3] rfl ?_
            refine sm_if (pc1 := 94) (lv1 := [(0, .ref a0), (1, .int i1), (2, .int i2), (4, .int i4)]) (pc2 := 90) (lv2 := [(0, .ref a0), (1, .int i1), (2, .int i2), (4, .int i4)]) (st1 := [.int i3]) rfl rfl rfl (fun h34 => ?_) (fun h34 => ?_)
            · refine sm_seg 3 97 [(0, .ref a0), (1, .int i1), (2, .int i2), (3, .int (i3 + (0 : Int32))), (4, .int i4)] [] rfl ?_
              exact jt_120_97 w (fn_120_5 w n) ih a0 i1 i2 (i3 + (0 : Int32)) i4
            · refine sm_seg 4 97 [(0, .ref a0), (1, .int i1), (2, .int i2), (3, .int (i3 + (1 : Int32))), (4, .int i4)] [] rfl ?_
              exact jt_120_97 w (fn_120_5 w n) ih a0 i1 i2 (i3 + (1 : Int32)) i4
          · refine sm_seg 3 87 [(0, .ref a0), (1, .int i1), (2, .int i2), (4, .int i4)] [.int i2, .int (1 : Int32), .int i3] rfl ?_
            refine sm_if (pc1 := 94) (lv1 := [(0, .ref a0), (1, .int i1), (2, .int i2), (4, .int i4)]) (pc2 := 90) (lv2 := [(0, .ref a0), (1, .int i1), (2, .int i2), (4, .int i4)]) (st1 := [.int i3]) rfl rfl rfl (fun h35 => ?_) (fun h35 => ?_)
            · refine sm_seg 3 97 [(0, .ref a0), (1, .int i1), (2, .int i2), (3, .int (i3 + (0 : Int32))), (4, .int i4)] [] rfl ?_
              exact jt_120_97 w (fn_120_5 w n) ih a0 i1 i2 (i3 + (0 : Int32)) i4
            · refine sm_seg 4 97 [(0, .ref a0), (1, .int i1), (2, .int i2), (3, .int (i3 + (1 : Int32))), (4, .int i4)] [] rfl ?_
              exact jt_120_97 w (fn_120_5 w n) ih a0 i1 i2 (i3 + (1 : Int32)) i4
def fn_120 (w : cm_W) (a0 : Nat) (i1 : Int32) (i2 : Int32) : Option Int32 := fn_120_5 w cm_N a0 i1 i2 (0 : Int32) (0 : Int32)
theorem jt_120_0 (w : cm_W) (a0 : Nat) (i1 : Int32) (i2 : Int32) : sm cm_g 120 ck_120 kq_120 0 [(0, .ref a0), (1, .int i1), (2, .int i2)] [] w ((fn_120 w a0 i1 i2).map (cm_fI w)) := by
  unfold fn_120
  refine sm_seg 4 5 [(0, .ref a0), (1, .int i1), (2, .int i2), (3, .int (0 : Int32)), (4, .int (0 : Int32))] [] rfl ?_
  exact jt_120_5 w cm_N a0 i1 i2 (0 : Int32) (0 : Int32)
theorem ca_120 (w : cm_W) (a0 : Nat) (i1 : Int32) (i2 : Int32) : cm_ca cm_g 120 [.ref a0, .int i1, .int i2] w ((fn_120 w a0 i1 i2).map (cm_fI w)) := cm_ca_of (cm_me_of rfl rfl) rfl (jt_120_0 w a0 i1 i2)
-- NailedBoxes$State.soldAndBack()I
def fn_121_44 (w : cm_W) (k_4 : Nat → Int32 → Int32 → Option Int32) (a0 : Nat) (i1 : Int32) (i2 : Int32) : Option Int32 := k_4 a0 (i1 + (0 : Int32)) (i2 + (1 : Int32))
theorem jt_121_44 (w : cm_W) (k_4 : Nat → Int32 → Int32 → Option Int32) (hk_4 : ∀ (a0 : Nat) (i1 : Int32) (i2 : Int32), sm cm_g 121 ck_121 kq_121 4 [(0, .ref a0), (1, .int i1), (2, .int i2)] [] w ((k_4 a0 i1 i2).map (cm_fI w))) (a0 : Nat) (i1 : Int32) (i2 : Int32) : sm cm_g 121 ck_121 kq_121 44 [(0, .ref a0), (1, .int i1), (2, .int i2)] [] w ((fn_121_44 w k_4 a0 i1 i2).map (cm_fI w)) := by
  unfold fn_121_44
  refine sm_seg 4 48 [(3, .int (0 : Int32)), (0, .ref a0), (1, .int i1), (2, .int i2)] [.int (0 : Int32), .int i1] rfl ?_
  refine sm_ift (c := (0 : Int32) = 0) (pc1 := 55) (pc2 := 51) (lv1 := [(0, .ref a0), (2, .int i2)]) (st1 := [.int i1]) rfl (by decide) rfl ?_
  refine sm_seg 5 4 [(0, .ref a0), (1, .int (i1 + (0 : Int32))), (2, .int (i2 + (1 : Int32)))] [] rfl ?_
  exact hk_4 a0 (i1 + (0 : Int32)) (i2 + (1 : Int32))
def fn_121_4 (w : cm_W) : Nat → Nat → Int32 → Int32 → Option Int32
  | 0, _, _, _ => none
  | n + 1, a0, i1, i2 => (if cm_sh w a0 = some (.inl 6) then (cm_R w a0 0).bind fun r2 => (if cm_sh w r2 = some (.inl 7) then (if (cm_I w r2 2) ≤ i2 then some i1 else (fn_17 w a0 i2).bind fun v6 => (cm_R w a0 0).bind fun r8 => (if cm_sh w r8 = some (.inl 7) then (fn_1 w r8 i2 (0 : Int32)).bind fun v11 => (if ¬ v6 = v11 then fn_121_44 w (fn_121_4 w n) a0 i1 i2 else (fn_28 w a0 i2).bind fun v14 => (if v14 ≤ 0 then fn_121_44 w (fn_121_4 w n) a0 i1 i2 else fn_121_4 w n a0 (i1 + (1 : Int32)) (i2 + (1 : Int32)))) else none)) else none) else none)
theorem jt_121_4 (w : cm_W) : ∀ (n : Nat) (a0 : Nat) (i1 : Int32) (i2 : Int32), sm cm_g 121 ck_121 kq_121 4 [(0, .ref a0), (1, .int i1), (2, .int i2)] [] w ((fn_121_4 w n a0 i1 i2).map (cm_fI w)) := by
  intro n
  induction n with
  | zero => intro a0 i1 i2; exact sm_no
  | succ n ih =>
    intro a0 i1 i2
    rw [fn_121_4]
    refine sm_seg 2 6 [(0, .ref a0), (1, .int i1), (2, .int i2)] [.ref a0, .int i2] rfl ?_
    refine sm_gd fun h1 => ?_
    refine sm_gR rfl h1 rfl rfl fun r2 h3 => ?_
    show sm _ _ _ _ 9 [(0, .ref a0), (1, .int i1), (2, .int i2)] [.ref r2, .int i2] _ _
    refine sm_gd fun h4 => ?_
    refine sm_gI rfl h4 rfl ?_
    show sm _ _ _ _ 12 [(0, .ref a0), (1, .int i1), (2, .int i2)] [.int (cm_I w r2 2), .int i2] _ _
    refine sm_if (pc1 := 64) (lv1 := [(1, .int i1)]) (pc2 := 15) (lv2 := [(0, .ref a0), (1, .int i1), (2, .int i2)]) (st1 := []) rfl rfl rfl (fun h5 => ?_) (fun h5 => ?_)
    · refine sm_seg 1 65 [(1, .int i1)] [.int i1] rfl ?_
      exact sm_rI rfl rfl
    · refine sm_seg 2 17 [(0, .ref a0), (1, .int i1), (2, .int i2)] [.int i2, .ref a0] rfl ?_
      refine sm_cV (as := [.int i2]) (rest := []) rfl rfl rfl rfl h1 (Nat.le_of_ble_eq_true rfl) (ca_17 w a0 i2) fun v6 h7 => ?_
      show sm _ _ _ _ 20 [(0, .ref a0), (1, .int i1), (2, .int i2)] [.int v6] _ _
      refine sm_seg 1 21 [(0, .ref a0), (1, .int i1), (2, .int i2)] [.ref a0, .int v6] rfl ?_
      refine sm_gR rfl h1 rfl rfl fun r8 h9 => ?_
      show sm _ _ _ _ 24 [(0, .ref a0), (1, .int i1), (2, .int i2)] [.ref r8, .int v6] _ _
      refine sm_seg 2 26 [(0, .ref a0), (1, .int i1), (2, .int i2)] [.int (0 : Int32), .int i2, .ref r8, .int v6] rfl ?_
      refine sm_gd fun h10 => ?_
      refine sm_cV (as := [.int i2, .int (0 : Int32)]) (rest := [.int v6]) rfl rfl rfl rfl h10 (Nat.le_of_ble_eq_true rfl) (ca_1 w r8 i2 (0 : Int32)) fun v11 h12 => ?_
      show sm _ _ _ _ 29 [(0, .ref a0), (1, .int i1), (2, .int i2)] [.int v11, .int v6] _ _
      refine sm_if (pc1 := 44) (lv1 := [(0, .ref a0), (1, .int i1), (2, .int i2)]) (pc2 := 32) (lv2 := [(0, .ref a0), (1, .int i1), (2, .int i2)]) (st1 := []) rfl rfl rfl (fun h13 => ?_) (fun h13 => ?_)
      · exact jt_121_44 w (fn_121_4 w n) ih a0 i1 i2
      · refine sm_seg 2 34 [(0, .ref a0), (1, .int i1), (2, .int i2)] [.int i2, .ref a0] rfl ?_
        refine sm_cV (as := [.int i2]) (rest := []) rfl rfl rfl rfl h1 (Nat.le_of_ble_eq_true rfl) (ca_28 w a0 i2) fun v14 h15 => ?_
        show sm _ _ _ _ 37 [(0, .ref a0), (1, .int i1), (2, .int i2)] [.int v14] _ _
        refine sm_if (pc1 := 44) (lv1 := [(0, .ref a0), (1, .int i1), (2, .int i2)]) (pc2 := 40) (lv2 := [(0, .ref a0), (1, .int i1), (2, .int i2)]) (st1 := []) rfl rfl rfl (fun h16 => ?_) (fun h16 => ?_)
        · exact jt_121_44 w (fn_121_4 w n) ih a0 i1 i2
        · refine sm_seg 5 48 [(3, .int (1 : Int32)), (0, .ref a0), (1, .int i1), (2, .int i2)] [.int (1 : Int32), .int i1] rfl ?_
          refine sm_iff (c := (1 : Int32) = 0) (pc1 := 55) (pc2 := 51) (lv1 := [(3, .int (1 : Int32)), (0, .ref a0), (1, .int i1), (2, .int i2)]) (st1 := [.int i1]) rfl (by decide) rfl ?_
          refine sm_seg 6 4 [(0, .ref a0), (1, .int (i1 + (1 : Int32))), (2, .int (i2 + (1 : Int32)))] [] rfl ?_
          exact ih a0 (i1 + (1 : Int32)) (i2 + (1 : Int32))
def fn_121 (w : cm_W) (a0 : Nat) : Option Int32 := fn_121_4 w cm_N a0 (0 : Int32) (0 : Int32)
theorem jt_121_0 (w : cm_W) (a0 : Nat) : sm cm_g 121 ck_121 kq_121 0 [(0, .ref a0)] [] w ((fn_121 w a0).map (cm_fI w)) := by
  unfold fn_121
  refine sm_seg 4 4 [(0, .ref a0), (1, .int (0 : Int32)), (2, .int (0 : Int32))] [] rfl ?_
  exact jt_121_4 w cm_N a0 (0 : Int32) (0 : Int32)
theorem ca_121 (w : cm_W) (a0 : Nat) : cm_ca cm_g 121 [.ref a0] w ((fn_121 w a0).map (cm_fI w)) := cm_ca_of (cm_me_of rfl rfl) rfl (jt_121_0 w a0)
-- NailedBoxes$State.mostHands()I
def fn_122_4 (w : cm_W) : Nat → Nat → Int32 → Int32 → Option Int32
  | 0, _, _, _ => none
  | n + 1, a0, i1, i2 => (if cm_sh w a0 = some (.inl 6) then (cm_R w a0 0).bind fun r2 => (if cm_sh w r2 = some (.inl 7) then (if (cm_I w r2 2) ≤ i2 then some i1 else (fn_28 w a0 i2).bind fun v6 => fn_122_4 w n a0 (if i1 < v6 then v6 else i1) (i2 + (1 : Int32))) else none) else none)
theorem jt_122_4 (w : cm_W) : ∀ (n : Nat) (a0 : Nat) (i1 : Int32) (i2 : Int32), sm cm_g 122 ck_122 kq_122 4 [(0, .ref a0), (1, .int i1), (2, .int i2)] [] w ((fn_122_4 w n a0 i1 i2).map (cm_fI w)) := by
  intro n
  induction n with
  | zero => intro a0 i1 i2; exact sm_no
  | succ n ih =>
    intro a0 i1 i2
    rw [fn_122_4]
    refine sm_seg 2 6 [(0, .ref a0), (1, .int i1), (2, .int i2)] [.ref a0, .int i2] rfl ?_
    refine sm_gd fun h1 => ?_
    refine sm_gR rfl h1 rfl rfl fun r2 h3 => ?_
    show sm _ _ _ _ 9 [(0, .ref a0), (1, .int i1), (2, .int i2)] [.ref r2, .int i2] _ _
    refine sm_gd fun h4 => ?_
    refine sm_gI rfl h4 rfl ?_
    show sm _ _ _ _ 12 [(0, .ref a0), (1, .int i1), (2, .int i2)] [.int (cm_I w r2 2), .int i2] _ _
    refine sm_if (pc1 := 31) (lv1 := [(1, .int i1)]) (pc2 := 15) (lv2 := [(0, .ref a0), (1, .int i1), (2, .int i2)]) (st1 := []) rfl rfl rfl (fun h5 => ?_) (fun h5 => ?_)
    · refine sm_seg 1 32 [(1, .int i1)] [.int i1] rfl ?_
      exact sm_rI rfl rfl
    · refine sm_seg 3 18 [(0, .ref a0), (1, .int i1), (2, .int i2)] [.int i2, .ref a0, .int i1] rfl ?_
      refine sm_cV (as := [.int i2]) (rest := [.int i1]) rfl rfl rfl rfl h1 (Nat.le_of_ble_eq_true rfl) (ca_28 w a0 i2) fun v6 h7 => ?_
      show sm _ _ _ _ 21 [(0, .ref a0), (1, .int i1), (2, .int i2)] [.int v6, .int i1] _ _
      refine sm_at rfl rfl rfl ?_
      show sm _ _ _ _ 24 [(0, .ref a0), (1, .int i1), (2, .int i2)] [.int (if i1 < v6 then v6 else i1)] _ _
      refine sm_seg 3 4 [(0, .ref a0), (1, .int (if i1 < v6 then v6 else i1)), (2, .int (i2 + (1 : Int32)))] [] rfl ?_
      exact ih a0 (if i1 < v6 then v6 else i1) (i2 + (1 : Int32))
def fn_122 (w : cm_W) (a0 : Nat) : Option Int32 := fn_122_4 w cm_N a0 (0 : Int32) (0 : Int32)
theorem jt_122_0 (w : cm_W) (a0 : Nat) : sm cm_g 122 ck_122 kq_122 0 [(0, .ref a0)] [] w ((fn_122 w a0).map (cm_fI w)) := by
  unfold fn_122
  refine sm_seg 4 4 [(0, .ref a0), (1, .int (0 : Int32)), (2, .int (0 : Int32))] [] rfl ?_
  exact jt_122_4 w cm_N a0 (0 : Int32) (0 : Int32)
theorem ca_122 (w : cm_W) (a0 : Nat) : cm_ca cm_g 122 [.ref a0] w ((fn_122 w a0).map (cm_fI w)) := cm_ca_of (cm_me_of rfl rfl) rfl (jt_122_0 w a0)
-- NailedBoxes$State.greatestPrice()I
def fn_123_53 (w : cm_W) (k_4 : Nat → Int32 → Int32 → Option Int32) (a0 : Nat) (i1 : Int32) (i2 : Int32) : Option Int32 := k_4 a0 i1 (i2 + (1 : Int32))
theorem jt_123_53 (w : cm_W) (k_4 : Nat → Int32 → Int32 → Option Int32) (hk_4 : ∀ (a0 : Nat) (i1 : Int32) (i2 : Int32), sm cm_g 123 ck_123 kq_123 4 [(0, .ref a0), (1, .int i1), (2, .int i2)] [] w ((k_4 a0 i1 i2).map (cm_fI w))) (a0 : Nat) (i1 : Int32) (i2 : Int32) : sm cm_g 123 ck_123 kq_123 53 [(0, .ref a0), (1, .int i1), (2, .int i2)] [] w ((fn_123_53 w k_4 a0 i1 i2).map (cm_fI w)) := by
  unfold fn_123_53
  refine sm_seg 4 4 [(0, .ref a0), (1, .int i1), (2, .int (i2 + (1 : Int32)))] [] rfl ?_
  exact hk_4 a0 i1 (i2 + (1 : Int32))
def fn_123_31 (w : cm_W) (k_4 : Nat → Int32 → Int32 → Option Int32) (a0 : Nat) (i1 : Int32) (i2 : Int32) : Option Int32 := fn_123_53 w k_4 a0 i1 i2
theorem jt_123_31 (w : cm_W) (k_4 : Nat → Int32 → Int32 → Option Int32) (hk_4 : ∀ (a0 : Nat) (i1 : Int32) (i2 : Int32), sm cm_g 123 ck_123 kq_123 4 [(0, .ref a0), (1, .int i1), (2, .int i2)] [] w ((k_4 a0 i1 i2).map (cm_fI w))) (a0 : Nat) (i1 : Int32) (i2 : Int32) : sm cm_g 123 ck_123 kq_123 31 [(0, .ref a0), (1, .int i1), (2, .int i2)] [] w ((fn_123_31 w k_4 a0 i1 i2).map (cm_fI w)) := by
  unfold fn_123_31
  refine sm_seg 3 34 [(3, .int (0 : Int32)), (0, .ref a0), (1, .int i1), (2, .int i2)] [.int (0 : Int32)] rfl ?_
  refine sm_ift (c := (0 : Int32) = 0) (pc1 := 53) (pc2 := 37) (lv1 := [(0, .ref a0), (1, .int i1), (2, .int i2)]) (st1 := []) rfl (by decide) rfl ?_
  exact jt_123_53 w k_4 hk_4 a0 i1 i2
def fn_123_4 (w : cm_W) : Nat → Nat → Int32 → Int32 → Option Int32
  | 0, _, _, _ => none
  | n + 1, a0, i1, i2 => (if cm_sh w a0 = some (.inl 6) then (cm_R w a0 1).bind fun r2 => (if cm_sh w r2 = some (.inl 7) then (if (cm_I w r2 2) ≤ i2 then some i1 else (cm_R w a0 1).bind fun r6 => (if cm_sh w r6 = some (.inl 7) then (fn_1 w r6 i2 (0 : Int32)).bind fun v9 => (if ¬ v9 = 0 then fn_123_31 w (fn_123_4 w n) a0 i1 i2 else (cm_R w a0 1).bind fun r12 => (if cm_sh w r12 = some (.inl 7) then (fn_1 w r12 i2 (3 : Int32)).bind fun v15 => fn_123_4 w n a0 (if i1 < v15 then v15 else i1) (i2 + (1 : Int32)) else none)) else none)) else none) else none)
theorem jt_123_4 (w : cm_W) : ∀ (n : Nat) (a0 : Nat) (i1 : Int32) (i2 : Int32), sm cm_g 123 ck_123 kq_123 4 [(0, .ref a0), (1, .int i1), (2, .int i2)] [] w ((fn_123_4 w n a0 i1 i2).map (cm_fI w)) := by
  intro n
  induction n with
  | zero => intro a0 i1 i2; exact sm_no
  | succ n ih =>
    intro a0 i1 i2
    rw [fn_123_4]
    refine sm_seg 2 6 [(0, .ref a0), (1, .int i1), (2, .int i2)] [.ref a0, .int i2] rfl ?_
    refine sm_gd fun h1 => ?_
    refine sm_gR rfl h1 rfl rfl fun r2 h3 => ?_
    show sm _ _ _ _ 9 [(0, .ref a0), (1, .int i1), (2, .int i2)] [.ref r2, .int i2] _ _
    refine sm_gd fun h4 => ?_
    refine sm_gI rfl h4 rfl ?_
    show sm _ _ _ _ 12 [(0, .ref a0), (1, .int i1), (2, .int i2)] [.int (cm_I w r2 2), .int i2] _ _
    refine sm_if (pc1 := 61) (lv1 := [(1, .int i1)]) (pc2 := 15) (lv2 := [(0, .ref a0), (1, .int i1), (2, .int i2)]) (st1 := []) rfl rfl rfl (fun h5 => ?_) (fun h5 => ?_)
    · refine sm_seg 1 62 [(1, .int i1)] [.int i1] rfl ?_
      exact sm_rI rfl rfl
    · refine sm_seg 1 16 [(0, .ref a0), (1, .int i1), (2, .int i2)] [.ref a0] rfl ?_
      refine sm_gR rfl h1 rfl rfl fun r6 h7 => ?_
      show sm _ _ _ _ 19 [(0, .ref a0), (1, .int i1), (2, .int i2)] [.ref r6] _ _
      refine sm_seg 2 21 [(0, .ref a0), (1, .int i1), (2, .int i2)] [.int (0 : Int32), .int i2, .ref r6] rfl ?_
      refine sm_gd fun h8 => ?_
      refine sm_cV (as := [.int i2, .int (0 : Int32)]) (rest := []) rfl rfl rfl rfl h8 (Nat.le_of_ble_eq_true rfl) (ca_1 w r6 i2 (0 : Int32)) fun v9 h10 => ?_
      show sm _ _ _ _ 24 [(0, .ref a0), (1, .int i1), (2, .int i2)] [.int v9] _ _
      refine sm_if (pc1 := 31) (lv1 := [(0, .ref a0), (1, .int i1), (2, .int i2)]) (pc2 := 27) (lv2 := [(0, .ref a0), (1, .int i1), (2, .int i2)]) (st1 := []) rfl rfl rfl (fun h11 => ?_) (fun h11 => ?_)
      · exact jt_123_31 w (fn_123_4 w n) ih a0 i1 i2
      · refine sm_seg 4 34 [(3, .int (1 : Int32)), (0, .ref a0), (1, .int i1), (2, .int i2)] [.int (1 : Int32)] rfl ?_
        refine sm_iff (c := (1 : Int32) = 0) (pc1 := 53) (pc2 := 37) (lv1 := [(3, .int (1 : Int32)), (0, .ref a0), (1, .int i1), (2, .int i2)]) (st1 := []) rfl (by decide) rfl ?_
        refine sm_seg 2 39 [(3, .int (1 : Int32)), (0, .ref a0), (1, .int i1), (2, .int i2)] [.ref a0, .int i1] rfl ?_
        refine sm_gR rfl h1 rfl rfl fun r12 h13 => ?_
        show sm _ _ _ _ 42 [(3, .int (1 : Int32)), (0, .ref a0), (1, .int i1), (2, .int i2)] [.ref r12, .int i1] _ _
        refine sm_seg 2 44 [(3, .int (1 : Int32)), (0, .ref a0), (1, .int i1), (2, .int i2)] [.int (3 : Int32), .int i2, .ref r12, .int i1] rfl ?_
        refine sm_gd fun h14 => ?_
        refine sm_cV (as := [.int i2, .int (3 : Int32)]) (rest := [.int i1]) rfl rfl rfl rfl h14 (Nat.le_of_ble_eq_true rfl) (ca_1 w r12 i2 (3 : Int32)) fun v15 h16 => ?_
        show sm _ _ _ _ 47 [(3, .int (1 : Int32)), (0, .ref a0), (1, .int i1), (2, .int i2)] [.int v15, .int i1] _ _
        refine sm_at rfl rfl rfl ?_
        show sm _ _ _ _ 50 [(3, .int (1 : Int32)), (0, .ref a0), (1, .int i1), (2, .int i2)] [.int (if i1 < v15 then v15 else i1)] _ _
        refine sm_seg 4 4 [(0, .ref a0), (1, .int (if i1 < v15 then v15 else i1)), (2, .int (i2 + (1 : Int32)))] [] rfl ?_
        exact ih a0 (if i1 < v15 then v15 else i1) (i2 + (1 : Int32))
def fn_123 (w : cm_W) (a0 : Nat) : Option Int32 := fn_123_4 w cm_N a0 (-1 : Int32) (0 : Int32)
theorem jt_123_0 (w : cm_W) (a0 : Nat) : sm cm_g 123 ck_123 kq_123 0 [(0, .ref a0)] [] w ((fn_123 w a0).map (cm_fI w)) := by
  unfold fn_123
  refine sm_seg 4 4 [(0, .ref a0), (1, .int (-1 : Int32)), (2, .int (0 : Int32))] [] rfl ?_
  exact jt_123_4 w cm_N a0 (-1 : Int32) (0 : Int32)
theorem ca_123 (w : cm_W) (a0 : Nat) : cm_ca cm_g 123 [.ref a0] w ((fn_123 w a0).map (cm_fI w)) := cm_ca_of (cm_me_of rfl rfl) rfl (jt_123_0 w a0)
-- java/util/Arrays.fill([II)V
def fn_125_5 : Nat → Nat → Int32 → Int32 → Int32 → cm_W → Option cm_W
  | 0, _, _, _, _, _ => none
  | n + 1, a0, i1, i2, i3, w => (if i3 ≤ i2 then some w else (if cm_ga w .int a0 i2 = true then (if cm_w2 43 46 a0 = true then fn_125_5 n a0 i1 (i2 + (1 : Int32)) i3 (cm_sI w a0 i2.toNatClampNeg i1) else none) else none))
theorem jt_125_5 : ∀ (n : Nat) (a0 : Nat) (i1 : Int32) (i2 : Int32) (i3 : Int32) (w : cm_W), sm cm_g 125 ck_125 kq_125 5 [(0, .ref a0), (1, .int i1), (2, .int i2), (3, .int i3)] [] w ((fn_125_5 n a0 i1 i2 i3 w).map cm_gV) := by
  intro n
  induction n with
  | zero => intro a0 i1 i2 i3 w; exact sm_no
  | succ n ih =>
    intro a0 i1 i2 i3 w
    rw [fn_125_5]
    refine sm_seg 2 7 [(0, .ref a0), (1, .int i1), (2, .int i2), (3, .int i3)] [.int i3, .int i2] rfl ?_
    refine sm_if (pc1 := 20) (lv1 := []) (pc2 := 10) (lv2 := [(0, .ref a0), (1, .int i1), (2, .int i2), (3, .int i3)]) (st1 := []) rfl rfl rfl (fun h1 => ?_) (fun h1 => ?_)
    · exact sm_rV rfl rfl
    · refine sm_seg 3 13 [(0, .ref a0), (1, .int i1), (2, .int i2), (3, .int i3)] [.int i1, .int i2, .ref a0] rfl ?_
      refine sm_gd fun h2 => ?_
      refine sm_gd fun h3 => ?_
      refine sm_si rfl h2 h3 rfl rfl ?_
      show sm _ _ _ _ 14 [(0, .ref a0), (1, .int i1), (2, .int i2), (3, .int i3)] [] _ _
      refine sm_seg 2 5 [(0, .ref a0), (1, .int i1), (2, .int (i2 + (1 : Int32))), (3, .int i3)] [] rfl ?_
      exact ih a0 i1 (i2 + (1 : Int32)) i3 (cm_sI w a0 i2.toNatClampNeg i1)
def fn_125 (a0 : Nat) (i1 : Int32) (w : cm_W) : Option cm_W := (cm_al w a0).bind fun n4 => fn_125_5  cm_N a0 i1 (0 : Int32) (Int32.ofNat n4) w
theorem jt_125_0 (a0 : Nat) (i1 : Int32) (w : cm_W) : sm cm_g 125 ck_125 kq_125 0 [(0, .ref a0), (1, .int i1)] [] w ((fn_125 a0 i1 w).map cm_gV) := by
  unfold fn_125
  refine sm_seg 3 3 [(2, .int (0 : Int32)), (0, .ref a0), (1, .int i1)] [.ref a0] rfl ?_
  refine sm_len rfl rfl fun n4 h5 => ?_
  show sm _ _ _ _ 4 [(2, .int (0 : Int32)), (0, .ref a0), (1, .int i1)] [.int (Int32.ofNat n4)] _ _
  refine sm_seg 1 5 [(0, .ref a0), (1, .int i1), (2, .int (0 : Int32)), (3, .int (Int32.ofNat n4))] [] rfl ?_
  exact jt_125_5  cm_N a0 i1 (0 : Int32) (Int32.ofNat n4) w
theorem ca_125 (a0 : Nat) (i1 : Int32) (w : cm_W) : cm_ca cm_g 125 [.ref a0, .int i1] w ((fn_125 a0 i1 w).map cm_gV) := cm_ca_of (cm_me_of rfl rfl) rfl (jt_125_0 a0 i1 w)
-- NailedBoxes$Thought.begin(LNailedBoxes$Village;I)V
def fn_126_21 : Nat → Nat → Nat → Int32 → Int32 → Int32 → cm_W → Option cm_W
  | 0, _, _, _, _, _, _ => none
  | n + 1, a0, a1, i2, i3, i4, w => (if (8 : Int32) ≤ i4 then some w else (if cm_sh w a0 = some (.inl 8) then (cm_R w a0 0).bind fun r3 => (if cm_sh w a1 = some (.inl 9) then (fn_8 w a1 i2 i4).bind fun v6 => (if ¬ (Int32.toInt64 i3) = 0 then (if cm_ga w .long r3 i4 = true then (if cm_w2 43 46 r3 = true then fn_126_21 n a0 a1 i2 i3 (i4 + (1 : Int32)) (cm_sL w r3 i4.toNatClampNeg (((100000000000000 : Int64) * (Int32.toInt64 v6)) / (Int32.toInt64 i3))) else none) else none) else none) else none) else none))
theorem jt_126_21 : ∀ (n : Nat) (a0 : Nat) (a1 : Nat) (i2 : Int32) (i3 : Int32) (i4 : Int32) (w : cm_W), sm cm_g 126 ck_126 kq_126 21 [(0, .ref a0), (1, .ref a1), (2, .int i2), (3, .int i3), (4, .int i4)] [] w ((fn_126_21 n a0 a1 i2 i3 i4 w).map cm_gV) := by
  intro n
  induction n with
  | zero => intro a0 a1 i2 i3 i4 w; exact sm_no
  | succ n ih =>
    intro a0 a1 i2 i3 i4 w
    rw [fn_126_21]
    refine sm_seg 2 25 [(0, .ref a0), (1, .ref a1), (2, .int i2), (3, .int i3), (4, .int i4)] [.int (8 : Int32), .int i4] rfl ?_
    refine sm_if (pc1 := 56) (lv1 := []) (pc2 := 28) (lv2 := [(0, .ref a0), (1, .ref a1), (2, .int i2), (3, .int i3), (4, .int i4)]) (st1 := []) rfl rfl rfl (fun h1 => ?_) (fun h1 => ?_)
    · exact sm_rV rfl rfl
    · refine sm_seg 1 29 [(0, .ref a0), (1, .ref a1), (2, .int i2), (3, .int i3), (4, .int i4)] [.ref a0] rfl ?_
      refine sm_gd fun h2 => ?_
      refine sm_gR rfl h2 rfl rfl fun r3 h4 => ?_
      show sm _ _ _ _ 32 [(0, .ref a0), (1, .ref a1), (2, .int i2), (3, .int i3), (4, .int i4)] [.ref r3] _ _
      refine sm_seg 5 41 [(0, .ref a0), (1, .ref a1), (2, .int i2), (3, .int i3), (4, .int i4)] [.int i4, .int i2, .ref a1, .long (100000000000000 : Int64), .int i4, .ref r3] rfl ?_
      refine sm_gd fun h5 => ?_
      refine sm_cV (as := [.int i2, .int i4]) (rest := [.long (100000000000000 : Int64), .int i4, .ref r3]) rfl rfl rfl rfl h5 (Nat.le_of_ble_eq_true rfl) (ca_8 w a1 i2 i4) fun v6 h7 => ?_
      show sm _ _ _ _ 44 [(0, .ref a0), (1, .ref a1), (2, .int i2), (3, .int i3), (4, .int i4)] [.int v6, .long (100000000000000 : Int64), .int i4, .ref r3] _ _
      refine sm_seg 4 48 [(0, .ref a0), (1, .ref a1), (2, .int i2), (3, .int i3), (4, .int i4)] [.long (Int32.toInt64 i3), .long ((100000000000000 : Int64) * (Int32.toInt64 v6)), .int i4, .ref r3] rfl ?_
      refine sm_gd fun h8 => ?_
      refine sm_ldiv rfl h8 rfl ?_
      show sm _ _ _ _ 49 [(0, .ref a0), (1, .ref a1), (2, .int i2), (3, .int i3), (4, .int i4)] [.long (((100000000000000 : Int64) * (Int32.toInt64 v6)) / (Int32.toInt64 i3)), .int i4, .ref r3] _ _
      refine sm_gd fun h9 => ?_
      refine sm_gd fun h10 => ?_
      refine sm_sl rfl h9 h10 rfl rfl ?_
      show sm _ _ _ _ 50 [(0, .ref a0), (1, .ref a1), (2, .int i2), (3, .int i3), (4, .int i4)] [] _ _
      refine sm_seg 2 21 [(0, .ref a0), (1, .ref a1), (2, .int i2), (3, .int i3), (4, .int (i4 + (1 : Int32)))] [] rfl ?_
      exact ih a0 a1 i2 i3 (i4 + (1 : Int32)) (cm_sL w r3 i4.toNatClampNeg (((100000000000000 : Int64) * (Int32.toInt64 v6)) / (Int32.toInt64 i3)))
def fn_126 (a0 : Nat) (a1 : Nat) (i2 : Int32) (w : cm_W) : Option cm_W := (if cm_sh w a0 = some (.inl 8) then (cm_R w a0 1).bind fun r12 => (fn_125 r12 (-1 : Int32) w).bind fun w14 => (if cm_sh w14 a1 = some (.inl 9) then (fn_10 w14 a1 i2).bind fun v17 => fn_126_21  cm_N a0 a1 i2 (if (1 : Int32) < v17 then v17 else (1 : Int32)) (0 : Int32) w14 else none) else none)
theorem jt_126_0 (a0 : Nat) (a1 : Nat) (i2 : Int32) (w : cm_W) : sm cm_g 126 ck_126 kq_126 0 [(0, .ref a0), (1, .ref a1), (2, .int i2)] [] w ((fn_126 a0 a1 i2 w).map cm_gV) := by
  unfold fn_126
  refine sm_seg 1 1 [(0, .ref a0), (1, .ref a1), (2, .int i2)] [.ref a0] rfl ?_
  refine sm_gd fun h11 => ?_
  refine sm_gR rfl h11 rfl rfl fun r12 h13 => ?_
  show sm _ _ _ _ 4 [(0, .ref a0), (1, .ref a1), (2, .int i2)] [.ref r12] _ _
  refine sm_seg 1 5 [(0, .ref a0), (1, .ref a1), (2, .int i2)] [.int (-1 : Int32), .ref r12] rfl ?_
  refine sm_cS (av := [.ref r12, .int (-1 : Int32)]) (rest := []) rfl rfl rfl rfl (Nat.le_of_ble_eq_true rfl) (ca_125  r12 (-1 : Int32) w) fun w14 h15 => ?_
  show sm _ _ _ _ 8 [(0, .ref a0), (1, .ref a1), (2, .int i2)] [] _ _
  refine sm_seg 3 11 [(0, .ref a0), (1, .ref a1), (2, .int i2)] [.int i2, .ref a1, .int (1 : Int32)] rfl ?_
  refine sm_gd fun h16 => ?_
  refine sm_cV (as := [.int i2]) (rest := [.int (1 : Int32)]) rfl rfl rfl rfl h16 (Nat.le_of_ble_eq_true rfl) (ca_10 w14 a1 i2) fun v17 h18 => ?_
  show sm _ _ _ _ 14 [(0, .ref a0), (1, .ref a1), (2, .int i2)] [.int v17, .int (1 : Int32)] _ _
  refine sm_at rfl rfl rfl ?_
  show sm _ _ _ _ 17 [(0, .ref a0), (1, .ref a1), (2, .int i2)] [.int (if (1 : Int32) < v17 then v17 else (1 : Int32))] _ _
  refine sm_seg 3 21 [(0, .ref a0), (1, .ref a1), (2, .int i2), (3, .int (if (1 : Int32) < v17 then v17 else (1 : Int32))), (4, .int (0 : Int32))] [] rfl ?_
  exact jt_126_21  cm_N a0 a1 i2 (if (1 : Int32) < v17 then v17 else (1 : Int32)) (0 : Int32) w14
theorem ca_126 (a0 : Nat) (a1 : Nat) (i2 : Int32) (w : cm_W) : cm_ca cm_g 126 [.ref a0, .ref a1, .int i2] w ((fn_126 a0 a1 i2 w).map cm_gV) := cm_ca_of (cm_me_of rfl rfl) rfl (jt_126_0 a0 a1 i2 w)
-- NailedBoxes$Thought.mannerOf(LNailedBoxes$Village;LNailedBoxes$Table;I)I
def fn_127 (w : cm_W) (a0 : Nat) (a1 : Nat) (i2 : Int32) : Option Int32 := (if cm_sh w a0 = some (.inl 9) then (cm_R w a0 3).bind fun r2 => (if cm_sh w a1 = some (.inl 7) then (fn_1 w a1 i2 (1 : Int32)).bind fun v5 => (if cm_sh w r2 = some (.inl 7) then (fn_1 w r2 v5 (0 : Int32)).bind fun v8 => some v8 else none) else none) else none)
theorem jt_127_0 (w : cm_W) (a0 : Nat) (a1 : Nat) (i2 : Int32) : sm cm_g 127 ck_127 kq_127 0 [(0, .ref a0), (1, .ref a1), (2, .int i2)] [] w ((fn_127 w a0 a1 i2).map (cm_fI w)) := by
  unfold fn_127
  refine sm_seg 1 1 [(0, .ref a0), (1, .ref a1), (2, .int i2)] [.ref a0] rfl ?_
  refine sm_gd fun h1 => ?_
  refine sm_gR rfl h1 rfl rfl fun r2 h3 => ?_
  show sm _ _ _ _ 4 [(0, .ref a0), (1, .ref a1), (2, .int i2)] [.ref r2] _ _
  refine sm_seg 3 7 [(0, .ref a0), (1, .ref a1), (2, .int i2)] [.int (1 : Int32), .int i2, .ref a1, .ref r2] rfl ?_
  refine sm_gd fun h4 => ?_
  refine sm_cV (as := [.int i2, .int (1 : Int32)]) (rest := [.ref r2]) rfl rfl rfl rfl h4 (Nat.le_of_ble_eq_true rfl) (ca_1 w a1 i2 (1 : Int32)) fun v5 h6 => ?_
  show sm _ _ _ _ 10 [(0, .ref a0), (1, .ref a1), (2, .int i2)] [.int v5, .ref r2] _ _
  refine sm_seg 1 11 [(0, .ref a0), (1, .ref a1), (2, .int i2)] [.int (0 : Int32), .int v5, .ref r2] rfl ?_
  refine sm_gd fun h7 => ?_
  refine sm_cV (as := [.int v5, .int (0 : Int32)]) (rest := []) rfl rfl rfl rfl h7 (Nat.le_of_ble_eq_true rfl) (ca_1 w r2 v5 (0 : Int32)) fun v8 h9 => ?_
  show sm _ _ _ _ 14 [(0, .ref a0), (1, .ref a1), (2, .int i2)] [.int v8] _ _
  exact sm_rI rfl rfl
theorem ca_127 (w : cm_W) (a0 : Nat) (a1 : Nat) (i2 : Int32) : cm_ca cm_g 127 [.ref a0, .ref a1, .int i2] w ((fn_127 w a0 a1 i2).map (cm_fI w)) := cm_ca_of (cm_me_of rfl rfl) rfl (jt_127_0 w a0 a1 i2)
-- NailedBoxes$Thought.saidTenths(IZ)I
def fn_128_47 (w : cm_W) (i1 : Int32) : Option Int32 := (if i1 = 0 then some (2 : Int32) else some (8 : Int32))
theorem jt_128_47 (w : cm_W) (i1 : Int32) : sm cm_g 128 ck_128 kq_128 47 [(1, .int i1)] [] w ((fn_128_47 w i1).map (cm_fI w)) := by
  unfold fn_128_47
  refine sm_seg 1 48 [(1, .int i1)] [.int i1] rfl ?_
  refine sm_if (pc1 := 56) (lv1 := []) (pc2 := 51) (lv2 := [(1, .int i1)]) (st1 := []) rfl rfl rfl (fun h1 => ?_) (fun h1 => ?_)
  · refine sm_seg 1 57 [] [.int (2 : Int32)] rfl ?_
    exact sm_rI rfl rfl
  · refine sm_seg 2 57 [] [.int (8 : Int32)] rfl ?_
    exact sm_rI rfl rfl
def fn_128_58 (w : cm_W) (i1 : Int32) : Option Int32 := (if i1 = 0 then some (0 : Int32) else some (10 : Int32))
theorem jt_128_58 (w : cm_W) (i1 : Int32) : sm cm_g 128 ck_128 kq_128 58 [(1, .int i1)] [] w ((fn_128_58 w i1).map (cm_fI w)) := by
  unfold fn_128_58
  refine sm_seg 1 59 [(1, .int i1)] [.int i1] rfl ?_
  refine sm_if (pc1 := 67) (lv1 := []) (pc2 := 62) (lv2 := [(1, .int i1)]) (st1 := []) rfl rfl rfl (fun h2 => ?_) (fun h2 => ?_)
  · refine sm_seg 1 68 [] [.int (0 : Int32)] rfl ?_
    exact sm_rI rfl rfl
  · refine sm_seg 2 68 [] [.int (10 : Int32)] rfl ?_
    exact sm_rI rfl rfl
def fn_128 (w : cm_W) (i0 : Int32) (i1 : Int32) : Option Int32 := (if i0 = (0 : Int32) then (if i1 = 0 then some (1 : Int32) else some (9 : Int32)) else (if i0 = (1 : Int32) then fn_128_47 w i1 else (if i0 = (5 : Int32) then fn_128_58 w i1 else some (10 : Int32))))
theorem jt_128_0 (w : cm_W) (i0 : Int32) (i1 : Int32) : sm cm_g 128 ck_128 kq_128 0 [(0, .int i0), (1, .int i1)] [] w ((fn_128 w i0 i1).map (cm_fI w)) := by
  unfold fn_128
  refine sm_seg 1 1 [(0, .int i0), (1, .int i1)] [.int i0] rfl ?_
  refine sm_br (fun h3 => ?_) (fun h3 => ?_)
  · refine sm_ls (off := (35)) (pc1 := 36) (lv1 := [(0, .int i0), (1, .int i1)]) rfl rfl (by rw [h3]; rfl) rfl rfl ?_
    refine sm_seg 1 37 [(0, .int i0), (1, .int i1)] [.int i1] rfl ?_
    refine sm_if (pc1 := 45) (lv1 := []) (pc2 := 40) (lv2 := [(0, .int i0), (1, .int i1)]) (st1 := []) rfl rfl rfl (fun h4 => ?_) (fun h4 => ?_)
    · refine sm_seg 1 46 [] [.int (1 : Int32)] rfl ?_
      exact sm_rI rfl rfl
    · refine sm_seg 2 46 [] [.int (9 : Int32)] rfl ?_
      exact sm_rI rfl rfl
  refine sm_br (fun h5 => ?_) (fun h5 => ?_)
  · refine sm_ls (off := (46)) (pc1 := 47) (lv1 := [(1, .int i1)]) rfl rfl (by rw [h5]; rfl) rfl rfl ?_
    exact jt_128_47 w i1
  refine sm_br (fun h6 => ?_) (fun h6 => ?_)
  · refine sm_ls (off := (57)) (pc1 := 58) (lv1 := [(1, .int i1)]) rfl rfl (by rw [h6]; rfl) rfl rfl ?_
    exact jt_128_58 w i1
  refine sm_ls (off := (68)) (pc1 := 69) (lv1 := []) rfl rfl (by show Op.lookupswitch.offset [(0, 35), (1, 46), (5, 57)] (68) _ = _; rw [lv_osw (a := 0) h3 rfl, lv_osw (a := 1) h5 rfl, lv_osw (a := 5) h6 rfl]; rfl) rfl rfl ?_
  refine sm_seg 1 71 [] [.int (10 : Int32)] rfl ?_
  exact sm_rI rfl rfl
theorem ca_128 (w : cm_W) (i0 : Int32) (i1 : Int32) : cm_ca cm_g 128 [.int i0, .int i1] w ((fn_128 w i0 i1).map (cm_fI w)) := cm_ca_of (cm_me_of rfl rfl) rfl (jt_128_0 w i0 i1)
-- NailedBoxes$Thought.asSaidTenths(II)I
def fn_129_31 (w : cm_W) (i2 : Int32) (i3 : Int32) : Option Int32 := (if ¬ i3 = i2 then some (2 : Int32) else some (8 : Int32))
theorem jt_129_31 (w : cm_W) (i2 : Int32) (i3 : Int32) : sm cm_g 129 ck_129 kq_129 31 [(2, .int i2), (3, .int i3)] [] w ((fn_129_31 w i2 i3).map (cm_fI w)) := by
  unfold fn_129_31
  refine sm_seg 2 33 [(2, .int i2), (3, .int i3)] [.int i2, .int i3] rfl ?_
  refine sm_if (pc1 := 41) (lv1 := []) (pc2 := 36) (lv2 := [(2, .int i2), (3, .int i3)]) (st1 := []) rfl rfl rfl (fun h1 => ?_) (fun h1 => ?_)
  · refine sm_seg 1 42 [] [.int (2 : Int32)] rfl ?_
    exact sm_rI rfl rfl
  · refine sm_seg 2 42 [] [.int (8 : Int32)] rfl ?_
    exact sm_rI rfl rfl
def fn_129_19 (w : cm_W) (i2 : Int32) : Option Int32 := some (10 : Int32)
theorem jt_129_19 (w : cm_W) (i2 : Int32) : sm cm_g 129 ck_129 kq_129 19 [(2, .int i2)] [] w ((fn_129_19 w i2).map (cm_fI w)) := by
  unfold fn_129_19
  refine sm_seg 4 23 [(3, .int (-1 : Int32)), (2, .int i2)] [.int (-1 : Int32), .int (-1 : Int32)] rfl ?_
  refine sm_iff (c := ¬ (-1 : Int32) = (-1 : Int32)) (pc1 := 31) (pc2 := 26) (lv1 := [(3, .int (-1 : Int32)), (2, .int i2)]) (st1 := []) rfl (by decide) rfl ?_
  refine sm_seg 2 42 [] [.int (10 : Int32)] rfl ?_
  exact sm_rI rfl rfl
def fn_129 (w : cm_W) (a0 : Nat) (i1 : Int32) (i2 : Int32) : Option Int32 := (if i1 < 0 then fn_129_19 w i2 else (if (12 : Int32) ≤ i1 then fn_129_19 w i2 else (if cm_sh w a0 = some (.inl 8) then (cm_R w a0 1).bind fun r5 => (if cm_ga w .int r5 i1 = true then (if ¬ (cm_I w r5 i1.toNatClampNeg) = (-1 : Int32) then fn_129_31 w i2 (cm_I w r5 i1.toNatClampNeg) else some (10 : Int32)) else none) else none)))
theorem jt_129_0 (w : cm_W) (a0 : Nat) (i1 : Int32) (i2 : Int32) : sm cm_g 129 ck_129 kq_129 0 [(0, .ref a0), (1, .int i1), (2, .int i2)] [] w ((fn_129 w a0 i1 i2).map (cm_fI w)) := by
  unfold fn_129
  refine sm_seg 1 1 [(0, .ref a0), (1, .int i1), (2, .int i2)] [.int i1] rfl ?_
  refine sm_if (pc1 := 19) (lv1 := [(2, .int i2)]) (pc2 := 4) (lv2 := [(0, .ref a0), (1, .int i1), (2, .int i2)]) (st1 := []) rfl rfl rfl (fun h2 => ?_) (fun h2 => ?_)
  · exact jt_129_19 w i2
  · refine sm_seg 2 7 [(0, .ref a0), (1, .int i1), (2, .int i2)] [.int (12 : Int32), .int i1] rfl ?_
    refine sm_if (pc1 := 19) (lv1 := [(2, .int i2)]) (pc2 := 10) (lv2 := [(0, .ref a0), (1, .int i1), (2, .int i2)]) (st1 := []) rfl rfl rfl (fun h3 => ?_) (fun h3 => ?_)
    · exact jt_129_19 w i2
    · refine sm_seg 1 11 [(0, .ref a0), (1, .int i1), (2, .int i2)] [.ref a0] rfl ?_
      refine sm_gd fun h4 => ?_
      refine sm_gR rfl h4 rfl rfl fun r5 h6 => ?_
      show sm _ _ _ _ 14 [(0, .ref a0), (1, .int i1), (2, .int i2)] [.ref r5] _ _
      refine sm_seg 1 15 [(0, .ref a0), (1, .int i1), (2, .int i2)] [.int i1, .ref r5] rfl ?_
      refine sm_gd fun h7 => ?_
      refine sm_ai rfl h7 rfl ?_
      show sm _ _ _ _ 16 [(0, .ref a0), (1, .int i1), (2, .int i2)] [.int (cm_I w r5 i1.toNatClampNeg)] _ _
      refine sm_seg 4 23 [(3, .int (cm_I w r5 i1.toNatClampNeg)), (2, .int i2)] [.int (-1 : Int32), .int (cm_I w r5 i1.toNatClampNeg)] rfl ?_
      refine sm_if (pc1 := 31) (lv1 := [(2, .int i2), (3, .int (cm_I w r5 i1.toNatClampNeg))]) (pc2 := 26) (lv2 := [(3, .int (cm_I w r5 i1.toNatClampNeg)), (2, .int i2)]) (st1 := []) rfl rfl rfl (fun h8 => ?_) (fun h8 => ?_)
      · exact jt_129_31 w i2 (cm_I w r5 i1.toNatClampNeg)
      · refine sm_seg 2 42 [] [.int (10 : Int32)] rfl ?_
        exact sm_rI rfl rfl
theorem ca_129 (w : cm_W) (a0 : Nat) (i1 : Int32) (i2 : Int32) : cm_ca cm_g 129 [.ref a0, .int i1, .int i2] w ((fn_129 w a0 i1 i2).map (cm_fI w)) := cm_ca_of (cm_me_of rfl rfl) rfl (jt_129_0 w a0 i1 i2)
-- NailedBoxes$Thought.soldTenths(LNailedBoxes$Village;LNailedBoxes$Table;II)I
def fn_130_68 (w : cm_W) (a1 : Nat) (i4 : Int32) (i5 : Int32) (i6 : Int32) : Option Int32 := (if cm_sh w a1 = some (.inl 9) then (fn_31 w a1 i4 i6).bind fun v2 => (if i5 < v2 then some (1 : Int32) else some (9 : Int32)) else none)
theorem jt_130_68 (w : cm_W) (a1 : Nat) (i4 : Int32) (i5 : Int32) (i6 : Int32) : sm cm_g 130 ck_130 kq_130 68 [(1, .ref a1), (4, .int i4), (5, .int i5), (6, .int i6)] [] w ((fn_130_68 w a1 i4 i5 i6).map (cm_fI w)) := by
  unfold fn_130_68
  refine sm_seg 3 73 [(1, .ref a1), (4, .int i4), (5, .int i5), (6, .int i6)] [.int i6, .int i4, .ref a1] rfl ?_
  refine sm_gd fun h1 => ?_
  refine sm_cV (as := [.int i4, .int i6]) (rest := []) rfl rfl rfl rfl h1 (Nat.le_of_ble_eq_true rfl) (ca_31 w a1 i4 i6) fun v2 h3 => ?_
  show sm _ _ _ _ 76 [(1, .ref a1), (4, .int i4), (5, .int i5), (6, .int i6)] [.int v2] _ _
  refine sm_seg 1 78 [(1, .ref a1), (4, .int i4), (5, .int i5), (6, .int i6)] [.int i5, .int v2] rfl ?_
  refine sm_if (pc1 := 86) (lv1 := []) (pc2 := 81) (lv2 := [(1, .ref a1), (4, .int i4), (5, .int i5), (6, .int i6)]) (st1 := []) rfl rfl rfl (fun h4 => ?_) (fun h4 => ?_)
  · refine sm_seg 1 87 [] [.int (1 : Int32)] rfl ?_
    exact sm_rI rfl rfl
  · refine sm_seg 2 87 [] [.int (9 : Int32)] rfl ?_
    exact sm_rI rfl rfl
def fn_130_88 (w : cm_W) (a0 : Nat) (a2 : Nat) (i3 : Int32) (i4 : Int32) : Option Int32 := (if cm_sh w a2 = some (.inl 7) then (fn_1 w a2 i3 (1 : Int32)).bind fun v6 => (if cm_sh w a0 = some (.inl 8) then (fn_129 w a0 v6 i4).bind fun v9 => some v9 else none) else none)
theorem jt_130_88 (w : cm_W) (a0 : Nat) (a2 : Nat) (i3 : Int32) (i4 : Int32) : sm cm_g 130 ck_130 kq_130 88 [(0, .ref a0), (2, .ref a2), (3, .int i3), (4, .int i4)] [] w ((fn_130_88 w a0 a2 i3 i4).map (cm_fI w)) := by
  unfold fn_130_88
  refine sm_seg 4 92 [(0, .ref a0), (2, .ref a2), (3, .int i3), (4, .int i4)] [.int (1 : Int32), .int i3, .ref a2, .ref a0] rfl ?_
  refine sm_gd fun h5 => ?_
  refine sm_cV (as := [.int i3, .int (1 : Int32)]) (rest := [.ref a0]) rfl rfl rfl rfl h5 (Nat.le_of_ble_eq_true rfl) (ca_1 w a2 i3 (1 : Int32)) fun v6 h7 => ?_
  show sm _ _ _ _ 95 [(0, .ref a0), (2, .ref a2), (3, .int i3), (4, .int i4)] [.int v6, .ref a0] _ _
  refine sm_seg 1 97 [(0, .ref a0), (2, .ref a2), (3, .int i3), (4, .int i4)] [.int i4, .int v6, .ref a0] rfl ?_
  refine sm_gd fun h8 => ?_
  refine sm_cV (as := [.int v6, .int i4]) (rest := []) rfl rfl rfl rfl h8 (Nat.le_of_ble_eq_true rfl) (ca_129 w a0 v6 i4) fun v9 h10 => ?_
  show sm _ _ _ _ 100 [(0, .ref a0), (2, .ref a2), (3, .int i3), (4, .int i4)] [.int v9] _ _
  exact sm_rI rfl rfl
def fn_130 (w : cm_W) (a0 : Nat) (a1 : Nat) (a2 : Nat) (i3 : Int32) (i4 : Int32) : Option Int32 := (if cm_sh w a2 = some (.inl 7) then (fn_1 w a2 i3 (3 : Int32)).bind fun v12 => (fn_1 w a2 i3 (4 : Int32)).bind fun v14 => (fn_127 w a1 a2 i3).bind fun v16 => (if v16 = (1 : Int32) then fn_130_88 w a0 a2 i3 i4 else (if v16 = (2 : Int32) then (if cm_sh w a1 = some (.inl 9) then (fn_6 w a1 i4 v14).bind fun v21 => (if v12 ≤ v21 then some (1 : Int32) else some (9 : Int32)) else none) else (if v16 = (3 : Int32) then fn_130_68 w a1 i4 v12 v14 else some (10 : Int32)))) else none)
theorem jt_130_0 (w : cm_W) (a0 : Nat) (a1 : Nat) (a2 : Nat) (i3 : Int32) (i4 : Int32) : sm cm_g 130 ck_130 kq_130 0 [(0, .ref a0), (1, .ref a1), (2, .ref a2), (3, .int i3), (4, .int i4)] [] w ((fn_130 w a0 a1 a2 i3 i4).map (cm_fI w)) := by
  unfold fn_130
  refine sm_seg 3 3 [(0, .ref a0), (1, .ref a1), (2, .ref a2), (3, .int i3), (4, .int i4)] [.int (3 : Int32), .int i3, .ref a2] rfl ?_
  refine sm_gd fun h11 => ?_
  refine sm_cV (as := [.int i3, .int (3 : Int32)]) (rest := []) rfl rfl rfl rfl h11 (Nat.le_of_ble_eq_true rfl) (ca_1 w a2 i3 (3 : Int32)) fun v12 h13 => ?_
  show sm _ _ _ _ 6 [(0, .ref a0), (1, .ref a1), (2, .ref a2), (3, .int i3), (4, .int i4)] [.int v12] _ _
  refine sm_seg 4 11 [(5, .int v12), (0, .ref a0), (1, .ref a1), (2, .ref a2), (3, .int i3), (4, .int i4)] [.int (4 : Int32), .int i3, .ref a2] rfl ?_
  refine sm_cV (as := [.int i3, .int (4 : Int32)]) (rest := []) rfl rfl rfl rfl h11 (Nat.le_of_ble_eq_true rfl) (ca_1 w a2 i3 (4 : Int32)) fun v14 h15 => ?_
  show sm _ _ _ _ 14 [(5, .int v12), (0, .ref a0), (1, .ref a1), (2, .ref a2), (3, .int i3), (4, .int i4)] [.int v14] _ _
  refine sm_seg 4 19 [(6, .int v14), (5, .int v12), (0, .ref a0), (1, .ref a1), (2, .ref a2), (3, .int i3), (4, .int i4)] [.int i3, .ref a2, .ref a1] rfl ?_
  refine sm_cS (av := [.ref a1, .ref a2, .int i3]) (rest := []) rfl rfl rfl rfl (Nat.le_of_ble_eq_true rfl) (ca_127 w a1 a2 i3) fun v16 h17 => ?_
  show sm _ _ _ _ 22 [(6, .int v14), (5, .int v12), (0, .ref a0), (1, .ref a1), (2, .ref a2), (3, .int i3), (4, .int i4)] [.int v16] _ _
  refine sm_br (fun h18 => ?_) (fun h18 => ?_)
  · refine sm_ts (off := (66)) (pc1 := 88) (lv1 := [(0, .ref a0), (2, .ref a2), (3, .int i3), (4, .int i4)]) rfl (by rw [h18]; rfl) rfl rfl ?_
    exact jt_130_88 w a0 a2 i3 i4
  refine sm_br (fun h19 => ?_) (fun h19 => ?_)
  · refine sm_ts (off := (26)) (pc1 := 48) (lv1 := [(6, .int v14), (5, .int v12), (0, .ref a0), (1, .ref a1), (2, .ref a2), (3, .int i3), (4, .int i4)]) rfl (by rw [h19]; rfl) rfl rfl ?_
    refine sm_seg 3 53 [(6, .int v14), (5, .int v12), (0, .ref a0), (1, .ref a1), (2, .ref a2), (3, .int i3), (4, .int i4)] [.int v14, .int i4, .ref a1] rfl ?_
    refine sm_gd fun h20 => ?_
    refine sm_cV (as := [.int i4, .int v14]) (rest := []) rfl rfl rfl rfl h20 (Nat.le_of_ble_eq_true rfl) (ca_6 w a1 i4 v14) fun v21 h22 => ?_
    show sm _ _ _ _ 56 [(6, .int v14), (5, .int v12), (0, .ref a0), (1, .ref a1), (2, .ref a2), (3, .int i3), (4, .int i4)] [.int v21] _ _
    refine sm_seg 1 58 [(6, .int v14), (5, .int v12), (0, .ref a0), (1, .ref a1), (2, .ref a2), (3, .int i3), (4, .int i4)] [.int v12, .int v21] rfl ?_
    refine sm_if (pc1 := 66) (lv1 := []) (pc2 := 61) (lv2 := [(6, .int v14), (5, .int v12), (0, .ref a0), (1, .ref a1), (2, .ref a2), (3, .int i3), (4, .int i4)]) (st1 := []) rfl rfl rfl (fun h23 => ?_) (fun h23 => ?_)
    · refine sm_seg 1 67 [] [.int (1 : Int32)] rfl ?_
      exact sm_rI rfl rfl
    · refine sm_seg 2 67 [] [.int (9 : Int32)] rfl ?_
      exact sm_rI rfl rfl
  refine sm_br (fun h24 => ?_) (fun h24 => ?_)
  · refine sm_ts (off := (46)) (pc1 := 68) (lv1 := [(1, .ref a1), (4, .int i4), (5, .int v12), (6, .int v14)]) rfl (by rw [h24]; rfl) rfl rfl ?_
    exact jt_130_68 w a1 i4 v12 v14
  refine sm_ts (off := (79)) (pc1 := 101) (lv1 := []) rfl (cm_tsd (n := 3) rfl rfl (fun j hj => match j, hj with | 0, _ => .inr (cm_ne h18 rfl) | 1, _ => .inr (cm_ne h19 rfl) | 2, _ => .inr (cm_ne h24 rfl) | _ + 3, h => absurd h (by omega))) rfl rfl ?_
  refine sm_seg 1 103 [] [.int (10 : Int32)] rfl ?_
  exact sm_rI rfl rfl
theorem ca_130 (w : cm_W) (a0 : Nat) (a1 : Nat) (a2 : Nat) (i3 : Int32) (i4 : Int32) : cm_ca cm_g 130 [.ref a0, .ref a1, .ref a2, .int i3, .int i4] w ((fn_130 w a0 a1 a2 i3 i4).map (cm_fI w)) := cm_ca_of (cm_me_of rfl rfl) rfl (jt_130_0 w a0 a1 a2 i3 i4)
-- NailedBoxes$Thought.tenthsOf(LNailedBoxes$Village;LNailedBoxes$Table;II)I
def fn_131_62 (w : cm_W) (a1 : Nat) : Option Int32 := (if cm_sh w a1 = some (.inl 9) then some ((10 : Int32) - (cm_I w a1 7)) else none)
theorem jt_131_62 (w : cm_W) (a1 : Nat) : sm cm_g 131 ck_131 kq_131 62 [(1, .ref a1)] [] w ((fn_131_62 w a1).map (cm_fI w)) := by
  unfold fn_131_62
  refine sm_seg 2 65 [(1, .ref a1)] [.ref a1, .int (10 : Int32)] rfl ?_
  refine sm_gd fun h1 => ?_
  refine sm_gI rfl h1 rfl ?_
  show sm _ _ _ _ 68 [(1, .ref a1)] [.int (cm_I w a1 7), .int (10 : Int32)] _ _
  refine sm_seg 1 69 [] [.int ((10 : Int32) - (cm_I w a1 7))] rfl ?_
  exact sm_rI rfl rfl
def fn_131_92 (w : cm_W) (a1 : Nat) : Option Int32 := (if cm_sh w a1 = some (.inl 9) then some ((10 : Int32) - (cm_I w a1 8)) else none)
theorem jt_131_92 (w : cm_W) (a1 : Nat) : sm cm_g 131 ck_131 kq_131 92 [(1, .ref a1)] [] w ((fn_131_92 w a1).map (cm_fI w)) := by
  unfold fn_131_92
  refine sm_seg 2 95 [(1, .ref a1)] [.ref a1, .int (10 : Int32)] rfl ?_
  refine sm_gd fun h2 => ?_
  refine sm_gI rfl h2 rfl ?_
  show sm _ _ _ _ 98 [(1, .ref a1)] [.int (cm_I w a1 8), .int (10 : Int32)] _ _
  refine sm_seg 1 99 [] [.int ((10 : Int32) - (cm_I w a1 8))] rfl ?_
  exact sm_rI rfl rfl
def fn_131_70 (w : cm_W) (a1 : Nat) (i4 : Int32) (i5 : Int32) : Option Int32 := (if cm_sh w a1 = some (.inl 9) then (cm_R w a1 1).bind fun r4 => (if cm_sh w r4 = some (.inl 7) then (fn_1 w r4 i4 (2 : Int32)).bind fun v7 => (if ¬ v7 = i5 then fn_131_92 w a1 else some (cm_I w a1 8)) else none) else none)
theorem jt_131_70 (w : cm_W) (a1 : Nat) (i4 : Int32) (i5 : Int32) : sm cm_g 131 ck_131 kq_131 70 [(1, .ref a1), (4, .int i4), (5, .int i5)] [] w ((fn_131_70 w a1 i4 i5).map (cm_fI w)) := by
  unfold fn_131_70
  refine sm_seg 1 71 [(1, .ref a1), (4, .int i4), (5, .int i5)] [.ref a1] rfl ?_
  refine sm_gd fun h3 => ?_
  refine sm_gR rfl h3 rfl rfl fun r4 h5 => ?_
  show sm _ _ _ _ 74 [(1, .ref a1), (4, .int i4), (5, .int i5)] [.ref r4] _ _
  refine sm_seg 2 77 [(1, .ref a1), (4, .int i4), (5, .int i5)] [.int (2 : Int32), .int i4, .ref r4] rfl ?_
  refine sm_gd fun h6 => ?_
  refine sm_cV (as := [.int i4, .int (2 : Int32)]) (rest := []) rfl rfl rfl rfl h6 (Nat.le_of_ble_eq_true rfl) (ca_1 w r4 i4 (2 : Int32)) fun v7 h8 => ?_
  show sm _ _ _ _ 80 [(1, .ref a1), (4, .int i4), (5, .int i5)] [.int v7] _ _
  refine sm_seg 1 82 [(1, .ref a1), (4, .int i4), (5, .int i5)] [.int i5, .int v7] rfl ?_
  refine sm_if (pc1 := 92) (lv1 := [(1, .ref a1)]) (pc2 := 85) (lv2 := [(1, .ref a1), (4, .int i4), (5, .int i5)]) (st1 := []) rfl rfl rfl (fun h9 => ?_) (fun h9 => ?_)
  · exact jt_131_92 w a1
  · refine sm_seg 1 86 [(1, .ref a1), (4, .int i4), (5, .int i5)] [.ref a1] rfl ?_
    refine sm_gI rfl h3 rfl ?_
    show sm _ _ _ _ 89 [(1, .ref a1), (4, .int i4), (5, .int i5)] [.int (cm_I w a1 8)] _ _
    refine sm_seg 1 99 [] [.int (cm_I w a1 8)] rfl ?_
    exact sm_rI rfl rfl
def fn_131_100 (w : cm_W) (a1 : Nat) (a2 : Nat) (i3 : Int32) (i4 : Int32) (i5 : Int32) : Option Int32 := (if cm_sh w a2 = some (.inl 7) then (fn_1 w a2 i3 (6 : Int32)).bind fun v11 => (if ¬ v11 = (1 : Int32) then some (10 : Int32) else (fn_127 w a1 a2 i3).bind fun v14 => (if ¬ i5 = i4 then (fn_128 w v14 (0 : Int32)).bind fun v17 => some v17 else (fn_128 w v14 (1 : Int32)).bind fun v19 => some v19)) else none)
theorem jt_131_100 (w : cm_W) (a1 : Nat) (a2 : Nat) (i3 : Int32) (i4 : Int32) (i5 : Int32) : sm cm_g 131 ck_131 kq_131 100 [(1, .ref a1), (2, .ref a2), (3, .int i3), (4, .int i4), (5, .int i5)] [] w ((fn_131_100 w a1 a2 i3 i4 i5).map (cm_fI w)) := by
  unfold fn_131_100
  refine sm_seg 3 104 [(1, .ref a1), (2, .ref a2), (3, .int i3), (4, .int i4), (5, .int i5)] [.int (6 : Int32), .int i3, .ref a2] rfl ?_
  refine sm_gd fun h10 => ?_
  refine sm_cV (as := [.int i3, .int (6 : Int32)]) (rest := []) rfl rfl rfl rfl h10 (Nat.le_of_ble_eq_true rfl) (ca_1 w a2 i3 (6 : Int32)) fun v11 h12 => ?_
  show sm _ _ _ _ 107 [(1, .ref a1), (2, .ref a2), (3, .int i3), (4, .int i4), (5, .int i5)] [.int v11] _ _
  refine sm_seg 1 108 [(1, .ref a1), (2, .ref a2), (3, .int i3), (4, .int i4), (5, .int i5)] [.int (1 : Int32), .int v11] rfl ?_
  refine sm_if (pc1 := 135) (lv1 := []) (pc2 := 111) (lv2 := [(1, .ref a1), (2, .ref a2), (3, .int i3), (4, .int i4), (5, .int i5)]) (st1 := []) rfl rfl rfl (fun h13 => ?_) (fun h13 => ?_)
  · refine sm_seg 1 137 [] [.int (10 : Int32)] rfl ?_
    exact sm_rI rfl rfl
  · refine sm_seg 3 114 [(1, .ref a1), (2, .ref a2), (3, .int i3), (4, .int i4), (5, .int i5)] [.int i3, .ref a2, .ref a1] rfl ?_
    refine sm_cS (av := [.ref a1, .ref a2, .int i3]) (rest := []) rfl rfl rfl rfl (Nat.le_of_ble_eq_true rfl) (ca_127 w a1 a2 i3) fun v14 h15 => ?_
    show sm _ _ _ _ 117 [(1, .ref a1), (2, .ref a2), (3, .int i3), (4, .int i4), (5, .int i5)] [.int v14] _ _
    refine sm_seg 2 121 [(1, .ref a1), (2, .ref a2), (3, .int i3), (4, .int i4), (5, .int i5)] [.int i4, .int i5, .int v14] rfl ?_
    refine sm_if (pc1 := 128) (lv1 := []) (pc2 := 124) (lv2 := [(1, .ref a1), (2, .ref a2), (3, .int i3), (4, .int i4), (5, .int i5)]) (st1 := [.int v14]) rfl rfl rfl (fun h16 => ?_) (fun h16 => ?_)
    · refine sm_seg 1 129 [] [.int (0 : Int32), .int v14] rfl ?_
      refine sm_cS (av := [.int v14, .int (0 : Int32)]) (rest := []) rfl rfl rfl rfl (Nat.le_of_ble_eq_true rfl) (ca_128 w v14 (0 : Int32)) fun v17 h18 => ?_
      show sm _ _ _ _ 132 [] [.int v17] _ _
      refine sm_seg 1 137 [] [.int v17] rfl ?_
      exact sm_rI rfl rfl
    · refine sm_seg 2 129 [] [.int (1 : Int32), .int v14] rfl ?_
      refine sm_cS (av := [.int v14, .int (1 : Int32)]) (rest := []) rfl rfl rfl rfl (Nat.le_of_ble_eq_true rfl) (ca_128 w v14 (1 : Int32)) fun v19 h20 => ?_
      show sm _ _ _ _ 132 [] [.int v19] _ _
      refine sm_seg 1 137 [] [.int v19] rfl ?_
      exact sm_rI rfl rfl
def fn_131_138 (w : cm_W) (a0 : Nat) (a1 : Nat) (a2 : Nat) (i3 : Int32) (i4 : Int32) : Option Int32 := (if cm_sh w a2 = some (.inl 7) then (fn_1 w a2 i3 (6 : Int32)).bind fun v22 => (if ¬ v22 = (1 : Int32) then some (10 : Int32) else (if cm_sh w a0 = some (.inl 8) then (fn_130 w a0 a1 a2 i3 i4).bind fun v26 => some v26 else none)) else none)
theorem jt_131_138 (w : cm_W) (a0 : Nat) (a1 : Nat) (a2 : Nat) (i3 : Int32) (i4 : Int32) : sm cm_g 131 ck_131 kq_131 138 [(0, .ref a0), (1, .ref a1), (2, .ref a2), (3, .int i3), (4, .int i4)] [] w ((fn_131_138 w a0 a1 a2 i3 i4).map (cm_fI w)) := by
  unfold fn_131_138
  refine sm_seg 3 142 [(0, .ref a0), (1, .ref a1), (2, .ref a2), (3, .int i3), (4, .int i4)] [.int (6 : Int32), .int i3, .ref a2] rfl ?_
  refine sm_gd fun h21 => ?_
  refine sm_cV (as := [.int i3, .int (6 : Int32)]) (rest := []) rfl rfl rfl rfl h21 (Nat.le_of_ble_eq_true rfl) (ca_1 w a2 i3 (6 : Int32)) fun v22 h23 => ?_
  show sm _ _ _ _ 145 [(0, .ref a0), (1, .ref a1), (2, .ref a2), (3, .int i3), (4, .int i4)] [.int v22] _ _
  refine sm_seg 1 146 [(0, .ref a0), (1, .ref a1), (2, .ref a2), (3, .int i3), (4, .int i4)] [.int (1 : Int32), .int v22] rfl ?_
  refine sm_if (pc1 := 161) (lv1 := []) (pc2 := 149) (lv2 := [(0, .ref a0), (1, .ref a1), (2, .ref a2), (3, .int i3), (4, .int i4)]) (st1 := []) rfl rfl rfl (fun h24 => ?_) (fun h24 => ?_)
  · refine sm_seg 1 163 [] [.int (10 : Int32)] rfl ?_
    exact sm_rI rfl rfl
  · refine sm_seg 5 155 [(0, .ref a0), (1, .ref a1), (2, .ref a2), (3, .int i3), (4, .int i4)] [.int i4, .int i3, .ref a2, .ref a1, .ref a0] rfl ?_
    refine sm_gd fun h25 => ?_
    refine sm_cV (as := [.ref a1, .ref a2, .int i3, .int i4]) (rest := []) rfl rfl rfl rfl h25 (Nat.le_of_ble_eq_true rfl) (ca_130 w a0 a1 a2 i3 i4) fun v26 h27 => ?_
    show sm _ _ _ _ 158 [(0, .ref a0), (1, .ref a1), (2, .ref a2), (3, .int i3), (4, .int i4)] [.int v26] _ _
    refine sm_seg 1 163 [] [.int v26] rfl ?_
    exact sm_rI rfl rfl
def fn_131 (w : cm_W) (a0 : Nat) (a1 : Nat) (a2 : Nat) (i3 : Int32) (i4 : Int32) : Option Int32 := (if cm_sh w a2 = some (.inl 7) then (fn_1 w a2 i3 (3 : Int32)).bind fun v29 => (fn_1 w a2 i3 (0 : Int32)).bind fun v31 => (if v31 = (1 : Int32) then fn_131_100 w a1 a2 i3 i4 v29 else (if v31 = (2 : Int32) then (if cm_sh w a1 = some (.inl 9) then (cm_R w a1 1).bind fun r36 => (if cm_sh w r36 = some (.inl 7) then (fn_1 w r36 i4 (1 : Int32)).bind fun v39 => (if ¬ v39 = v29 then fn_131_62 w a1 else some (cm_I w a1 7)) else none) else none) else (if v31 = (3 : Int32) then fn_131_70 w a1 i4 v29 else fn_131_138 w a0 a1 a2 i3 i4))) else none)
theorem jt_131_0 (w : cm_W) (a0 : Nat) (a1 : Nat) (a2 : Nat) (i3 : Int32) (i4 : Int32) : sm cm_g 131 ck_131 kq_131 0 [(0, .ref a0), (1, .ref a1), (2, .ref a2), (3, .int i3), (4, .int i4)] [] w ((fn_131 w a0 a1 a2 i3 i4).map (cm_fI w)) := by
  unfold fn_131
  refine sm_seg 3 3 [(0, .ref a0), (1, .ref a1), (2, .ref a2), (3, .int i3), (4, .int i4)] [.int (3 : Int32), .int i3, .ref a2] rfl ?_
  refine sm_gd fun h28 => ?_
  refine sm_cV (as := [.int i3, .int (3 : Int32)]) (rest := []) rfl rfl rfl rfl h28 (Nat.le_of_ble_eq_true rfl) (ca_1 w a2 i3 (3 : Int32)) fun v29 h30 => ?_
  show sm _ _ _ _ 6 [(0, .ref a0), (1, .ref a1), (2, .ref a2), (3, .int i3), (4, .int i4)] [.int v29] _ _
  refine sm_seg 4 11 [(5, .int v29), (0, .ref a0), (1, .ref a1), (2, .ref a2), (3, .int i3), (4, .int i4)] [.int (0 : Int32), .int i3, .ref a2] rfl ?_
  refine sm_cV (as := [.int i3, .int (0 : Int32)]) (rest := []) rfl rfl rfl rfl h28 (Nat.le_of_ble_eq_true rfl) (ca_1 w a2 i3 (0 : Int32)) fun v31 h32 => ?_
  show sm _ _ _ _ 14 [(5, .int v29), (0, .ref a0), (1, .ref a1), (2, .ref a2), (3, .int i3), (4, .int i4)] [.int v31] _ _
  refine sm_br (fun h33 => ?_) (fun h33 => ?_)
  · refine sm_ts (off := (86)) (pc1 := 100) (lv1 := [(1, .ref a1), (2, .ref a2), (3, .int i3), (4, .int i4), (5, .int v29)]) rfl (by rw [h33]; rfl) rfl rfl ?_
    exact jt_131_100 w a1 a2 i3 i4 v29
  refine sm_br (fun h34 => ?_) (fun h34 => ?_)
  · refine sm_ts (off := (26)) (pc1 := 40) (lv1 := [(5, .int v29), (0, .ref a0), (1, .ref a1), (2, .ref a2), (3, .int i3), (4, .int i4)]) rfl (by rw [h34]; rfl) rfl rfl ?_
    refine sm_seg 1 41 [(5, .int v29), (0, .ref a0), (1, .ref a1), (2, .ref a2), (3, .int i3), (4, .int i4)] [.ref a1] rfl ?_
    refine sm_gd fun h35 => ?_
    refine sm_gR rfl h35 rfl rfl fun r36 h37 => ?_
    show sm _ _ _ _ 44 [(5, .int v29), (0, .ref a0), (1, .ref a1), (2, .ref a2), (3, .int i3), (4, .int i4)] [.ref r36] _ _
    refine sm_seg 2 47 [(5, .int v29), (0, .ref a0), (1, .ref a1), (2, .ref a2), (3, .int i3), (4, .int i4)] [.int (1 : Int32), .int i4, .ref r36] rfl ?_
    refine sm_gd fun h38 => ?_
    refine sm_cV (as := [.int i4, .int (1 : Int32)]) (rest := []) rfl rfl rfl rfl h38 (Nat.le_of_ble_eq_true rfl) (ca_1 w r36 i4 (1 : Int32)) fun v39 h40 => ?_
    show sm _ _ _ _ 50 [(5, .int v29), (0, .ref a0), (1, .ref a1), (2, .ref a2), (3, .int i3), (4, .int i4)] [.int v39] _ _
    refine sm_seg 1 52 [(5, .int v29), (0, .ref a0), (1, .ref a1), (2, .ref a2), (3, .int i3), (4, .int i4)] [.int v29, .int v39] rfl ?_
    refine sm_if (pc1 := 62) (lv1 := [(1, .ref a1)]) (pc2 := 55) (lv2 := [(5, .int v29), (0, .ref a0), (1, .ref a1), (2, .ref a2), (3, .int i3), (4, .int i4)]) (st1 := []) rfl rfl rfl (fun h41 => ?_) (fun h41 => ?_)
    · exact jt_131_62 w a1
    · refine sm_seg 1 56 [(5, .int v29), (0, .ref a0), (1, .ref a1), (2, .ref a2), (3, .int i3), (4, .int i4)] [.ref a1] rfl ?_
      refine sm_gI rfl h35 rfl ?_
      show sm _ _ _ _ 59 [(5, .int v29), (0, .ref a0), (1, .ref a1), (2, .ref a2), (3, .int i3), (4, .int i4)] [.int (cm_I w a1 7)] _ _
      refine sm_seg 1 69 [] [.int (cm_I w a1 7)] rfl ?_
      exact sm_rI rfl rfl
  refine sm_br (fun h42 => ?_) (fun h42 => ?_)
  · refine sm_ts (off := (56)) (pc1 := 70) (lv1 := [(1, .ref a1), (4, .int i4), (5, .int v29)]) rfl (by rw [h42]; rfl) rfl rfl ?_
    exact jt_131_70 w a1 i4 v29
  refine sm_ts (off := (124)) (pc1 := 138) (lv1 := [(0, .ref a0), (1, .ref a1), (2, .ref a2), (3, .int i3), (4, .int i4)]) rfl (cm_tsd (n := 3) rfl rfl (fun j hj => match j, hj with | 0, _ => .inr (cm_ne h33 rfl) | 1, _ => .inr (cm_ne h34 rfl) | 2, _ => .inr (cm_ne h42 rfl) | _ + 3, h => absurd h (by omega))) rfl rfl ?_
  exact jt_131_138 w a0 a1 a2 i3 i4
theorem ca_131 (w : cm_W) (a0 : Nat) (a1 : Nat) (a2 : Nat) (i3 : Int32) (i4 : Int32) : cm_ca cm_g 131 [.ref a0, .ref a1, .ref a2, .int i3, .int i4] w ((fn_131 w a0 a1 a2 i3 i4).map (cm_fI w)) := cm_ca_of (cm_me_of rfl rfl) rfl (jt_131_0 w a0 a1 a2 i3 i4)
-- NailedBoxes$Thought.noteSaying(LNailedBoxes$Table;I)V
def fn_132 (a0 : Nat) (a1 : Nat) (i2 : Int32) (w : cm_W) : Option cm_W := (if cm_sh w a1 = some (.inl 7) then (fn_1 w a1 i2 (1 : Int32)).bind fun v2 => (fn_1 w a1 i2 (0 : Int32)).bind fun v4 => (if ¬ v4 = (1 : Int32) then some w else (if v2 < 0 then some w else (if (12 : Int32) ≤ v2 then some w else (if cm_sh w a0 = some (.inl 8) then (cm_R w a0 1).bind fun r10 => (fn_1 w a1 i2 (3 : Int32)).bind fun v12 => (if cm_ga w .int r10 v2 = true then (if cm_w2 43 46 r10 = true then some (cm_sI w r10 v2.toNatClampNeg v12) else none) else none) else none)))) else none)
theorem jt_132_0 (a0 : Nat) (a1 : Nat) (i2 : Int32) (w : cm_W) : sm cm_g 132 ck_132 kq_132 0 [(0, .ref a0), (1, .ref a1), (2, .int i2)] [] w ((fn_132 a0 a1 i2 w).map cm_gV) := by
  unfold fn_132
  refine sm_seg 3 3 [(0, .ref a0), (1, .ref a1), (2, .int i2)] [.int (1 : Int32), .int i2, .ref a1] rfl ?_
  refine sm_gd fun h1 => ?_
  refine sm_cV (as := [.int i2, .int (1 : Int32)]) (rest := []) rfl rfl rfl rfl h1 (Nat.le_of_ble_eq_true rfl) (ca_1 w a1 i2 (1 : Int32)) fun v2 h3 => ?_
  show sm _ _ _ _ 6 [(0, .ref a0), (1, .ref a1), (2, .int i2)] [.int v2] _ _
  refine sm_seg 4 10 [(3, .int v2), (0, .ref a0), (1, .ref a1), (2, .int i2)] [.int (0 : Int32), .int i2, .ref a1] rfl ?_
  refine sm_cV (as := [.int i2, .int (0 : Int32)]) (rest := []) rfl rfl rfl rfl h1 (Nat.le_of_ble_eq_true rfl) (ca_1 w a1 i2 (0 : Int32)) fun v4 h5 => ?_
  show sm _ _ _ _ 13 [(3, .int v2), (0, .ref a0), (1, .ref a1), (2, .int i2)] [.int v4] _ _
  refine sm_seg 1 14 [(3, .int v2), (0, .ref a0), (1, .ref a1), (2, .int i2)] [.int (1 : Int32), .int v4] rfl ?_
  refine sm_if (pc1 := 39) (lv1 := []) (pc2 := 17) (lv2 := [(3, .int v2), (0, .ref a0), (1, .ref a1), (2, .int i2)]) (st1 := []) rfl rfl rfl (fun h6 => ?_) (fun h6 => ?_)
  · exact sm_rV rfl rfl
  · refine sm_seg 1 18 [(3, .int v2), (0, .ref a0), (1, .ref a1), (2, .int i2)] [.int v2] rfl ?_
    refine sm_if (pc1 := 39) (lv1 := []) (pc2 := 21) (lv2 := [(3, .int v2), (0, .ref a0), (1, .ref a1), (2, .int i2)]) (st1 := []) rfl rfl rfl (fun h7 => ?_) (fun h7 => ?_)
    · exact sm_rV rfl rfl
    · refine sm_seg 2 24 [(3, .int v2), (0, .ref a0), (1, .ref a1), (2, .int i2)] [.int (12 : Int32), .int v2] rfl ?_
      refine sm_if (pc1 := 39) (lv1 := []) (pc2 := 27) (lv2 := [(3, .int v2), (0, .ref a0), (1, .ref a1), (2, .int i2)]) (st1 := []) rfl rfl rfl (fun h8 => ?_) (fun h8 => ?_)
      · exact sm_rV rfl rfl
      · refine sm_seg 1 28 [(3, .int v2), (0, .ref a0), (1, .ref a1), (2, .int i2)] [.ref a0] rfl ?_
        refine sm_gd fun h9 => ?_
        refine sm_gR rfl h9 rfl rfl fun r10 h11 => ?_
        show sm _ _ _ _ 31 [(3, .int v2), (0, .ref a0), (1, .ref a1), (2, .int i2)] [.ref r10] _ _
        refine sm_seg 4 35 [(3, .int v2), (0, .ref a0), (1, .ref a1), (2, .int i2)] [.int (3 : Int32), .int i2, .ref a1, .int v2, .ref r10] rfl ?_
        refine sm_cV (as := [.int i2, .int (3 : Int32)]) (rest := [.int v2, .ref r10]) rfl rfl rfl rfl h1 (Nat.le_of_ble_eq_true rfl) (ca_1 w a1 i2 (3 : Int32)) fun v12 h13 => ?_
        show sm _ _ _ _ 38 [(3, .int v2), (0, .ref a0), (1, .ref a1), (2, .int i2)] [.int v12, .int v2, .ref r10] _ _
        refine sm_gd fun h14 => ?_
        refine sm_gd fun h15 => ?_
        refine sm_si rfl h14 h15 rfl rfl ?_
        show sm _ _ _ _ 39 [] [] _ _
        exact sm_rV rfl rfl
theorem ca_132 (a0 : Nat) (a1 : Nat) (i2 : Int32) (w : cm_W) : cm_ca cm_g 132 [.ref a0, .ref a1, .int i2] w ((fn_132 a0 a1 i2 w).map cm_gV) := cm_ca_of (cm_me_of rfl rfl) rfl (jt_132_0 a0 a1 i2 w)
-- NailedBoxes$Thought.look(LNailedBoxes$Village;LNailedBoxes$State;I)V
def fn_133_102 (k_17 : Nat → Nat → Nat → Int32 → Int32 → cm_W → Option cm_W) (a0 : Nat) (a1 : Nat) (a2 : Nat) (i3 : Int32) (i4 : Int32) (w : cm_W) : Option cm_W := k_17 a0 a1 a2 i3 (i4 + (1 : Int32)) w
theorem jt_133_102 (k_17 : Nat → Nat → Nat → Int32 → Int32 → cm_W → Option cm_W) (hk_17 : ∀ (a0 : Nat) (a1 : Nat) (a2 : Nat) (i3 : Int32) (i4 : Int32) (w : cm_W), sm cm_g 133 ck_133 kq_133 17 [(0, .ref a0), (1, .ref a1), (2, .ref a2), (3, .int i3), (4, .int i4)] [] w ((k_17 a0 a1 a2 i3 i4 w).map cm_gV)) (a0 : Nat) (a1 : Nat) (a2 : Nat) (i3 : Int32) (i4 : Int32) (w : cm_W) : sm cm_g 133 ck_133 kq_133 102 [(0, .ref a0), (1, .ref a1), (2, .ref a2), (3, .int i3), (4, .int i4)] [] w ((fn_133_102 k_17 a0 a1 a2 i3 i4 w).map cm_gV) := by
  unfold fn_133_102
  refine sm_seg 2 17 [(0, .ref a0), (1, .ref a1), (2, .ref a2), (3, .int i3), (4, .int (i4 + (1 : Int32)))] [] rfl ?_
  exact hk_17 a0 a1 a2 i3 (i4 + (1 : Int32)) w
def fn_133_92 (k_17 : Nat → Nat → Nat → Int32 → Int32 → cm_W → Option cm_W) (a0 : Nat) (a1 : Nat) (a2 : Nat) (i3 : Int32) (i4 : Int32) (w : cm_W) : Option cm_W := (if cm_sh w a2 = some (.inl 6) then (cm_R w a2 1).bind fun r2 => (if cm_sh w a0 = some (.inl 8) then (fn_132 a0 r2 i4 w).bind fun w5 => fn_133_102  k_17 a0 a1 a2 i3 i4 w5 else none) else none)
theorem jt_133_92 (k_17 : Nat → Nat → Nat → Int32 → Int32 → cm_W → Option cm_W) (hk_17 : ∀ (a0 : Nat) (a1 : Nat) (a2 : Nat) (i3 : Int32) (i4 : Int32) (w : cm_W), sm cm_g 133 ck_133 kq_133 17 [(0, .ref a0), (1, .ref a1), (2, .ref a2), (3, .int i3), (4, .int i4)] [] w ((k_17 a0 a1 a2 i3 i4 w).map cm_gV)) (a0 : Nat) (a1 : Nat) (a2 : Nat) (i3 : Int32) (i4 : Int32) (w : cm_W) : sm cm_g 133 ck_133 kq_133 92 [(0, .ref a0), (1, .ref a1), (2, .ref a2), (3, .int i3), (4, .int i4)] [] w ((fn_133_92 k_17 a0 a1 a2 i3 i4 w).map cm_gV) := by
  unfold fn_133_92
  refine sm_seg 2 94 [(0, .ref a0), (1, .ref a1), (2, .ref a2), (3, .int i3), (4, .int i4)] [.ref a2, .ref a0] rfl ?_
  refine sm_gd fun h1 => ?_
  refine sm_gR rfl h1 rfl rfl fun r2 h3 => ?_
  show sm _ _ _ _ 97 [(0, .ref a0), (1, .ref a1), (2, .ref a2), (3, .int i3), (4, .int i4)] [.ref r2, .ref a0] _ _
  refine sm_seg 1 99 [(0, .ref a0), (1, .ref a1), (2, .ref a2), (3, .int i3), (4, .int i4)] [.int i4, .ref r2, .ref a0] rfl ?_
  refine sm_gd fun h4 => ?_
  refine sm_cV (as := [.ref r2, .int i4]) (rest := []) rfl rfl rfl rfl h4 (Nat.le_of_ble_eq_true rfl) (ca_132  a0 r2 i4 w) fun w5 h6 => ?_
  show sm _ _ _ _ 102 [(0, .ref a0), (1, .ref a1), (2, .ref a2), (3, .int i3), (4, .int i4)] [] _ _
  exact jt_133_102  k_17 hk_17 a0 a1 a2 i3 i4 w5
def fn_133_46 (k_17 : Nat → Nat → Nat → Int32 → Int32 → cm_W → Option cm_W) : Nat → Nat → Nat → Nat → Int32 → Int32 → Int32 → cm_W → Option cm_W
  | 0, _, _, _, _, _, _, _ => none
  | n + 1, a0, a1, a2, i3, i4, i5, w => (if (8 : Int32) ≤ i5 then fn_133_92  k_17 a0 a1 a2 i3 i4 w else (if cm_sh w a0 = some (.inl 8) then (cm_R w a0 0).bind fun r9 => (cm_R w a0 0).bind fun r11 => (if cm_ga w .long r11 i5 = true then (if cm_sh w a2 = some (.inl 6) then (cm_R w a2 1).bind fun r15 => (fn_131 w a0 a1 r15 i4 i5).bind fun v17 => (if cm_ga w .long r9 i5 = true then (if cm_w2 43 46 r9 = true then fn_133_46 k_17 n a0 a1 a2 i3 i4 (i5 + (1 : Int32)) (cm_sL w r9 i5.toNatClampNeg (((cm_L w r11 i5.toNatClampNeg) * (Int32.toInt64 v17)) / (10 : Int64))) else none) else none) else none) else none) else none))
theorem jt_133_46 (k_17 : Nat → Nat → Nat → Int32 → Int32 → cm_W → Option cm_W) (hk_17 : ∀ (a0 : Nat) (a1 : Nat) (a2 : Nat) (i3 : Int32) (i4 : Int32) (w : cm_W), sm cm_g 133 ck_133 kq_133 17 [(0, .ref a0), (1, .ref a1), (2, .ref a2), (3, .int i3), (4, .int i4)] [] w ((k_17 a0 a1 a2 i3 i4 w).map cm_gV)) : ∀ (n : Nat) (a0 : Nat) (a1 : Nat) (a2 : Nat) (i3 : Int32) (i4 : Int32) (i5 : Int32) (w : cm_W), sm cm_g 133 ck_133 kq_133 46 [(0, .ref a0), (1, .ref a1), (2, .ref a2), (3, .int i3), (4, .int i4), (5, .int i5)] [] w ((fn_133_46 k_17 n a0 a1 a2 i3 i4 i5 w).map cm_gV) := by
  intro n
  induction n with
  | zero => intro a0 a1 a2 i3 i4 i5 w; exact sm_no
  | succ n ih =>
    intro a0 a1 a2 i3 i4 i5 w
    rw [fn_133_46]
    refine sm_seg 2 50 [(0, .ref a0), (1, .ref a1), (2, .ref a2), (3, .int i3), (4, .int i4), (5, .int i5)] [.int (8 : Int32), .int i5] rfl ?_
    refine sm_if (pc1 := 92) (lv1 := [(0, .ref a0), (1, .ref a1), (2, .ref a2), (3, .int i3), (4, .int i4)]) (pc2 := 53) (lv2 := [(0, .ref a0), (1, .ref a1), (2, .ref a2), (3, .int i3), (4, .int i4), (5, .int i5)]) (st1 := []) rfl rfl rfl (fun h7 => ?_) (fun h7 => ?_)
    · exact jt_133_92  k_17 hk_17 a0 a1 a2 i3 i4 w
    · refine sm_seg 1 54 [(0, .ref a0), (1, .ref a1), (2, .ref a2), (3, .int i3), (4, .int i4), (5, .int i5)] [.ref a0] rfl ?_
      refine sm_gd fun h8 => ?_
      refine sm_gR rfl h8 rfl rfl fun r9 h10 => ?_
      show sm _ _ _ _ 57 [(0, .ref a0), (1, .ref a1), (2, .ref a2), (3, .int i3), (4, .int i4), (5, .int i5)] [.ref r9] _ _
      refine sm_seg 2 60 [(0, .ref a0), (1, .ref a1), (2, .ref a2), (3, .int i3), (4, .int i4), (5, .int i5)] [.ref a0, .int i5, .ref r9] rfl ?_
      refine sm_gR rfl h8 rfl rfl fun r11 h12 => ?_
      show sm _ _ _ _ 63 [(0, .ref a0), (1, .ref a1), (2, .ref a2), (3, .int i3), (4, .int i4), (5, .int i5)] [.ref r11, .int i5, .ref r9] _ _
      refine sm_seg 1 65 [(0, .ref a0), (1, .ref a1), (2, .ref a2), (3, .int i3), (4, .int i4), (5, .int i5)] [.int i5, .ref r11, .int i5, .ref r9] rfl ?_
      refine sm_gd fun h13 => ?_
      refine sm_al rfl h13 rfl ?_
      show sm _ _ _ _ 66 [(0, .ref a0), (1, .ref a1), (2, .ref a2), (3, .int i3), (4, .int i4), (5, .int i5)] [.long (cm_L w r11 i5.toNatClampNeg), .int i5, .ref r9] _ _
      refine sm_seg 3 69 [(0, .ref a0), (1, .ref a1), (2, .ref a2), (3, .int i3), (4, .int i4), (5, .int i5)] [.ref a2, .ref a1, .ref a0, .long (cm_L w r11 i5.toNatClampNeg), .int i5, .ref r9] rfl ?_
      refine sm_gd fun h14 => ?_
      refine sm_gR rfl h14 rfl rfl fun r15 h16 => ?_
      show sm _ _ _ _ 72 [(0, .ref a0), (1, .ref a1), (2, .ref a2), (3, .int i3), (4, .int i4), (5, .int i5)] [.ref r15, .ref a1, .ref a0, .long (cm_L w r11 i5.toNatClampNeg), .int i5, .ref r9] _ _
      refine sm_seg 2 76 [(0, .ref a0), (1, .ref a1), (2, .ref a2), (3, .int i3), (4, .int i4), (5, .int i5)] [.int i5, .int i4, .ref r15, .ref a1, .ref a0, .long (cm_L w r11 i5.toNatClampNeg), .int i5, .ref r9] rfl ?_
      refine sm_cV (as := [.ref a1, .ref r15, .int i4, .int i5]) (rest := [.long (cm_L w r11 i5.toNatClampNeg), .int i5, .ref r9]) rfl rfl rfl rfl h8 (Nat.le_of_ble_eq_true rfl) (ca_131 w a0 a1 r15 i4 i5) fun v17 h18 => ?_
      show sm _ _ _ _ 79 [(0, .ref a0), (1, .ref a1), (2, .ref a2), (3, .int i3), (4, .int i4), (5, .int i5)] [.int v17, .long (cm_L w r11 i5.toNatClampNeg), .int i5, .ref r9] _ _
      refine sm_seg 4 85 [(0, .ref a0), (1, .ref a1), (2, .ref a2), (3, .int i3), (4, .int i4), (5, .int i5)] [.long (((cm_L w r11 i5.toNatClampNeg) * (Int32.toInt64 v17)) / (10 : Int64)), .int i5, .ref r9] rfl ?_
      refine sm_gd fun h19 => ?_
      refine sm_gd fun h20 => ?_
      refine sm_sl rfl h19 h20 rfl rfl ?_
      show sm _ _ _ _ 86 [(0, .ref a0), (1, .ref a1), (2, .ref a2), (3, .int i3), (4, .int i4), (5, .int i5)] [] _ _
      refine sm_seg 2 46 [(0, .ref a0), (1, .ref a1), (2, .ref a2), (3, .int i3), (4, .int i4), (5, .int (i5 + (1 : Int32)))] [] rfl ?_
      exact ih a0 a1 a2 i3 i4 (i5 + (1 : Int32)) (cm_sL w r9 i5.toNatClampNeg (((cm_L w r11 i5.toNatClampNeg) * (Int32.toInt64 v17)) / (10 : Int64)))
def fn_133_116 : Nat → Nat → Int32 → cm_W → Option cm_W
  | 0, _, _, _ => none
  | n + 1, a0, i4, w => (if (8 : Int32) ≤ i4 then some w else (if cm_sh w a0 = some (.inl 8) then (cm_R w a0 0).bind fun r23 => (if cm_ga w .long r23 i4 = true then (if cm_w2 43 46 a0 = true then fn_133_116 n a0 (i4 + (1 : Int32)) (cm_sL w a0 2 ((cm_L w a0 2) + (cm_L w r23 i4.toNatClampNeg))) else none) else none) else none))
theorem jt_133_116 : ∀ (n : Nat) (a0 : Nat) (i4 : Int32) (w : cm_W), sm cm_g 133 ck_133 kq_133 116 [(0, .ref a0), (4, .int i4)] [] w ((fn_133_116 n a0 i4 w).map cm_gV) := by
  intro n
  induction n with
  | zero => intro a0 i4 w; exact sm_no
  | succ n ih =>
    intro a0 i4 w
    rw [fn_133_116]
    refine sm_seg 2 120 [(0, .ref a0), (4, .int i4)] [.int (8 : Int32), .int i4] rfl ?_
    refine sm_if (pc1 := 145) (lv1 := []) (pc2 := 123) (lv2 := [(0, .ref a0), (4, .int i4)]) (st1 := []) rfl rfl rfl (fun h21 => ?_) (fun h21 => ?_)
    · exact sm_rV rfl rfl
    · refine sm_seg 2 125 [(0, .ref a0), (4, .int i4)] [.ref a0, .ref a0] rfl ?_
      refine sm_gd fun h22 => ?_
      refine sm_gL rfl h22 rfl ?_
      show sm _ _ _ _ 128 [(0, .ref a0), (4, .int i4)] [.long (cm_L w a0 2), .ref a0] _ _
      refine sm_seg 1 129 [(0, .ref a0), (4, .int i4)] [.ref a0, .long (cm_L w a0 2), .ref a0] rfl ?_
      refine sm_gR rfl h22 rfl rfl fun r23 h24 => ?_
      show sm _ _ _ _ 132 [(0, .ref a0), (4, .int i4)] [.ref r23, .long (cm_L w a0 2), .ref a0] _ _
      refine sm_seg 1 134 [(0, .ref a0), (4, .int i4)] [.int i4, .ref r23, .long (cm_L w a0 2), .ref a0] rfl ?_
      refine sm_gd fun h25 => ?_
      refine sm_al rfl h25 rfl ?_
      show sm _ _ _ _ 135 [(0, .ref a0), (4, .int i4)] [.long (cm_L w r23 i4.toNatClampNeg), .long (cm_L w a0 2), .ref a0] _ _
      refine sm_seg 1 136 [(0, .ref a0), (4, .int i4)] [.long ((cm_L w a0 2) + (cm_L w r23 i4.toNatClampNeg)), .ref a0] rfl ?_
      refine sm_gd fun h26 => ?_
      refine sm_pL rfl h22 rfl h26 rfl ?_
      show sm _ _ _ _ 139 [(0, .ref a0), (4, .int i4)] [] _ _
      refine sm_seg 2 116 [(0, .ref a0), (4, .int (i4 + (1 : Int32)))] [] rfl ?_
      exact ih a0 (i4 + (1 : Int32)) (cm_sL w a0 2 ((cm_L w a0 2) + (cm_L w r23 i4.toNatClampNeg)))
def fn_133_108 (a0 : Nat) (w : cm_W) : Option cm_W := (if cm_sh w a0 = some (.inl 8) then (if cm_w2 43 46 a0 = true then fn_133_116  cm_N a0 (0 : Int32) (cm_sL w a0 2 (0 : Int64)) else none) else none)
theorem jt_133_108 (a0 : Nat) (w : cm_W) : sm cm_g 133 ck_133 kq_133 108 [(0, .ref a0)] [] w ((fn_133_108 a0 w).map cm_gV) := by
  unfold fn_133_108
  refine sm_seg 2 110 [(0, .ref a0)] [.long (0 : Int64), .ref a0] rfl ?_
  refine sm_gd fun h27 => ?_
  refine sm_gd fun h28 => ?_
  refine sm_pL rfl h27 rfl h28 rfl ?_
  show sm _ _ _ _ 113 [(0, .ref a0)] [] _ _
  refine sm_seg 2 116 [(0, .ref a0), (4, .int (0 : Int32))] [] rfl ?_
  exact jt_133_116  cm_N a0 (0 : Int32) (cm_sL w a0 2 (0 : Int64))
def fn_133_17 : Nat → Nat → Nat → Nat → Int32 → Int32 → cm_W → Option cm_W
  | 0, _, _, _, _, _, _ => none
  | n + 1, a0, a1, a2, i3, i4, w => (if cm_sh w a2 = some (.inl 6) then (cm_R w a2 1).bind fun r30 => (if cm_sh w r30 = some (.inl 7) then (if (cm_I w r30 2) ≤ i4 then fn_133_108  a0 w else (cm_R w a2 1).bind fun r34 => (if cm_sh w r34 = some (.inl 7) then (fn_1 w r34 i4 (5 : Int32)).bind fun v37 => (if ¬ v37 = i3 then fn_133_102  (fn_133_17 n) a0 a1 a2 i3 i4 w else fn_133_46  (fn_133_17 n) cm_N a0 a1 a2 i3 i4 (0 : Int32) w) else none)) else none) else none)
theorem jt_133_17 : ∀ (n : Nat) (a0 : Nat) (a1 : Nat) (a2 : Nat) (i3 : Int32) (i4 : Int32) (w : cm_W), sm cm_g 133 ck_133 kq_133 17 [(0, .ref a0), (1, .ref a1), (2, .ref a2), (3, .int i3), (4, .int i4)] [] w ((fn_133_17 n a0 a1 a2 i3 i4 w).map cm_gV) := by
  intro n
  induction n with
  | zero => intro a0 a1 a2 i3 i4 w; exact sm_no
  | succ n ih =>
    intro a0 a1 a2 i3 i4 w
    rw [fn_133_17]
    refine sm_seg 2 20 [(0, .ref a0), (1, .ref a1), (2, .ref a2), (3, .int i3), (4, .int i4)] [.ref a2, .int i4] rfl ?_
    refine sm_gd fun h29 => ?_
    refine sm_gR rfl h29 rfl rfl fun r30 h31 => ?_
    show sm _ _ _ _ 23 [(0, .ref a0), (1, .ref a1), (2, .ref a2), (3, .int i3), (4, .int i4)] [.ref r30, .int i4] _ _
    refine sm_gd fun h32 => ?_
    refine sm_gI rfl h32 rfl ?_
    show sm _ _ _ _ 26 [(0, .ref a0), (1, .ref a1), (2, .ref a2), (3, .int i3), (4, .int i4)] [.int (cm_I w r30 2), .int i4] _ _
    refine sm_if (pc1 := 108) (lv1 := [(0, .ref a0)]) (pc2 := 29) (lv2 := [(0, .ref a0), (1, .ref a1), (2, .ref a2), (3, .int i3), (4, .int i4)]) (st1 := []) rfl rfl rfl (fun h33 => ?_) (fun h33 => ?_)
    · exact jt_133_108  a0 w
    · refine sm_seg 1 30 [(0, .ref a0), (1, .ref a1), (2, .ref a2), (3, .int i3), (4, .int i4)] [.ref a2] rfl ?_
      refine sm_gR rfl h29 rfl rfl fun r34 h35 => ?_
      show sm _ _ _ _ 33 [(0, .ref a0), (1, .ref a1), (2, .ref a2), (3, .int i3), (4, .int i4)] [.ref r34] _ _
      refine sm_seg 2 36 [(0, .ref a0), (1, .ref a1), (2, .ref a2), (3, .int i3), (4, .int i4)] [.int (5 : Int32), .int i4, .ref r34] rfl ?_
      refine sm_gd fun h36 => ?_
      refine sm_cV (as := [.int i4, .int (5 : Int32)]) (rest := []) rfl rfl rfl rfl h36 (Nat.le_of_ble_eq_true rfl) (ca_1 w r34 i4 (5 : Int32)) fun v37 h38 => ?_
      show sm _ _ _ _ 39 [(0, .ref a0), (1, .ref a1), (2, .ref a2), (3, .int i3), (4, .int i4)] [.int v37] _ _
      refine sm_seg 1 40 [(0, .ref a0), (1, .ref a1), (2, .ref a2), (3, .int i3), (4, .int i4)] [.int i3, .int v37] rfl ?_
      refine sm_if (pc1 := 102) (lv1 := [(0, .ref a0), (1, .ref a1), (2, .ref a2), (3, .int i3), (4, .int i4)]) (pc2 := 43) (lv2 := [(0, .ref a0), (1, .ref a1), (2, .ref a2), (3, .int i3), (4, .int i4)]) (st1 := []) rfl rfl rfl (fun h39 => ?_) (fun h39 => ?_)
      · exact jt_133_102  (fn_133_17 n) ih a0 a1 a2 i3 i4 w
      · refine sm_seg 2 46 [(0, .ref a0), (1, .ref a1), (2, .ref a2), (3, .int i3), (4, .int i4), (5, .int (0 : Int32))] [] rfl ?_
        exact jt_133_46  (fn_133_17 n) ih cm_N a0 a1 a2 i3 i4 (0 : Int32) w
def fn_133 (a0 : Nat) (a1 : Nat) (a2 : Nat) (i3 : Int32) (w : cm_W) : Option cm_W := (if cm_sh w a2 = some (.inl 6) then (cm_R w a2 0).bind fun r41 => (if cm_sh w r41 = some (.inl 7) then (fn_1 w r41 i3 (0 : Int32)).bind fun v44 => (if cm_sh w a0 = some (.inl 8) then (fn_126 a0 a1 v44 w).bind fun w47 => fn_133_17  cm_N a0 a1 a2 i3 (0 : Int32) w47 else none) else none) else none)
theorem jt_133_0 (a0 : Nat) (a1 : Nat) (a2 : Nat) (i3 : Int32) (w : cm_W) : sm cm_g 133 ck_133 kq_133 0 [(0, .ref a0), (1, .ref a1), (2, .ref a2), (3, .int i3)] [] w ((fn_133 a0 a1 a2 i3 w).map cm_gV) := by
  unfold fn_133
  refine sm_seg 3 3 [(0, .ref a0), (1, .ref a1), (2, .ref a2), (3, .int i3)] [.ref a2, .ref a1, .ref a0] rfl ?_
  refine sm_gd fun h40 => ?_
  refine sm_gR rfl h40 rfl rfl fun r41 h42 => ?_
  show sm _ _ _ _ 6 [(0, .ref a0), (1, .ref a1), (2, .ref a2), (3, .int i3)] [.ref r41, .ref a1, .ref a0] _ _
  refine sm_seg 2 8 [(0, .ref a0), (1, .ref a1), (2, .ref a2), (3, .int i3)] [.int (0 : Int32), .int i3, .ref r41, .ref a1, .ref a0] rfl ?_
  refine sm_gd fun h43 => ?_
  refine sm_cV (as := [.int i3, .int (0 : Int32)]) (rest := [.ref a1, .ref a0]) rfl rfl rfl rfl h43 (Nat.le_of_ble_eq_true rfl) (ca_1 w r41 i3 (0 : Int32)) fun v44 h45 => ?_
  show sm _ _ _ _ 11 [(0, .ref a0), (1, .ref a1), (2, .ref a2), (3, .int i3)] [.int v44, .ref a1, .ref a0] _ _
  refine sm_gd fun h46 => ?_
  refine sm_cV (as := [.ref a1, .int v44]) (rest := []) rfl rfl rfl rfl h46 (Nat.le_of_ble_eq_true rfl) (ca_126  a0 a1 v44 w) fun w47 h48 => ?_
  show sm _ _ _ _ 14 [(0, .ref a0), (1, .ref a1), (2, .ref a2), (3, .int i3)] [] _ _
  refine sm_seg 2 17 [(0, .ref a0), (1, .ref a1), (2, .ref a2), (3, .int i3), (4, .int (0 : Int32))] [] rfl ?_
  exact jt_133_17  cm_N a0 a1 a2 i3 (0 : Int32) w47
theorem ca_133 (a0 : Nat) (a1 : Nat) (a2 : Nat) (i3 : Int32) (w : cm_W) : cm_ca cm_g 133 [.ref a0, .ref a1, .ref a2, .int i3] w ((fn_133 a0 a1 a2 i3 w).map cm_gV) := cm_ca_of (cm_me_of rfl rfl) rfl (jt_133_0 a0 a1 a2 i3 w)
-- NailedBoxes$Thought.millionths(I)I
def fn_134_33 (w : cm_W) : Nat → Nat → Int32 → Int64 → Int32 → Option Int32
  | 0, _, _, _, _ => none
  | n + 1, a0, i2, j3, i5 => (if (6 : Int32) ≤ i5 then some i2 else (if cm_sh w a0 = some (.inl 8) then (if ¬ (cm_L w a0 2) = 0 then (if ¬ (cm_L w a0 2) = 0 then fn_134_33 w n a0 ((i2 * (10 : Int32)) + (Int64.toInt32 ((j3 * (10 : Int64)) / (cm_L w a0 2)))) ((j3 * (10 : Int64)) - (j3 * (10 : Int64)) / (cm_L w a0 2) * (cm_L w a0 2)) (i5 + (1 : Int32)) else none) else none) else none))
theorem jt_134_33 (w : cm_W) : ∀ (n : Nat) (a0 : Nat) (i2 : Int32) (j3 : Int64) (i5 : Int32), sm cm_g 134 ck_134 kq_134 33 [(0, .ref a0), (2, .int i2), (3, .long j3), (5, .int i5)] [] w ((fn_134_33 w n a0 i2 j3 i5).map (cm_fI w)) := by
  intro n
  induction n with
  | zero => intro a0 i2 j3 i5; exact sm_no
  | succ n ih =>
    intro a0 i2 j3 i5
    rw [fn_134_33]
    refine sm_seg 2 37 [(0, .ref a0), (2, .int i2), (3, .long j3), (5, .int i5)] [.int (6 : Int32), .int i5] rfl ?_
    refine sm_if (pc1 := 72) (lv1 := [(2, .int i2)]) (pc2 := 40) (lv2 := [(0, .ref a0), (2, .int i2), (3, .long j3), (5, .int i5)]) (st1 := []) rfl rfl rfl (fun h1 => ?_) (fun h1 => ?_)
    · refine sm_seg 1 73 [(2, .int i2)] [.int i2] rfl ?_
      exact sm_rI rfl rfl
    · refine sm_seg 9 52 [(3, .long (j3 * (10 : Int64))), (0, .ref a0), (2, .int i2), (5, .int i5)] [.ref a0, .long (j3 * (10 : Int64)), .int (i2 * (10 : Int32))] rfl ?_
      refine sm_gd fun h2 => ?_
      refine sm_gL rfl h2 rfl ?_
      show sm _ _ _ _ 55 [(3, .long (j3 * (10 : Int64))), (0, .ref a0), (2, .int i2), (5, .int i5)] [.long (cm_L w a0 2), .long (j3 * (10 : Int64)), .int (i2 * (10 : Int32))] _ _
      refine sm_gd fun h3 => ?_
      refine sm_ldiv rfl h3 rfl ?_
      show sm _ _ _ _ 56 [(3, .long (j3 * (10 : Int64))), (0, .ref a0), (2, .int i2), (5, .int i5)] [.long ((j3 * (10 : Int64)) / (cm_L w a0 2)), .int (i2 * (10 : Int32))] _ _
      refine sm_seg 5 61 [(2, .int ((i2 * (10 : Int32)) + (Int64.toInt32 ((j3 * (10 : Int64)) / (cm_L w a0 2))))), (3, .long (j3 * (10 : Int64))), (0, .ref a0), (5, .int i5)] [.ref a0, .long (j3 * (10 : Int64))] rfl ?_
      refine sm_gL rfl h2 rfl ?_
      show sm _ _ _ _ 64 [(2, .int ((i2 * (10 : Int32)) + (Int64.toInt32 ((j3 * (10 : Int64)) / (cm_L w a0 2))))), (3, .long (j3 * (10 : Int64))), (0, .ref a0), (5, .int i5)] [.long (cm_L w a0 2), .long (j3 * (10 : Int64))] _ _
      refine sm_gd fun h4 => ?_
      refine sm_lrem rfl h4 rfl ?_
      show sm _ _ _ _ 65 [(2, .int ((i2 * (10 : Int32)) + (Int64.toInt32 ((j3 * (10 : Int64)) / (cm_L w a0 2))))), (3, .long (j3 * (10 : Int64))), (0, .ref a0), (5, .int i5)] [.long ((j3 * (10 : Int64)) - (j3 * (10 : Int64)) / (cm_L w a0 2) * (cm_L w a0 2))] _ _
      refine sm_seg 3 33 [(0, .ref a0), (2, .int ((i2 * (10 : Int32)) + (Int64.toInt32 ((j3 * (10 : Int64)) / (cm_L w a0 2))))), (3, .long ((j3 * (10 : Int64)) - (j3 * (10 : Int64)) / (cm_L w a0 2) * (cm_L w a0 2))), (5, .int (i5 + (1 : Int32)))] [] rfl ?_
      exact ih a0 ((i2 * (10 : Int32)) + (Int64.toInt32 ((j3 * (10 : Int64)) / (cm_L w a0 2)))) ((j3 * (10 : Int64)) - (j3 * (10 : Int64)) / (cm_L w a0 2) * (cm_L w a0 2)) (i5 + (1 : Int32))
def fn_134_21 (w : cm_W) (a0 : Nat) (i1 : Int32) : Option Int32 := (if cm_sh w a0 = some (.inl 8) then (cm_R w a0 0).bind fun r6 => (if cm_ga w .long r6 i1 = true then fn_134_33 w cm_N a0 (0 : Int32) (cm_L w r6 i1.toNatClampNeg) (0 : Int32) else none) else none)
theorem jt_134_21 (w : cm_W) (a0 : Nat) (i1 : Int32) : sm cm_g 134 ck_134 kq_134 21 [(0, .ref a0), (1, .int i1)] [] w ((fn_134_21 w a0 i1).map (cm_fI w)) := by
  unfold fn_134_21
  refine sm_seg 3 24 [(2, .int (0 : Int32)), (0, .ref a0), (1, .int i1)] [.ref a0] rfl ?_
  refine sm_gd fun h5 => ?_
  refine sm_gR rfl h5 rfl rfl fun r6 h7 => ?_
  show sm _ _ _ _ 27 [(2, .int (0 : Int32)), (0, .ref a0), (1, .int i1)] [.ref r6] _ _
  refine sm_seg 1 28 [(2, .int (0 : Int32)), (0, .ref a0), (1, .int i1)] [.int i1, .ref r6] rfl ?_
  refine sm_gd fun h8 => ?_
  refine sm_al rfl h8 rfl ?_
  show sm _ _ _ _ 29 [(2, .int (0 : Int32)), (0, .ref a0), (1, .int i1)] [.long (cm_L w r6 i1.toNatClampNeg)] _ _
  refine sm_seg 3 33 [(0, .ref a0), (2, .int (0 : Int32)), (3, .long (cm_L w r6 i1.toNatClampNeg)), (5, .int (0 : Int32))] [] rfl ?_
  exact jt_134_33 w cm_N a0 (0 : Int32) (cm_L w r6 i1.toNatClampNeg) (0 : Int32)
def fn_134 (w : cm_W) (a0 : Nat) (i1 : Int32) : Option Int32 := (if cm_sh w a0 = some (.inl 8) then (if (lg_cmp (cm_L w a0 2) (0 : Int64)) ≤ 0 then some (-1 : Int32) else (if i1 < 0 then some (-1 : Int32) else (if i1 < (8 : Int32) then fn_134_21 w a0 i1 else some (-1 : Int32)))) else none)
theorem jt_134_0 (w : cm_W) (a0 : Nat) (i1 : Int32) : sm cm_g 134 ck_134 kq_134 0 [(0, .ref a0), (1, .int i1)] [] w ((fn_134 w a0 i1).map (cm_fI w)) := by
  unfold fn_134
  refine sm_seg 1 1 [(0, .ref a0), (1, .int i1)] [.ref a0] rfl ?_
  refine sm_gd fun h9 => ?_
  refine sm_gL rfl h9 rfl ?_
  show sm _ _ _ _ 4 [(0, .ref a0), (1, .int i1)] [.long (cm_L w a0 2)] _ _
  refine sm_seg 2 6 [(0, .ref a0), (1, .int i1)] [.int (lg_cmp (cm_L w a0 2) (0 : Int64))] rfl ?_
  refine sm_if (pc1 := 19) (lv1 := []) (pc2 := 9) (lv2 := [(0, .ref a0), (1, .int i1)]) (st1 := []) rfl rfl rfl (fun h10 => ?_) (fun h10 => ?_)
  · refine sm_seg 1 20 [] [.int (-1 : Int32)] rfl ?_
    exact sm_rI rfl rfl
  · refine sm_seg 1 10 [(0, .ref a0), (1, .int i1)] [.int i1] rfl ?_
    refine sm_if (pc1 := 19) (lv1 := []) (pc2 := 13) (lv2 := [(0, .ref a0), (1, .int i1)]) (st1 := []) rfl rfl rfl (fun h11 => ?_) (fun h11 => ?_)
    · refine sm_seg 1 20 [] [.int (-1 : Int32)] rfl ?_
      exact sm_rI rfl rfl
    · refine sm_seg 2 16 [(0, .ref a0), (1, .int i1)] [.int (8 : Int32), .int i1] rfl ?_
      refine sm_if (pc1 := 21) (lv1 := [(0, .ref a0), (1, .int i1)]) (pc2 := 19) (lv2 := []) (st1 := []) rfl rfl rfl (fun h12 => ?_) (fun h12 => ?_)
      · exact jt_134_21 w a0 i1
      · refine sm_seg 1 20 [] [.int (-1 : Int32)] rfl ?_
        exact sm_rI rfl rfl
theorem ca_134 (w : cm_W) (a0 : Nat) (i1 : Int32) : cm_ca cm_g 134 [.ref a0, .int i1] w ((fn_134 w a0 i1).map (cm_fI w)) := cm_ca_of (cm_me_of rfl rfl) rfl (jt_134_0 w a0 i1)
-- NailedBoxes$Thought.meanWorth(LNailedBoxes$Village;)I
def fn_135_60 (w : cm_W) (a0 : Nat) (j2 : Int64) : Option Int32 := (if cm_sh w a0 = some (.inl 8) then (if ¬ (cm_L w a0 2) = 0 then (if ¬ (cm_L w a0 2) = 0 then (if ¬ (cm_L w a0 2) = 0 then some (Int64.toInt32 (((j2 / (cm_L w a0 2)) * (100 : Int64)) + (((j2 - j2 / (cm_L w a0 2) * (cm_L w a0 2)) * (100 : Int64)) / (cm_L w a0 2)))) else none) else none) else none) else none)
theorem jt_135_60 (w : cm_W) (a0 : Nat) (j2 : Int64) : sm cm_g 135 ck_135 kq_135 60 [(0, .ref a0), (2, .long j2)] [] w ((fn_135_60 w a0 j2).map (cm_fI w)) := by
  unfold fn_135_60
  refine sm_seg 2 62 [(0, .ref a0), (2, .long j2)] [.ref a0, .long j2] rfl ?_
  refine sm_gd fun h1 => ?_
  refine sm_gL rfl h1 rfl ?_
  show sm _ _ _ _ 65 [(0, .ref a0), (2, .long j2)] [.long (cm_L w a0 2), .long j2] _ _
  refine sm_gd fun h2 => ?_
  refine sm_ldiv rfl h2 rfl ?_
  show sm _ _ _ _ 66 [(0, .ref a0), (2, .long j2)] [.long (j2 / (cm_L w a0 2))] _ _
  refine sm_seg 4 72 [(0, .ref a0), (2, .long j2)] [.ref a0, .long j2, .long ((j2 / (cm_L w a0 2)) * (100 : Int64))] rfl ?_
  refine sm_gL rfl h1 rfl ?_
  show sm _ _ _ _ 75 [(0, .ref a0), (2, .long j2)] [.long (cm_L w a0 2), .long j2, .long ((j2 / (cm_L w a0 2)) * (100 : Int64))] _ _
  refine sm_gd fun h3 => ?_
  refine sm_lrem rfl h3 rfl ?_
  show sm _ _ _ _ 76 [(0, .ref a0), (2, .long j2)] [.long (j2 - j2 / (cm_L w a0 2) * (cm_L w a0 2)), .long ((j2 / (cm_L w a0 2)) * (100 : Int64))] _ _
  refine sm_seg 3 81 [(0, .ref a0), (2, .long j2)] [.ref a0, .long ((j2 - j2 / (cm_L w a0 2) * (cm_L w a0 2)) * (100 : Int64)), .long ((j2 / (cm_L w a0 2)) * (100 : Int64))] rfl ?_
  refine sm_gL rfl h1 rfl ?_
  show sm _ _ _ _ 84 [(0, .ref a0), (2, .long j2)] [.long (cm_L w a0 2), .long ((j2 - j2 / (cm_L w a0 2) * (cm_L w a0 2)) * (100 : Int64)), .long ((j2 / (cm_L w a0 2)) * (100 : Int64))] _ _
  refine sm_gd fun h4 => ?_
  refine sm_ldiv rfl h4 rfl ?_
  show sm _ _ _ _ 85 [(0, .ref a0), (2, .long j2)] [.long (((j2 - j2 / (cm_L w a0 2) * (cm_L w a0 2)) * (100 : Int64)) / (cm_L w a0 2)), .long ((j2 / (cm_L w a0 2)) * (100 : Int64))] _ _
  refine sm_seg 2 87 [(0, .ref a0), (2, .long j2)] [.int (Int64.toInt32 (((j2 / (cm_L w a0 2)) * (100 : Int64)) + (((j2 - j2 / (cm_L w a0 2) * (cm_L w a0 2)) * (100 : Int64)) / (cm_L w a0 2))))] rfl ?_
  exact sm_rI rfl rfl
def fn_135_16 (w : cm_W) : Nat → Nat → Nat → Int64 → Int32 → Option Int32
  | 0, _, _, _, _ => none
  | n + 1, a0, a1, j2, i4 => (if cm_sh w a1 = some (.inl 9) then (cm_R w a1 1).bind fun r6 => (if cm_sh w r6 = some (.inl 7) then (if (cm_I w r6 2) ≤ i4 then fn_135_60 w a0 j2 else (if (8 : Int32) ≤ i4 then fn_135_60 w a0 j2 else (if cm_sh w a0 = some (.inl 8) then (cm_R w a0 0).bind fun r12 => (if cm_ga w .long r12 i4 = true then (fn_6 w a1 i4 (5 : Int32)).bind fun v15 => fn_135_16 w n a0 a1 (j2 + ((cm_L w r12 i4.toNatClampNeg) * (Int32.toInt64 v15))) (i4 + (1 : Int32)) else none) else none))) else none) else none)
theorem jt_135_16 (w : cm_W) : ∀ (n : Nat) (a0 : Nat) (a1 : Nat) (j2 : Int64) (i4 : Int32), sm cm_g 135 ck_135 kq_135 16 [(0, .ref a0), (1, .ref a1), (2, .long j2), (4, .int i4)] [] w ((fn_135_16 w n a0 a1 j2 i4).map (cm_fI w)) := by
  intro n
  induction n with
  | zero => intro a0 a1 j2 i4; exact sm_no
  | succ n ih =>
    intro a0 a1 j2 i4
    rw [fn_135_16]
    refine sm_seg 2 19 [(0, .ref a0), (1, .ref a1), (2, .long j2), (4, .int i4)] [.ref a1, .int i4] rfl ?_
    refine sm_gd fun h5 => ?_
    refine sm_gR rfl h5 rfl rfl fun r6 h7 => ?_
    show sm _ _ _ _ 22 [(0, .ref a0), (1, .ref a1), (2, .long j2), (4, .int i4)] [.ref r6, .int i4] _ _
    refine sm_gd fun h8 => ?_
    refine sm_gI rfl h8 rfl ?_
    show sm _ _ _ _ 25 [(0, .ref a0), (1, .ref a1), (2, .long j2), (4, .int i4)] [.int (cm_I w r6 2), .int i4] _ _
    refine sm_if (pc1 := 60) (lv1 := [(0, .ref a0), (2, .long j2)]) (pc2 := 28) (lv2 := [(0, .ref a0), (1, .ref a1), (2, .long j2), (4, .int i4)]) (st1 := []) rfl rfl rfl (fun h9 => ?_) (fun h9 => ?_)
    · exact jt_135_60 w a0 j2
    · refine sm_seg 2 32 [(0, .ref a0), (1, .ref a1), (2, .long j2), (4, .int i4)] [.int (8 : Int32), .int i4] rfl ?_
      refine sm_if (pc1 := 60) (lv1 := [(0, .ref a0), (2, .long j2)]) (pc2 := 35) (lv2 := [(0, .ref a0), (1, .ref a1), (2, .long j2), (4, .int i4)]) (st1 := []) rfl rfl rfl (fun h10 => ?_) (fun h10 => ?_)
      · exact jt_135_60 w a0 j2
      · refine sm_seg 2 37 [(0, .ref a0), (1, .ref a1), (2, .long j2), (4, .int i4)] [.ref a0, .long j2] rfl ?_
        refine sm_gd fun h11 => ?_
        refine sm_gR rfl h11 rfl rfl fun r12 h13 => ?_
        show sm _ _ _ _ 40 [(0, .ref a0), (1, .ref a1), (2, .long j2), (4, .int i4)] [.ref r12, .long j2] _ _
        refine sm_seg 1 42 [(0, .ref a0), (1, .ref a1), (2, .long j2), (4, .int i4)] [.int i4, .ref r12, .long j2] rfl ?_
        refine sm_gd fun h14 => ?_
        refine sm_al rfl h14 rfl ?_
        show sm _ _ _ _ 43 [(0, .ref a0), (1, .ref a1), (2, .long j2), (4, .int i4)] [.long (cm_L w r12 i4.toNatClampNeg), .long j2] _ _
        refine sm_seg 3 47 [(0, .ref a0), (1, .ref a1), (2, .long j2), (4, .int i4)] [.int (5 : Int32), .int i4, .ref a1, .long (cm_L w r12 i4.toNatClampNeg), .long j2] rfl ?_
        refine sm_cV (as := [.int i4, .int (5 : Int32)]) (rest := [.long (cm_L w r12 i4.toNatClampNeg), .long j2]) rfl rfl rfl rfl h5 (Nat.le_of_ble_eq_true rfl) (ca_6 w a1 i4 (5 : Int32)) fun v15 h16 => ?_
        show sm _ _ _ _ 50 [(0, .ref a0), (1, .ref a1), (2, .long j2), (4, .int i4)] [.int v15, .long (cm_L w r12 i4.toNatClampNeg), .long j2] _ _
        refine sm_seg 6 16 [(0, .ref a0), (1, .ref a1), (2, .long (j2 + ((cm_L w r12 i4.toNatClampNeg) * (Int32.toInt64 v15)))), (4, .int (i4 + (1 : Int32)))] [] rfl ?_
        exact ih a0 a1 (j2 + ((cm_L w r12 i4.toNatClampNeg) * (Int32.toInt64 v15))) (i4 + (1 : Int32))
def fn_135_11 (w : cm_W) (a0 : Nat) (a1 : Nat) : Option Int32 := fn_135_16 w cm_N a0 a1 (0 : Int64) (0 : Int32)
theorem jt_135_11 (w : cm_W) (a0 : Nat) (a1 : Nat) : sm cm_g 135 ck_135 kq_135 11 [(0, .ref a0), (1, .ref a1)] [] w ((fn_135_11 w a0 a1).map (cm_fI w)) := by
  unfold fn_135_11
  refine sm_seg 4 16 [(0, .ref a0), (1, .ref a1), (2, .long (0 : Int64)), (4, .int (0 : Int32))] [] rfl ?_
  exact jt_135_16 w cm_N a0 a1 (0 : Int64) (0 : Int32)
def fn_135 (w : cm_W) (a0 : Nat) (a1 : Nat) : Option Int32 := (if cm_sh w a0 = some (.inl 8) then (if 0 < (lg_cmp (cm_L w a0 2) (0 : Int64)) then fn_135_11 w a0 a1 else some (-1 : Int32)) else none)
theorem jt_135_0 (w : cm_W) (a0 : Nat) (a1 : Nat) : sm cm_g 135 ck_135 kq_135 0 [(0, .ref a0), (1, .ref a1)] [] w ((fn_135 w a0 a1).map (cm_fI w)) := by
  unfold fn_135
  refine sm_seg 1 1 [(0, .ref a0), (1, .ref a1)] [.ref a0] rfl ?_
  refine sm_gd fun h17 => ?_
  refine sm_gL rfl h17 rfl ?_
  show sm _ _ _ _ 4 [(0, .ref a0), (1, .ref a1)] [.long (cm_L w a0 2)] _ _
  refine sm_seg 2 6 [(0, .ref a0), (1, .ref a1)] [.int (lg_cmp (cm_L w a0 2) (0 : Int64))] rfl ?_
  refine sm_if (pc1 := 11) (lv1 := [(0, .ref a0), (1, .ref a1)]) (pc2 := 9) (lv2 := [(0, .ref a0), (1, .ref a1)]) (st1 := []) rfl rfl rfl (fun h18 => ?_) (fun h18 => ?_)
  · exact jt_135_11 w a0 a1
  · refine sm_seg 1 10 [(0, .ref a0), (1, .ref a1)] [.int (-1 : Int32)] rfl ?_
    exact sm_rI rfl rfl
theorem ca_135 (w : cm_W) (a0 : Nat) (a1 : Nat) : cm_ca cm_g 135 [.ref a0, .ref a1] w ((fn_135 w a0 a1).map (cm_fI w)) := cm_ca_of (cm_me_of rfl rfl) rfl (jt_135_0 w a0 a1)
-- NailedBoxes$Village.thingDrawn(IJ)I
def fn_136_61 (w : cm_W) (k_26 : Nat → Int32 → Int64 → Int32 → Option Int32) (a0 : Nat) (i1 : Int32) (j5 : Int64) (i7 : Int32) : Option Int32 := k_26 a0 i1 j5 (i7 + (1 : Int32))
theorem jt_136_61 (w : cm_W) (k_26 : Nat → Int32 → Int64 → Int32 → Option Int32) (hk_26 : ∀ (a0 : Nat) (i1 : Int32) (j5 : Int64) (i7 : Int32), sm cm_g 136 ck_136 kq_136 26 [(0, .ref a0), (1, .int i1), (5, .long j5), (7, .int i7)] [] w ((k_26 a0 i1 j5 i7).map (cm_fI w))) (a0 : Nat) (i1 : Int32) (j5 : Int64) (i7 : Int32) : sm cm_g 136 ck_136 kq_136 61 [(0, .ref a0), (1, .int i1), (5, .long j5), (7, .int i7)] [] w ((fn_136_61 w k_26 a0 i1 j5 i7).map (cm_fI w)) := by
  unfold fn_136_61
  refine sm_seg 2 26 [(0, .ref a0), (1, .int i1), (5, .long j5), (7, .int (i7 + (1 : Int32)))] [] rfl ?_
  exact hk_26 a0 i1 j5 (i7 + (1 : Int32))
def fn_136_26 (w : cm_W) : Nat → Nat → Int32 → Int64 → Int32 → Option Int32
  | 0, _, _, _, _ => none
  | n + 1, a0, i1, j5, i7 => (if cm_sh w a0 = some (.inl 9) then (cm_R w a0 1).bind fun r2 => (if cm_sh w r2 = some (.inl 7) then (if (cm_I w r2 2) ≤ i7 then some (0 : Int32) else (fn_8 w a0 i1 i7).bind fun v6 => (if 0 ≤ (lg_cmp (j5 - (Int32.toInt64 v6)) (0 : Int64)) then fn_136_61 w (fn_136_26 w n) a0 i1 (j5 - (Int32.toInt64 v6)) i7 else some i7)) else none) else none)
theorem jt_136_26 (w : cm_W) : ∀ (n : Nat) (a0 : Nat) (i1 : Int32) (j5 : Int64) (i7 : Int32), sm cm_g 136 ck_136 kq_136 26 [(0, .ref a0), (1, .int i1), (5, .long j5), (7, .int i7)] [] w ((fn_136_26 w n a0 i1 j5 i7).map (cm_fI w)) := by
  intro n
  induction n with
  | zero => intro a0 i1 j5 i7; exact sm_no
  | succ n ih =>
    intro a0 i1 j5 i7
    rw [fn_136_26]
    refine sm_seg 2 29 [(0, .ref a0), (1, .int i1), (5, .long j5), (7, .int i7)] [.ref a0, .int i7] rfl ?_
    refine sm_gd fun h1 => ?_
    refine sm_gR rfl h1 rfl rfl fun r2 h3 => ?_
    show sm _ _ _ _ 32 [(0, .ref a0), (1, .int i1), (5, .long j5), (7, .int i7)] [.ref r2, .int i7] _ _
    refine sm_gd fun h4 => ?_
    refine sm_gI rfl h4 rfl ?_
    show sm _ _ _ _ 35 [(0, .ref a0), (1, .int i1), (5, .long j5), (7, .int i7)] [.int (cm_I w r2 2), .int i7] _ _
    refine sm_if (pc1 := 67) (lv1 := []) (pc2 := 38) (lv2 := [(0, .ref a0), (1, .int i1), (5, .long j5), (7, .int i7)]) (st1 := []) rfl rfl rfl (fun h5 => ?_) (fun h5 => ?_)
    · refine sm_seg 1 68 [] [.int (0 : Int32)] rfl ?_
      exact sm_rI rfl rfl
    · refine sm_seg 4 44 [(0, .ref a0), (1, .int i1), (5, .long j5), (7, .int i7)] [.int i7, .int i1, .ref a0, .long j5] rfl ?_
      refine sm_cV (as := [.int i1, .int i7]) (rest := [.long j5]) rfl rfl rfl rfl h1 (Nat.le_of_ble_eq_true rfl) (ca_8 w a0 i1 i7) fun v6 h7 => ?_
      show sm _ _ _ _ 47 [(0, .ref a0), (1, .int i1), (5, .long j5), (7, .int i7)] [.int v6, .long j5] _ _
      refine sm_seg 6 55 [(5, .long (j5 - (Int32.toInt64 v6))), (0, .ref a0), (1, .int i1), (7, .int i7)] [.int (lg_cmp (j5 - (Int32.toInt64 v6)) (0 : Int64))] rfl ?_
      refine sm_if (pc1 := 61) (lv1 := [(0, .ref a0), (1, .int i1), (5, .long (j5 - (Int32.toInt64 v6))), (7, .int i7)]) (pc2 := 58) (lv2 := [(5, .long (j5 - (Int32.toInt64 v6))), (0, .ref a0), (1, .int i1), (7, .int i7)]) (st1 := []) rfl rfl rfl (fun h8 => ?_) (fun h8 => ?_)
      · exact jt_136_61 w (fn_136_26 w n) ih a0 i1 (j5 - (Int32.toInt64 v6)) i7
      · refine sm_seg 1 60 [(5, .long (j5 - (Int32.toInt64 v6))), (0, .ref a0), (1, .int i1), (7, .int i7)] [.int i7] rfl ?_
        exact sm_rI rfl rfl
def fn_136_20 (w : cm_W) (a0 : Nat) (i1 : Int32) : Option Int32 := fn_136_26 w cm_N a0 i1 (0 : Int64) (0 : Int32)
theorem jt_136_20 (w : cm_W) (a0 : Nat) (i1 : Int32) : sm cm_g 136 ck_136 kq_136 20 [(0, .ref a0), (1, .int i1)] [] w ((fn_136_20 w a0 i1).map (cm_fI w)) := by
  unfold fn_136_20
  refine sm_seg 4 26 [(0, .ref a0), (1, .int i1), (5, .long (0 : Int64)), (7, .int (0 : Int32))] [] rfl ?_
  exact jt_136_26 w cm_N a0 i1 (0 : Int64) (0 : Int32)
def fn_136 (w : cm_W) (a0 : Nat) (i1 : Int32) (j2 : Int64) : Option Int32 := (if cm_sh w a0 = some (.inl 9) then (fn_10 w a0 i1).bind fun v10 => (if v10 ≤ 0 then fn_136_20 w a0 i1 else (if ¬ (Int32.toInt64 v10) = 0 then fn_136_26 w cm_N a0 i1 (j2 - j2 / (Int32.toInt64 v10) * (Int32.toInt64 v10)) (0 : Int32) else none)) else none)
theorem jt_136_0 (w : cm_W) (a0 : Nat) (i1 : Int32) (j2 : Int64) : sm cm_g 136 ck_136 kq_136 0 [(0, .ref a0), (1, .int i1), (2, .long j2)] [] w ((fn_136 w a0 i1 j2).map (cm_fI w)) := by
  unfold fn_136
  refine sm_seg 2 2 [(0, .ref a0), (1, .int i1), (2, .long j2)] [.int i1, .ref a0] rfl ?_
  refine sm_gd fun h9 => ?_
  refine sm_cV (as := [.int i1]) (rest := []) rfl rfl rfl rfl h9 (Nat.le_of_ble_eq_true rfl) (ca_10 w a0 i1) fun v10 h11 => ?_
  show sm _ _ _ _ 5 [(0, .ref a0), (1, .int i1), (2, .long j2)] [.int v10] _ _
  refine sm_seg 2 9 [(4, .int v10), (0, .ref a0), (1, .int i1), (2, .long j2)] [.int v10] rfl ?_
  refine sm_if (pc1 := 20) (lv1 := [(0, .ref a0), (1, .int i1)]) (pc2 := 12) (lv2 := [(4, .int v10), (0, .ref a0), (1, .int i1), (2, .long j2)]) (st1 := []) rfl rfl rfl (fun h12 => ?_) (fun h12 => ?_)
  · exact jt_136_20 w a0 i1
  · refine sm_seg 3 16 [(4, .int v10), (0, .ref a0), (1, .int i1), (2, .long j2)] [.long (Int32.toInt64 v10), .long j2] rfl ?_
    refine sm_gd fun h13 => ?_
    refine sm_lrem rfl h13 rfl ?_
    show sm _ _ _ _ 17 [(4, .int v10), (0, .ref a0), (1, .int i1), (2, .long j2)] [.long (j2 - j2 / (Int32.toInt64 v10) * (Int32.toInt64 v10))] _ _
    refine sm_seg 4 26 [(0, .ref a0), (1, .int i1), (5, .long (j2 - j2 / (Int32.toInt64 v10) * (Int32.toInt64 v10))), (7, .int (0 : Int32))] [] rfl ?_
    exact jt_136_26 w cm_N a0 i1 (j2 - j2 / (Int32.toInt64 v10) * (Int32.toInt64 v10)) (0 : Int32)
theorem ca_136 (w : cm_W) (a0 : Nat) (i1 : Int32) (j2 : Int64) : cm_ca cm_g 136 [.ref a0, .int i1, .long j2] w ((fn_136 w a0 i1 j2).map (cm_fI w)) := cm_ca_of (cm_me_of rfl rfl) rfl (jt_136_0 w a0 i1 j2)
-- NailedBoxes.layOnTape(I)V
def fn_138_3 : Nat → Nat → Int32 → Int32 → cm_W → Option cm_W
  | 0, _, _, _, _ => none
  | n + 1, a0, i1, i2, w => (if i2 < 0 then some w else (if cm_sh w a0 = some (.inl 10) then (if (900 : Int32) ≤ (cm_I w a0 1) then some w else (cm_R w a0 0).bind fun r4 => (if cm_ga w .byte r4 (cm_I w a0 1) = true then (if cm_w2 2 96 r4 = true then (if cm_w2 2 96 a0 = true then fn_138_3 n a0 i1 (i2 + (-8 : Int32)) (cm_sI (cm_sI w r4 (cm_I w a0 1).toNatClampNeg (vp_nar .byte ((Int32.toInt8 ((i1.toUInt32 >>> (i2.toUInt32 &&& Int32.toUInt32 31)).toInt32)).toInt32))) a0 1 ((cm_I (cm_sI w r4 (cm_I w a0 1).toNatClampNeg (vp_nar .byte ((Int32.toInt8 ((i1.toUInt32 >>> (i2.toUInt32 &&& Int32.toUInt32 31)).toInt32)).toInt32))) a0 1) + (1 : Int32))) else none) else none) else none)) else none))
theorem jt_138_3 : ∀ (n : Nat) (a0 : Nat) (i1 : Int32) (i2 : Int32) (w : cm_W), sm cm_g 138 ck_138 kq_138 3 [(0, .ref a0), (1, .int i1), (2, .int i2)] [] w ((fn_138_3 n a0 i1 i2 w).map cm_gV) := by
  intro n
  induction n with
  | zero => intro a0 i1 i2 w; exact sm_no
  | succ n ih =>
    intro a0 i1 i2 w
    rw [fn_138_3]
    refine sm_seg 1 4 [(0, .ref a0), (1, .int i1), (2, .int i2)] [.int i2] rfl ?_
    refine sm_if (pc1 := 46) (lv1 := []) (pc2 := 7) (lv2 := [(0, .ref a0), (1, .int i1), (2, .int i2)]) (st1 := []) rfl rfl rfl (fun h1 => ?_) (fun h1 => ?_)
    · exact sm_rV rfl rfl
    · refine sm_seg 1 8 [(0, .ref a0), (1, .int i1), (2, .int i2)] [.ref a0] rfl ?_
      refine sm_gd fun h2 => ?_
      refine sm_gI rfl h2 rfl ?_
      show sm _ _ _ _ 11 [(0, .ref a0), (1, .int i1), (2, .int i2)] [.int (cm_I w a0 1)] _ _
      refine sm_seg 1 14 [(0, .ref a0), (1, .int i1), (2, .int i2)] [.int (900 : Int32), .int (cm_I w a0 1)] rfl ?_
      refine sm_if (pc1 := 46) (lv1 := []) (pc2 := 17) (lv2 := [(0, .ref a0), (1, .int i1), (2, .int i2)]) (st1 := []) rfl rfl rfl (fun h3 => ?_) (fun h3 => ?_)
      · exact sm_rV rfl rfl
      · refine sm_seg 1 18 [(0, .ref a0), (1, .int i1), (2, .int i2)] [.ref a0] rfl ?_
        refine sm_gR rfl h2 rfl rfl fun r4 h5 => ?_
        show sm _ _ _ _ 21 [(0, .ref a0), (1, .int i1), (2, .int i2)] [.ref r4] _ _
        refine sm_seg 1 22 [(0, .ref a0), (1, .int i1), (2, .int i2)] [.ref a0, .ref r4] rfl ?_
        refine sm_gI rfl h2 rfl ?_
        show sm _ _ _ _ 25 [(0, .ref a0), (1, .int i1), (2, .int i2)] [.int (cm_I w a0 1), .ref r4] _ _
        refine sm_seg 4 29 [(0, .ref a0), (1, .int i1), (2, .int i2)] [.int ((Int32.toInt8 ((i1.toUInt32 >>> (i2.toUInt32 &&& Int32.toUInt32 31)).toInt32)).toInt32), .int (cm_I w a0 1), .ref r4] rfl ?_
        refine sm_gd fun h6 => ?_
        refine sm_gd fun h7 => ?_
        refine sm_sb rfl h6 h7 rfl rfl ?_
        show sm _ _ _ _ 30 [(0, .ref a0), (1, .int i1), (2, .int i2)] [] _ _
        refine sm_seg 2 32 [(0, .ref a0), (1, .int i1), (2, .int i2)] [.ref a0, .ref a0] rfl ?_
        refine sm_gI rfl h2 rfl ?_
        show sm _ _ _ _ 35 [(0, .ref a0), (1, .int i1), (2, .int i2)] [.int (cm_I (cm_sI w r4 (cm_I w a0 1).toNatClampNeg (vp_nar .byte ((Int32.toInt8 ((i1.toUInt32 >>> (i2.toUInt32 &&& Int32.toUInt32 31)).toInt32)).toInt32))) a0 1), .ref a0] _ _
        refine sm_seg 2 37 [(0, .ref a0), (1, .int i1), (2, .int i2)] [.int ((cm_I (cm_sI w r4 (cm_I w a0 1).toNatClampNeg (vp_nar .byte ((Int32.toInt8 ((i1.toUInt32 >>> (i2.toUInt32 &&& Int32.toUInt32 31)).toInt32)).toInt32))) a0 1) + (1 : Int32)), .ref a0] rfl ?_
        refine sm_gd fun h8 => ?_
        refine sm_pI rfl h2 rfl h8 rfl ?_
        show sm _ _ _ _ 40 [(0, .ref a0), (1, .int i1), (2, .int i2)] [] _ _
        refine sm_seg 2 3 [(0, .ref a0), (1, .int i1), (2, .int (i2 + (-8 : Int32)))] [] rfl ?_
        exact ih a0 i1 (i2 + (-8 : Int32)) (cm_sI (cm_sI w r4 (cm_I w a0 1).toNatClampNeg (vp_nar .byte ((Int32.toInt8 ((i1.toUInt32 >>> (i2.toUInt32 &&& Int32.toUInt32 31)).toInt32)).toInt32))) a0 1 ((cm_I (cm_sI w r4 (cm_I w a0 1).toNatClampNeg (vp_nar .byte ((Int32.toInt8 ((i1.toUInt32 >>> (i2.toUInt32 &&& Int32.toUInt32 31)).toInt32)).toInt32))) a0 1) + (1 : Int32)))
def fn_138 (a0 : Nat) (i1 : Int32) (w : cm_W) : Option cm_W := fn_138_3  cm_N a0 i1 (24 : Int32) w
theorem jt_138_0 (a0 : Nat) (i1 : Int32) (w : cm_W) : sm cm_g 138 ck_138 kq_138 0 [(0, .ref a0), (1, .int i1)] [] w ((fn_138 a0 i1 w).map cm_gV) := by
  unfold fn_138
  refine sm_seg 2 3 [(0, .ref a0), (1, .int i1), (2, .int (24 : Int32))] [] rfl ?_
  exact jt_138_3  cm_N a0 i1 (24 : Int32) w
theorem ca_138 (a0 : Nat) (i1 : Int32) (w : cm_W) : cm_ca cm_g 138 [.ref a0, .int i1] w ((fn_138 a0 i1 w).map cm_gV) := cm_ca_of (cm_me_of rfl rfl) rfl (jt_138_0 a0 i1 w)
-- NailedBoxes.feed(IIIII)I
def fn_139_15 (a0 : Nat) (i1 : Int32) (i2 : Int32) (i3 : Int32) (i4 : Int32) (i5 : Int32) (w : cm_W) : Option (Int32 × cm_W) := (if cm_sh w a0 = some (.inl 10) then (fn_138 a0 i1 w).bind fun w2 => (if cm_sh w2 a0 = some (.inl 10) then (fn_138 a0 i2 w2).bind fun w5 => (if cm_sh w5 a0 = some (.inl 10) then (fn_138 a0 i3 w5).bind fun w8 => (if cm_sh w8 a0 = some (.inl 10) then (fn_138 a0 i4 w8).bind fun w11 => (if cm_sh w11 a0 = some (.inl 10) then (fn_138 a0 i5 w11).bind fun w14 => (if cm_sh w14 a0 = some (.inl 10) then some ((cm_I w14 a0 1), w14) else none) else none) else none) else none) else none) else none)
theorem jt_139_15 (a0 : Nat) (i1 : Int32) (i2 : Int32) (i3 : Int32) (i4 : Int32) (i5 : Int32) (w : cm_W) : sm cm_g 139 ck_139 kq_139 15 [(0, .ref a0), (1, .int i1), (2, .int i2), (3, .int i3), (4, .int i4), (5, .int i5)] [] w ((fn_139_15 a0 i1 i2 i3 i4 i5 w).map cm_gI) := by
  unfold fn_139_15
  refine sm_seg 2 17 [(0, .ref a0), (1, .int i1), (2, .int i2), (3, .int i3), (4, .int i4), (5, .int i5)] [.int i1, .ref a0] rfl ?_
  refine sm_gd fun h1 => ?_
  refine sm_cV (as := [.int i1]) (rest := []) rfl rfl rfl rfl h1 (Nat.le_of_ble_eq_true rfl) (ca_138  a0 i1 w) fun w2 h3 => ?_
  show sm _ _ _ _ 20 [(0, .ref a0), (1, .int i1), (2, .int i2), (3, .int i3), (4, .int i4), (5, .int i5)] [] _ _
  refine sm_seg 2 22 [(0, .ref a0), (1, .int i1), (2, .int i2), (3, .int i3), (4, .int i4), (5, .int i5)] [.int i2, .ref a0] rfl ?_
  refine sm_gd fun h4 => ?_
  refine sm_cV (as := [.int i2]) (rest := []) rfl rfl rfl rfl h4 (Nat.le_of_ble_eq_true rfl) (ca_138  a0 i2 w2) fun w5 h6 => ?_
  show sm _ _ _ _ 25 [(0, .ref a0), (1, .int i1), (2, .int i2), (3, .int i3), (4, .int i4), (5, .int i5)] [] _ _
  refine sm_seg 2 27 [(0, .ref a0), (1, .int i1), (2, .int i2), (3, .int i3), (4, .int i4), (5, .int i5)] [.int i3, .ref a0] rfl ?_
  refine sm_gd fun h7 => ?_
  refine sm_cV (as := [.int i3]) (rest := []) rfl rfl rfl rfl h7 (Nat.le_of_ble_eq_true rfl) (ca_138  a0 i3 w5) fun w8 h9 => ?_
  show sm _ _ _ _ 30 [(0, .ref a0), (1, .int i1), (2, .int i2), (3, .int i3), (4, .int i4), (5, .int i5)] [] _ _
  refine sm_seg 2 33 [(0, .ref a0), (1, .int i1), (2, .int i2), (3, .int i3), (4, .int i4), (5, .int i5)] [.int i4, .ref a0] rfl ?_
  refine sm_gd fun h10 => ?_
  refine sm_cV (as := [.int i4]) (rest := []) rfl rfl rfl rfl h10 (Nat.le_of_ble_eq_true rfl) (ca_138  a0 i4 w8) fun w11 h12 => ?_
  show sm _ _ _ _ 36 [(0, .ref a0), (1, .int i1), (2, .int i2), (3, .int i3), (4, .int i4), (5, .int i5)] [] _ _
  refine sm_seg 2 39 [(0, .ref a0), (1, .int i1), (2, .int i2), (3, .int i3), (4, .int i4), (5, .int i5)] [.int i5, .ref a0] rfl ?_
  refine sm_gd fun h13 => ?_
  refine sm_cV (as := [.int i5]) (rest := []) rfl rfl rfl rfl h13 (Nat.le_of_ble_eq_true rfl) (ca_138  a0 i5 w11) fun w14 h15 => ?_
  show sm _ _ _ _ 42 [(0, .ref a0), (1, .int i1), (2, .int i2), (3, .int i3), (4, .int i4), (5, .int i5)] [] _ _
  refine sm_seg 1 43 [(0, .ref a0), (1, .int i1), (2, .int i2), (3, .int i3), (4, .int i4), (5, .int i5)] [.ref a0] rfl ?_
  refine sm_gd fun h16 => ?_
  refine sm_gI rfl h16 rfl ?_
  show sm _ _ _ _ 46 [(0, .ref a0), (1, .int i1), (2, .int i2), (3, .int i3), (4, .int i4), (5, .int i5)] [.int (cm_I w14 a0 1)] _ _
  exact sm_rIW rfl rfl
def fn_139 (a0 : Nat) (i1 : Int32) (i2 : Int32) (i3 : Int32) (i4 : Int32) (i5 : Int32) (w : cm_W) : Option (Int32 × cm_W) := (if cm_sh w a0 = some (.inl 10) then (if ((cm_I w a0 1) + (20 : Int32)) ≤ (900 : Int32) then fn_139_15  a0 i1 i2 i3 i4 i5 w else some ((-1 : Int32), w)) else none)
theorem jt_139_0 (a0 : Nat) (i1 : Int32) (i2 : Int32) (i3 : Int32) (i4 : Int32) (i5 : Int32) (w : cm_W) : sm cm_g 139 ck_139 kq_139 0 [(0, .ref a0), (1, .int i1), (2, .int i2), (3, .int i3), (4, .int i4), (5, .int i5)] [] w ((fn_139 a0 i1 i2 i3 i4 i5 w).map cm_gI) := by
  unfold fn_139
  refine sm_seg 1 1 [(0, .ref a0), (1, .int i1), (2, .int i2), (3, .int i3), (4, .int i4), (5, .int i5)] [.ref a0] rfl ?_
  refine sm_gd fun h17 => ?_
  refine sm_gI rfl h17 rfl ?_
  show sm _ _ _ _ 4 [(0, .ref a0), (1, .int i1), (2, .int i2), (3, .int i3), (4, .int i4), (5, .int i5)] [.int (cm_I w a0 1)] _ _
  refine sm_seg 3 10 [(0, .ref a0), (1, .int i1), (2, .int i2), (3, .int i3), (4, .int i4), (5, .int i5)] [.int (900 : Int32), .int ((cm_I w a0 1) + (20 : Int32))] rfl ?_
  refine sm_if (pc1 := 15) (lv1 := [(0, .ref a0), (1, .int i1), (2, .int i2), (3, .int i3), (4, .int i4), (5, .int i5)]) (pc2 := 13) (lv2 := [(0, .ref a0), (1, .int i1), (2, .int i2), (3, .int i3), (4, .int i4), (5, .int i5)]) (st1 := []) rfl rfl rfl (fun h18 => ?_) (fun h18 => ?_)
  · exact jt_139_15  a0 i1 i2 i3 i4 i5 w
  · refine sm_seg 1 14 [(0, .ref a0), (1, .int i1), (2, .int i2), (3, .int i3), (4, .int i4), (5, .int i5)] [.int (-1 : Int32)] rfl ?_
    exact sm_rIW rfl rfl
theorem ca_139 (a0 : Nat) (i1 : Int32) (i2 : Int32) (i3 : Int32) (i4 : Int32) (i5 : Int32) (w : cm_W) : cm_ca cm_g 139 [.ref a0, .int i1, .int i2, .int i3, .int i4, .int i5] w ((fn_139 a0 i1 i2 i3 i4 i5 w).map cm_gI) := cm_ca_of (cm_me_of rfl rfl) rfl (jt_139_0 a0 i1 i2 i3 i4 i5 w)
-- NailedBoxes.refuse(I)I
def fn_140 (a0 : Nat) (i1 : Int32) (w : cm_W) : Option (Int32 × cm_W) := (if i1 < 0 then some ((-1 : Int32), w) else (if (3 : Int32) ≤ i1 then some ((-1 : Int32), w) else (if cm_sh w a0 = some (.inl 10) then (cm_R w a0 8).bind fun r4 => (if cm_ga w .int r4 i1 = true then (if cm_w2 2 96 r4 = true then some ((-1 : Int32), (cm_sI w r4 i1.toNatClampNeg ((cm_I w r4 i1.toNatClampNeg) + (1 : Int32)))) else none) else none) else none)))
theorem jt_140_0 (a0 : Nat) (i1 : Int32) (w : cm_W) : sm cm_g 140 ck_140 kq_140 0 [(0, .ref a0), (1, .int i1)] [] w ((fn_140 a0 i1 w).map cm_gI) := by
  unfold fn_140
  refine sm_seg 1 1 [(0, .ref a0), (1, .int i1)] [.int i1] rfl ?_
  refine sm_if (pc1 := 19) (lv1 := []) (pc2 := 4) (lv2 := [(0, .ref a0), (1, .int i1)]) (st1 := []) rfl rfl rfl (fun h1 => ?_) (fun h1 => ?_)
  · refine sm_seg 1 20 [] [.int (-1 : Int32)] rfl ?_
    exact sm_rIW rfl rfl
  · refine sm_seg 2 6 [(0, .ref a0), (1, .int i1)] [.int (3 : Int32), .int i1] rfl ?_
    refine sm_if (pc1 := 19) (lv1 := []) (pc2 := 9) (lv2 := [(0, .ref a0), (1, .int i1)]) (st1 := []) rfl rfl rfl (fun h2 => ?_) (fun h2 => ?_)
    · refine sm_seg 1 20 [] [.int (-1 : Int32)] rfl ?_
      exact sm_rIW rfl rfl
    · refine sm_seg 1 10 [(0, .ref a0), (1, .int i1)] [.ref a0] rfl ?_
      refine sm_gd fun h3 => ?_
      refine sm_gR rfl h3 rfl rfl fun r4 h5 => ?_
      show sm _ _ _ _ 13 [(0, .ref a0), (1, .int i1)] [.ref r4] _ _
      refine sm_seg 2 15 [(0, .ref a0), (1, .int i1)] [.int i1, .ref r4, .int i1, .ref r4] rfl ?_
      refine sm_gd fun h6 => ?_
      refine sm_ai rfl h6 rfl ?_
      show sm _ _ _ _ 16 [(0, .ref a0), (1, .int i1)] [.int (cm_I w r4 i1.toNatClampNeg), .int i1, .ref r4] _ _
      refine sm_seg 2 18 [(0, .ref a0), (1, .int i1)] [.int ((cm_I w r4 i1.toNatClampNeg) + (1 : Int32)), .int i1, .ref r4] rfl ?_
      refine sm_gd fun h7 => ?_
      refine sm_si rfl h6 h7 rfl rfl ?_
      show sm _ _ _ _ 19 [] [] _ _
      refine sm_seg 1 20 [] [.int (-1 : Int32)] rfl ?_
      exact sm_rIW rfl rfl
theorem ca_140 (a0 : Nat) (i1 : Int32) (w : cm_W) : cm_ca cm_g 140 [.ref a0, .int i1] w ((fn_140 a0 i1 w).map cm_gI) := cm_ca_of (cm_me_of rfl rfl) rfl (jt_140_0 a0 i1 w)
-- NailedBoxes.village(I)I
def fn_141_12 (a0 : Nat) (w : cm_W) : Option (Int32 × cm_W) := (if cm_sh w a0 = some (.inl 10) then (fn_140 a0 (0 : Int32) w).bind fun v2 => some ((-2 : Int32), v2.2) else none)
theorem jt_141_12 (a0 : Nat) (w : cm_W) : sm cm_g 141 ck_141 kq_141 12 [(0, .ref a0)] [] w ((fn_141_12 a0 w).map cm_gI) := by
  unfold fn_141_12
  refine sm_seg 2 14 [(0, .ref a0)] [.int (0 : Int32), .ref a0] rfl ?_
  refine sm_gd fun h1 => ?_
  refine sm_cV (as := [.int (0 : Int32)]) (rest := []) rfl rfl rfl rfl h1 (Nat.le_of_ble_eq_true rfl) (ca_140  a0 (0 : Int32) w) fun v2 h3 => ?_
  show sm _ _ _ _ 17 [(0, .ref a0)] [.int v2.1] _ _
  refine sm_seg 2 20 [(0, .ref a0)] [.int (-2 : Int32)] rfl ?_
  exact sm_rIW rfl rfl
def fn_141_56 (a0 : Nat) (w : cm_W) : Option (Int32 × cm_W) := (if cm_sh w a0 = some (.inl 10) then (cm_R w a0 3).bind fun r5 => (cm_R w a0 2).bind fun r7 => (if cm_sh w r7 = some (.inl 4) then (cm_R w r7 8).bind fun r10 => (if cm_w2 2 96 a0 = true then (cm_R (cm_sR w a0 3 (some r10)) a0 2).bind fun r13 => (if cm_sh w r13 = some (.inl 4) then (if cm_w2 2 96 r13 = true then (cm_R (cm_sR (cm_sR w a0 3 (some r10)) r13 8 (some r5)) a0 5).bind fun r17 => (cm_R (cm_sR (cm_sR w a0 3 (some r10)) r13 8 (some r5)) a0 3).bind fun r19 => (if cm_sh w r17 = some (.inl 6) then (fn_95 r17 r19 (cm_sR (cm_sR w a0 3 (some r10)) r13 8 (some r5))).bind fun w22 => (if cm_sh w22 a0 = some (.inl 10) then (if cm_w2 2 96 a0 = true then (cm_R (cm_sI w22 a0 7 (0 : Int32)) a0 3).bind fun r26 => (if cm_sh w22 r26 = some (.inl 9) then some ((cm_I (cm_sI w22 a0 7 (0 : Int32)) r26 9), (cm_sI w22 a0 7 (0 : Int32))) else none) else none) else none) else none) else none) else none) else none) else none) else none)
theorem jt_141_56 (a0 : Nat) (w : cm_W) : sm cm_g 141 ck_141 kq_141 56 [(0, .ref a0)] [] w ((fn_141_56 a0 w).map cm_gI) := by
  unfold fn_141_56
  refine sm_seg 1 57 [(0, .ref a0)] [.ref a0] rfl ?_
  refine sm_gd fun h4 => ?_
  refine sm_gR rfl h4 rfl rfl fun r5 h6 => ?_
  show sm _ _ _ _ 60 [(0, .ref a0)] [.ref r5] _ _
  refine sm_seg 3 63 [(2, .ref r5), (0, .ref a0)] [.ref a0, .ref a0] rfl ?_
  refine sm_gR rfl h4 rfl rfl fun r7 h8 => ?_
  show sm _ _ _ _ 66 [(2, .ref r5), (0, .ref a0)] [.ref r7, .ref a0] _ _
  refine sm_gd fun h9 => ?_
  refine sm_gR rfl h9 rfl rfl fun r10 h11 => ?_
  show sm _ _ _ _ 69 [(2, .ref r5), (0, .ref a0)] [.ref r10, .ref a0] _ _
  refine sm_gd fun h12 => ?_
  refine sm_pR rfl h4 rfl h12 rfl ?_
  show sm _ _ _ _ 72 [(2, .ref r5), (0, .ref a0)] [] _ _
  refine sm_seg 1 73 [(2, .ref r5), (0, .ref a0)] [.ref a0] rfl ?_
  refine sm_gR rfl h4 rfl rfl fun r13 h14 => ?_
  show sm _ _ _ _ 76 [(2, .ref r5), (0, .ref a0)] [.ref r13] _ _
  refine sm_seg 1 77 [(2, .ref r5), (0, .ref a0)] [.ref r5, .ref r13] rfl ?_
  refine sm_gd fun h15 => ?_
  refine sm_gd fun h16 => ?_
  refine sm_pR rfl h15 rfl h16 rfl ?_
  show sm _ _ _ _ 80 [(2, .ref r5), (0, .ref a0)] [] _ _
  refine sm_seg 1 81 [(2, .ref r5), (0, .ref a0)] [.ref a0] rfl ?_
  refine sm_gR rfl h4 rfl rfl fun r17 h18 => ?_
  show sm _ _ _ _ 84 [(2, .ref r5), (0, .ref a0)] [.ref r17] _ _
  refine sm_seg 1 85 [(2, .ref r5), (0, .ref a0)] [.ref a0, .ref r17] rfl ?_
  refine sm_gR rfl h4 rfl rfl fun r19 h20 => ?_
  show sm _ _ _ _ 88 [(2, .ref r5), (0, .ref a0)] [.ref r19, .ref r17] _ _
  refine sm_gd fun h21 => ?_
  refine sm_cV (as := [.ref r19]) (rest := []) rfl rfl rfl rfl h21 (Nat.le_of_ble_eq_true rfl) (ca_95  r17 r19 (cm_sR (cm_sR w a0 3 (some r10)) r13 8 (some r5))) fun w22 h23 => ?_
  show sm _ _ _ _ 91 [(2, .ref r5), (0, .ref a0)] [] _ _
  refine sm_seg 2 93 [(2, .ref r5), (0, .ref a0)] [.int (0 : Int32), .ref a0] rfl ?_
  refine sm_gd fun h24 => ?_
  refine sm_gd fun h25 => ?_
  refine sm_pI rfl h24 rfl h25 rfl ?_
  show sm _ _ _ _ 96 [(2, .ref r5), (0, .ref a0)] [] _ _
  refine sm_seg 1 97 [(2, .ref r5), (0, .ref a0)] [.ref a0] rfl ?_
  refine sm_gR rfl h24 rfl rfl fun r26 h27 => ?_
  show sm _ _ _ _ 100 [(2, .ref r5), (0, .ref a0)] [.ref r26] _ _
  refine sm_gd fun h28 => ?_
  refine sm_gI rfl h28 rfl ?_
  show sm _ _ _ _ 103 [(2, .ref r5), (0, .ref a0)] [.int (cm_I (cm_sI w22 a0 7 (0 : Int32)) r26 9)] _ _
  exact sm_rIW rfl rfl
def fn_141_21 (a0 : Nat) (i1 : Int32) (w : cm_W) : Option (Int32 × cm_W) := (if cm_sh w a0 = some (.inl 10) then (cm_R w a0 2).bind fun r30 => (cm_R w a0 0).bind fun r32 => (if cm_sh w r30 = some (.inl 4) then (fn_86 r30 r32 i1 w).bind fun v35 => (if cm_sh v35.2 a0 = some (.inl 10) then (if cm_w2 2 96 a0 = true then (if (cm_I (cm_sI (cm_sI v35.2 a0 4 v35.1) a0 1 (0 : Int32)) a0 4) = (-1 : Int32) then fn_141_56  a0 (cm_sI (cm_sI v35.2 a0 4 v35.1) a0 1 (0 : Int32)) else (fn_140 a0 (2 : Int32) (cm_sI (cm_sI v35.2 a0 4 v35.1) a0 1 (0 : Int32))).bind fun v40 => some (v40.1, v40.2)) else none) else none) else none) else none)
theorem jt_141_21 (a0 : Nat) (i1 : Int32) (w : cm_W) : sm cm_g 141 ck_141 kq_141 21 [(0, .ref a0), (1, .int i1)] [] w ((fn_141_21 a0 i1 w).map cm_gI) := by
  unfold fn_141_21
  refine sm_seg 2 23 [(0, .ref a0), (1, .int i1)] [.ref a0, .ref a0] rfl ?_
  refine sm_gd fun h29 => ?_
  refine sm_gR rfl h29 rfl rfl fun r30 h31 => ?_
  show sm _ _ _ _ 26 [(0, .ref a0), (1, .int i1)] [.ref r30, .ref a0] _ _
  refine sm_seg 1 27 [(0, .ref a0), (1, .int i1)] [.ref a0, .ref r30, .ref a0] rfl ?_
  refine sm_gR rfl h29 rfl rfl fun r32 h33 => ?_
  show sm _ _ _ _ 30 [(0, .ref a0), (1, .int i1)] [.ref r32, .ref r30, .ref a0] _ _
  refine sm_seg 1 31 [(0, .ref a0), (1, .int i1)] [.int i1, .ref r32, .ref r30, .ref a0] rfl ?_
  refine sm_gd fun h34 => ?_
  refine sm_cV (as := [.ref r32, .int i1]) (rest := [.ref a0]) rfl rfl rfl rfl h34 (Nat.le_of_ble_eq_true rfl) (ca_86  r30 r32 i1 w) fun v35 h36 => ?_
  show sm _ _ _ _ 34 [(0, .ref a0), (1, .int i1)] [.int v35.1, .ref a0] _ _
  refine sm_gd fun h37 => ?_
  refine sm_gd fun h38 => ?_
  refine sm_pI rfl h37 rfl h38 rfl ?_
  show sm _ _ _ _ 37 [(0, .ref a0), (1, .int i1)] [] _ _
  refine sm_seg 2 39 [(0, .ref a0), (1, .int i1)] [.int (0 : Int32), .ref a0] rfl ?_
  refine sm_pI rfl h37 rfl h38 rfl ?_
  show sm _ _ _ _ 42 [(0, .ref a0), (1, .int i1)] [] _ _
  refine sm_seg 1 43 [(0, .ref a0), (1, .int i1)] [.ref a0] rfl ?_
  refine sm_gI rfl h37 rfl ?_
  show sm _ _ _ _ 46 [(0, .ref a0), (1, .int i1)] [.int (cm_I (cm_sI (cm_sI v35.2 a0 4 v35.1) a0 1 (0 : Int32)) a0 4)] _ _
  refine sm_seg 1 47 [(0, .ref a0), (1, .int i1)] [.int (-1 : Int32), .int (cm_I (cm_sI (cm_sI v35.2 a0 4 v35.1) a0 1 (0 : Int32)) a0 4)] rfl ?_
  refine sm_if (pc1 := 56) (lv1 := [(0, .ref a0)]) (pc2 := 50) (lv2 := [(0, .ref a0), (1, .int i1)]) (st1 := []) rfl rfl rfl (fun h39 => ?_) (fun h39 => ?_)
  · exact jt_141_56  a0 (cm_sI (cm_sI v35.2 a0 4 v35.1) a0 1 (0 : Int32))
  · refine sm_seg 2 52 [(0, .ref a0), (1, .int i1)] [.int (2 : Int32), .ref a0] rfl ?_
    refine sm_cV (as := [.int (2 : Int32)]) (rest := []) rfl rfl rfl rfl h37 (Nat.le_of_ble_eq_true rfl) (ca_140  a0 (2 : Int32) (cm_sI (cm_sI v35.2 a0 4 v35.1) a0 1 (0 : Int32))) fun v40 h41 => ?_
    show sm _ _ _ _ 55 [(0, .ref a0), (1, .int i1)] [.int v40.1] _ _
    exact sm_rIW rfl rfl
def fn_141 (a0 : Nat) (i1 : Int32) (w : cm_W) : Option (Int32 × cm_W) := (if i1 < 0 then fn_141_12  a0 w else (if cm_sh w a0 = some (.inl 10) then (if i1 ≤ (cm_I w a0 1) then fn_141_21  a0 i1 w else fn_141_12  a0 w) else none))
theorem jt_141_0 (a0 : Nat) (i1 : Int32) (w : cm_W) : sm cm_g 141 ck_141 kq_141 0 [(0, .ref a0), (1, .int i1)] [] w ((fn_141 a0 i1 w).map cm_gI) := by
  unfold fn_141
  refine sm_seg 1 1 [(0, .ref a0), (1, .int i1)] [.int i1] rfl ?_
  refine sm_if (pc1 := 12) (lv1 := [(0, .ref a0)]) (pc2 := 4) (lv2 := [(0, .ref a0), (1, .int i1)]) (st1 := []) rfl rfl rfl (fun h42 => ?_) (fun h42 => ?_)
  · exact jt_141_12  a0 w
  · refine sm_seg 2 6 [(0, .ref a0), (1, .int i1)] [.ref a0, .int i1] rfl ?_
    refine sm_gd fun h43 => ?_
    refine sm_gI rfl h43 rfl ?_
    show sm _ _ _ _ 9 [(0, .ref a0), (1, .int i1)] [.int (cm_I w a0 1), .int i1] _ _
    refine sm_if (pc1 := 21) (lv1 := [(0, .ref a0), (1, .int i1)]) (pc2 := 12) (lv2 := [(0, .ref a0)]) (st1 := []) rfl rfl rfl (fun h44 => ?_) (fun h44 => ?_)
    · exact jt_141_21  a0 i1 w
    · exact jt_141_12  a0 w
theorem ca_141 (a0 : Nat) (i1 : Int32) (w : cm_W) : cm_ca cm_g 141 [.ref a0, .int i1] w ((fn_141 a0 i1 w).map cm_gI) := cm_ca_of (cm_me_of rfl rfl) rfl (jt_141_0 a0 i1 w)
-- NailedBoxes.fault()I
def fn_142 (w : cm_W) (a0 : Nat) : Option Int32 := (if cm_sh w a0 = some (.inl 10) then some (cm_I w a0 4) else none)
theorem jt_142_0 (w : cm_W) (a0 : Nat) : sm cm_g 142 ck_142 kq_142 0 [(0, .ref a0)] [] w ((fn_142 w a0).map (cm_fI w)) := by
  unfold fn_142
  refine sm_seg 1 1 [(0, .ref a0)] [.ref a0] rfl ?_
  refine sm_gd fun h1 => ?_
  refine sm_gI rfl h1 rfl ?_
  show sm _ _ _ _ 4 [(0, .ref a0)] [.int (cm_I w a0 4)] _ _
  exact sm_rI rfl rfl
theorem ca_142 (w : cm_W) (a0 : Nat) : cm_ca cm_g 142 [.ref a0] w ((fn_142 w a0).map (cm_fI w)) := cm_ca_of (cm_me_of rfl rfl) rfl (jt_142_0 w a0)
-- NailedBoxes.isMonth(I)Z
def fn_143 (w : cm_W) (i0 : Int32) : Option Bool := (if i0 < 0 then some false else (if (5 : Int32) < i0 then some false else some true))
theorem jt_143_0 (w : cm_W) (i0 : Int32) : sm cm_g 143 ck_143 kq_143 0 [(0, .int i0)] [] w ((fn_143 w i0).map (cm_fB w)) := by
  unfold fn_143
  refine sm_seg 1 1 [(0, .int i0)] [.int i0] rfl ?_
  refine sm_if (pc1 := 13) (lv1 := []) (pc2 := 4) (lv2 := [(0, .int i0)]) (st1 := []) rfl rfl rfl (fun h1 => ?_) (fun h1 => ?_)
  · refine sm_seg 1 14 [] [.int (0 : Int32)] rfl ?_
    exact sm_rB (b := false) rfl rfl
  · refine sm_seg 2 6 [(0, .int i0)] [.int (5 : Int32), .int i0] rfl ?_
    refine sm_if (pc1 := 13) (lv1 := []) (pc2 := 9) (lv2 := [(0, .int i0)]) (st1 := []) rfl rfl rfl (fun h2 => ?_) (fun h2 => ?_)
    · refine sm_seg 1 14 [] [.int (0 : Int32)] rfl ?_
      exact sm_rB (b := false) rfl rfl
    · refine sm_seg 2 14 [] [.int (1 : Int32)] rfl ?_
      exact sm_rB (b := true) rfl rfl
theorem ca_143 (w : cm_W) (i0 : Int32) : cm_ca cm_g 143 [.int i0] w ((fn_143 w i0).map (cm_fB w)) := cm_ca_of (cm_me_of rfl rfl) rfl (jt_143_0 w i0)
-- NailedBoxes.thing(II)I
def fn_144_74 (w : cm_W) (a0 : Nat) (i1 : Int32) (i2 : Int32) : Option Int32 := (fn_143 w (i2 - (20 : Int32))).bind fun v1 => (if (cm_b v1) = 0 then some (-1 : Int32) else (if cm_sh w a0 = some (.inl 10) then (cm_R w a0 3).bind fun r5 => (if cm_sh w r5 = some (.inl 9) then (fn_31 w r5 i1 (i2 - (20 : Int32))).bind fun v8 => some v8 else none) else none))
theorem jt_144_74 (w : cm_W) (a0 : Nat) (i1 : Int32) (i2 : Int32) : sm cm_g 144 ck_144 kq_144 74 [(0, .ref a0), (1, .int i1), (2, .int i2)] [] w ((fn_144_74 w a0 i1 i2).map (cm_fI w)) := by
  unfold fn_144_74
  refine sm_seg 3 78 [(0, .ref a0), (1, .int i1), (2, .int i2)] [.int (i2 - (20 : Int32))] rfl ?_
  refine sm_cS (av := [.int (i2 - (20 : Int32))]) (rest := []) rfl rfl rfl rfl (Nat.le_of_ble_eq_true rfl) (ca_143 w (i2 - (20 : Int32))) fun v1 h2 => ?_
  show sm _ _ _ _ 81 [(0, .ref a0), (1, .int i1), (2, .int i2)] [.int (cm_b v1)] _ _
  refine sm_if (pc1 := 99) (lv1 := []) (pc2 := 84) (lv2 := [(0, .ref a0), (1, .int i1), (2, .int i2)]) (st1 := []) rfl rfl rfl (fun h3 => ?_) (fun h3 => ?_)
  · refine sm_seg 1 100 [] [.int (-1 : Int32)] rfl ?_
    exact sm_rI rfl rfl
  · refine sm_seg 1 85 [(0, .ref a0), (1, .int i1), (2, .int i2)] [.ref a0] rfl ?_
    refine sm_gd fun h4 => ?_
    refine sm_gR rfl h4 rfl rfl fun r5 h6 => ?_
    show sm _ _ _ _ 88 [(0, .ref a0), (1, .int i1), (2, .int i2)] [.ref r5] _ _
    refine sm_seg 4 93 [(0, .ref a0), (1, .int i1), (2, .int i2)] [.int (i2 - (20 : Int32)), .int i1, .ref r5] rfl ?_
    refine sm_gd fun h7 => ?_
    refine sm_cV (as := [.int i1, .int (i2 - (20 : Int32))]) (rest := []) rfl rfl rfl rfl h7 (Nat.le_of_ble_eq_true rfl) (ca_31 w r5 i1 (i2 - (20 : Int32))) fun v8 h9 => ?_
    show sm _ _ _ _ 96 [(0, .ref a0), (1, .int i1), (2, .int i2)] [.int v8] _ _
    refine sm_seg 1 100 [] [.int v8] rfl ?_
    exact sm_rI rfl rfl
def fn_144_51 (w : cm_W) (a0 : Nat) (i1 : Int32) (i2 : Int32) : Option Int32 := (fn_143 w (i2 - (10 : Int32))).bind fun v10 => (if (cm_b v10) = 0 then fn_144_74 w a0 i1 i2 else (if cm_sh w a0 = some (.inl 10) then (cm_R w a0 3).bind fun r14 => (if cm_sh w r14 = some (.inl 9) then (fn_6 w r14 i1 (i2 - (10 : Int32))).bind fun v17 => some v17 else none) else none))
theorem jt_144_51 (w : cm_W) (a0 : Nat) (i1 : Int32) (i2 : Int32) : sm cm_g 144 ck_144 kq_144 51 [(0, .ref a0), (1, .int i1), (2, .int i2)] [] w ((fn_144_51 w a0 i1 i2).map (cm_fI w)) := by
  unfold fn_144_51
  refine sm_seg 3 55 [(0, .ref a0), (1, .int i1), (2, .int i2)] [.int (i2 - (10 : Int32))] rfl ?_
  refine sm_cS (av := [.int (i2 - (10 : Int32))]) (rest := []) rfl rfl rfl rfl (Nat.le_of_ble_eq_true rfl) (ca_143 w (i2 - (10 : Int32))) fun v10 h11 => ?_
  show sm _ _ _ _ 58 [(0, .ref a0), (1, .int i1), (2, .int i2)] [.int (cm_b v10)] _ _
  refine sm_if (pc1 := 74) (lv1 := [(0, .ref a0), (1, .int i1), (2, .int i2)]) (pc2 := 61) (lv2 := [(0, .ref a0), (1, .int i1), (2, .int i2)]) (st1 := []) rfl rfl rfl (fun h12 => ?_) (fun h12 => ?_)
  · exact jt_144_74 w a0 i1 i2
  · refine sm_seg 1 62 [(0, .ref a0), (1, .int i1), (2, .int i2)] [.ref a0] rfl ?_
    refine sm_gd fun h13 => ?_
    refine sm_gR rfl h13 rfl rfl fun r14 h15 => ?_
    show sm _ _ _ _ 65 [(0, .ref a0), (1, .int i1), (2, .int i2)] [.ref r14] _ _
    refine sm_seg 4 70 [(0, .ref a0), (1, .int i1), (2, .int i2)] [.int (i2 - (10 : Int32)), .int i1, .ref r14] rfl ?_
    refine sm_gd fun h16 => ?_
    refine sm_cV (as := [.int i1, .int (i2 - (10 : Int32))]) (rest := []) rfl rfl rfl rfl h16 (Nat.le_of_ble_eq_true rfl) (ca_6 w r14 i1 (i2 - (10 : Int32))) fun v17 h18 => ?_
    show sm _ _ _ _ 73 [(0, .ref a0), (1, .int i1), (2, .int i2)] [.int v17] _ _
    exact sm_rI rfl rfl
def fn_144_33 (w : cm_W) (a0 : Nat) (i1 : Int32) (i2 : Int32) : Option Int32 := (if ¬ i2 = (1 : Int32) then fn_144_51 w a0 i1 i2 else (if cm_sh w a0 = some (.inl 10) then (cm_R w a0 3).bind fun r21 => (if cm_sh w r21 = some (.inl 9) then (cm_R w r21 1).bind fun r24 => (if cm_sh w r24 = some (.inl 7) then (fn_1 w r24 i1 (2 : Int32)).bind fun v27 => some v27 else none) else none) else none))
theorem jt_144_33 (w : cm_W) (a0 : Nat) (i1 : Int32) (i2 : Int32) : sm cm_g 144 ck_144 kq_144 33 [(0, .ref a0), (1, .int i1), (2, .int i2)] [] w ((fn_144_33 w a0 i1 i2).map (cm_fI w)) := by
  unfold fn_144_33
  refine sm_seg 2 35 [(0, .ref a0), (1, .int i1), (2, .int i2)] [.int (1 : Int32), .int i2] rfl ?_
  refine sm_if (pc1 := 51) (lv1 := [(0, .ref a0), (1, .int i1), (2, .int i2)]) (pc2 := 38) (lv2 := [(0, .ref a0), (1, .int i1), (2, .int i2)]) (st1 := []) rfl rfl rfl (fun h19 => ?_) (fun h19 => ?_)
  · exact jt_144_51 w a0 i1 i2
  · refine sm_seg 1 39 [(0, .ref a0), (1, .int i1), (2, .int i2)] [.ref a0] rfl ?_
    refine sm_gd fun h20 => ?_
    refine sm_gR rfl h20 rfl rfl fun r21 h22 => ?_
    show sm _ _ _ _ 42 [(0, .ref a0), (1, .int i1), (2, .int i2)] [.ref r21] _ _
    refine sm_gd fun h23 => ?_
    refine sm_gR rfl h23 rfl rfl fun r24 h25 => ?_
    show sm _ _ _ _ 45 [(0, .ref a0), (1, .int i1), (2, .int i2)] [.ref r24] _ _
    refine sm_seg 2 47 [(0, .ref a0), (1, .int i1), (2, .int i2)] [.int (2 : Int32), .int i1, .ref r24] rfl ?_
    refine sm_gd fun h26 => ?_
    refine sm_cV (as := [.int i1, .int (2 : Int32)]) (rest := []) rfl rfl rfl rfl h26 (Nat.le_of_ble_eq_true rfl) (ca_1 w r24 i1 (2 : Int32)) fun v27 h28 => ?_
    show sm _ _ _ _ 50 [(0, .ref a0), (1, .int i1), (2, .int i2)] [.int v27] _ _
    exact sm_rI rfl rfl
def fn_144_16 (w : cm_W) (a0 : Nat) (i1 : Int32) (i2 : Int32) : Option Int32 := (if ¬ i2 = 0 then fn_144_33 w a0 i1 i2 else (if cm_sh w a0 = some (.inl 10) then (cm_R w a0 3).bind fun r31 => (if cm_sh w r31 = some (.inl 9) then (cm_R w r31 1).bind fun r34 => (if cm_sh w r34 = some (.inl 7) then (fn_1 w r34 i1 (1 : Int32)).bind fun v37 => some v37 else none) else none) else none))
theorem jt_144_16 (w : cm_W) (a0 : Nat) (i1 : Int32) (i2 : Int32) : sm cm_g 144 ck_144 kq_144 16 [(0, .ref a0), (1, .int i1), (2, .int i2)] [] w ((fn_144_16 w a0 i1 i2).map (cm_fI w)) := by
  unfold fn_144_16
  refine sm_seg 1 17 [(0, .ref a0), (1, .int i1), (2, .int i2)] [.int i2] rfl ?_
  refine sm_if (pc1 := 33) (lv1 := [(0, .ref a0), (1, .int i1), (2, .int i2)]) (pc2 := 20) (lv2 := [(0, .ref a0), (1, .int i1), (2, .int i2)]) (st1 := []) rfl rfl rfl (fun h29 => ?_) (fun h29 => ?_)
  · exact jt_144_33 w a0 i1 i2
  · refine sm_seg 1 21 [(0, .ref a0), (1, .int i1), (2, .int i2)] [.ref a0] rfl ?_
    refine sm_gd fun h30 => ?_
    refine sm_gR rfl h30 rfl rfl fun r31 h32 => ?_
    show sm _ _ _ _ 24 [(0, .ref a0), (1, .int i1), (2, .int i2)] [.ref r31] _ _
    refine sm_gd fun h33 => ?_
    refine sm_gR rfl h33 rfl rfl fun r34 h35 => ?_
    show sm _ _ _ _ 27 [(0, .ref a0), (1, .int i1), (2, .int i2)] [.ref r34] _ _
    refine sm_seg 2 29 [(0, .ref a0), (1, .int i1), (2, .int i2)] [.int (1 : Int32), .int i1, .ref r34] rfl ?_
    refine sm_gd fun h36 => ?_
    refine sm_cV (as := [.int i1, .int (1 : Int32)]) (rest := []) rfl rfl rfl rfl h36 (Nat.le_of_ble_eq_true rfl) (ca_1 w r34 i1 (1 : Int32)) fun v37 h38 => ?_
    show sm _ _ _ _ 32 [(0, .ref a0), (1, .int i1), (2, .int i2)] [.int v37] _ _
    exact sm_rI rfl rfl
def fn_144 (w : cm_W) (a0 : Nat) (i1 : Int32) (i2 : Int32) : Option Int32 := (if cm_sh w a0 = some (.inl 10) then (cm_R w a0 3).bind fun r40 => (if cm_sh w r40 = some (.inl 9) then (cm_R w r40 1).bind fun r43 => (if cm_sh w r43 = some (.inl 7) then (fn_7 w r43 i1).bind fun v46 => (if ¬ (cm_b v46) = 0 then fn_144_16 w a0 i1 i2 else some (-1 : Int32)) else none) else none) else none)
theorem jt_144_0 (w : cm_W) (a0 : Nat) (i1 : Int32) (i2 : Int32) : sm cm_g 144 ck_144 kq_144 0 [(0, .ref a0), (1, .int i1), (2, .int i2)] [] w ((fn_144 w a0 i1 i2).map (cm_fI w)) := by
  unfold fn_144
  refine sm_seg 1 1 [(0, .ref a0), (1, .int i1), (2, .int i2)] [.ref a0] rfl ?_
  refine sm_gd fun h39 => ?_
  refine sm_gR rfl h39 rfl rfl fun r40 h41 => ?_
  show sm _ _ _ _ 4 [(0, .ref a0), (1, .int i1), (2, .int i2)] [.ref r40] _ _
  refine sm_gd fun h42 => ?_
  refine sm_gR rfl h42 rfl rfl fun r43 h44 => ?_
  show sm _ _ _ _ 7 [(0, .ref a0), (1, .int i1), (2, .int i2)] [.ref r43] _ _
  refine sm_seg 1 8 [(0, .ref a0), (1, .int i1), (2, .int i2)] [.int i1, .ref r43] rfl ?_
  refine sm_gd fun h45 => ?_
  refine sm_cV (as := [.int i1]) (rest := []) rfl rfl rfl rfl h45 (Nat.le_of_ble_eq_true rfl) (ca_7 w r43 i1) fun v46 h47 => ?_
  show sm _ _ _ _ 11 [(0, .ref a0), (1, .int i1), (2, .int i2)] [.int (cm_b v46)] _ _
  refine sm_if (pc1 := 16) (lv1 := [(0, .ref a0), (1, .int i1), (2, .int i2)]) (pc2 := 14) (lv2 := [(0, .ref a0), (1, .int i1), (2, .int i2)]) (st1 := []) rfl rfl rfl (fun h48 => ?_) (fun h48 => ?_)
  · exact jt_144_16 w a0 i1 i2
  · refine sm_seg 1 15 [(0, .ref a0), (1, .int i1), (2, .int i2)] [.int (-1 : Int32)] rfl ?_
    exact sm_rI rfl rfl
theorem ca_144 (w : cm_W) (a0 : Nat) (i1 : Int32) (i2 : Int32) : cm_ca cm_g 144 [.ref a0, .int i1, .int i2] w ((fn_144 w a0 i1 i2).map (cm_fI w)) := cm_ca_of (cm_me_of rfl rfl) rfl (jt_144_0 w a0 i1 i2)
-- NailedBoxes.who(II)I
def fn_145_57 (w : cm_W) (a0 : Nat) (i1 : Int32) : Option Int32 := (if cm_sh w a0 = some (.inl 10) then (cm_R w a0 5).bind fun r2 => (if cm_sh w r2 = some (.inl 6) then (fn_109 w r2 i1).bind fun v5 => some v5 else none) else none)
theorem jt_145_57 (w : cm_W) (a0 : Nat) (i1 : Int32) : sm cm_g 145 ck_145 kq_145 57 [(0, .ref a0), (1, .int i1)] [] w ((fn_145_57 w a0 i1).map (cm_fI w)) := by
  unfold fn_145_57
  refine sm_seg 1 58 [(0, .ref a0), (1, .int i1)] [.ref a0] rfl ?_
  refine sm_gd fun h1 => ?_
  refine sm_gR rfl h1 rfl rfl fun r2 h3 => ?_
  show sm _ _ _ _ 61 [(0, .ref a0), (1, .int i1)] [.ref r2] _ _
  refine sm_seg 1 62 [(0, .ref a0), (1, .int i1)] [.int i1, .ref r2] rfl ?_
  refine sm_gd fun h4 => ?_
  refine sm_cV (as := [.int i1]) (rest := []) rfl rfl rfl rfl h4 (Nat.le_of_ble_eq_true rfl) (ca_109 w r2 i1) fun v5 h6 => ?_
  show sm _ _ _ _ 65 [(0, .ref a0), (1, .int i1)] [.int v5] _ _
  exact sm_rI rfl rfl
def fn_145_66 (w : cm_W) (a0 : Nat) (i1 : Int32) : Option Int32 := (if cm_sh w a0 = some (.inl 10) then (cm_R w a0 5).bind fun r8 => (if cm_sh w r8 = some (.inl 6) then (fn_116 w r8 i1).bind fun v11 => some v11 else none) else none)
theorem jt_145_66 (w : cm_W) (a0 : Nat) (i1 : Int32) : sm cm_g 145 ck_145 kq_145 66 [(0, .ref a0), (1, .int i1)] [] w ((fn_145_66 w a0 i1).map (cm_fI w)) := by
  unfold fn_145_66
  refine sm_seg 1 67 [(0, .ref a0), (1, .int i1)] [.ref a0] rfl ?_
  refine sm_gd fun h7 => ?_
  refine sm_gR rfl h7 rfl rfl fun r8 h9 => ?_
  show sm _ _ _ _ 70 [(0, .ref a0), (1, .int i1)] [.ref r8] _ _
  refine sm_seg 1 71 [(0, .ref a0), (1, .int i1)] [.int i1, .ref r8] rfl ?_
  refine sm_gd fun h10 => ?_
  refine sm_cV (as := [.int i1]) (rest := []) rfl rfl rfl rfl h10 (Nat.le_of_ble_eq_true rfl) (ca_116 w r8 i1) fun v11 h12 => ?_
  show sm _ _ _ _ 74 [(0, .ref a0), (1, .int i1)] [.int v11] _ _
  exact sm_rI rfl rfl
def fn_145_75 (w : cm_W) (a0 : Nat) (i1 : Int32) (i2 : Int32) : Option Int32 := (if cm_sh w a0 = some (.inl 10) then (cm_R w a0 3).bind fun r14 => (if cm_sh w r14 = some (.inl 9) then (cm_R w r14 1).bind fun r17 => (if cm_sh w r17 = some (.inl 7) then (fn_7 w r17 (i2 - (10 : Int32))).bind fun v20 => (if (cm_b v20) = 0 then some (-1 : Int32) else (cm_R w a0 3).bind fun r23 => (if cm_sh w r23 = some (.inl 9) then (fn_8 w r23 i1 (i2 - (10 : Int32))).bind fun v26 => some v26 else none)) else none) else none) else none)
theorem jt_145_75 (w : cm_W) (a0 : Nat) (i1 : Int32) (i2 : Int32) : sm cm_g 145 ck_145 kq_145 75 [(0, .ref a0), (1, .int i1), (2, .int i2)] [] w ((fn_145_75 w a0 i1 i2).map (cm_fI w)) := by
  unfold fn_145_75
  refine sm_seg 1 76 [(0, .ref a0), (1, .int i1), (2, .int i2)] [.ref a0] rfl ?_
  refine sm_gd fun h13 => ?_
  refine sm_gR rfl h13 rfl rfl fun r14 h15 => ?_
  show sm _ _ _ _ 79 [(0, .ref a0), (1, .int i1), (2, .int i2)] [.ref r14] _ _
  refine sm_gd fun h16 => ?_
  refine sm_gR rfl h16 rfl rfl fun r17 h18 => ?_
  show sm _ _ _ _ 82 [(0, .ref a0), (1, .int i1), (2, .int i2)] [.ref r17] _ _
  refine sm_seg 3 86 [(0, .ref a0), (1, .int i1), (2, .int i2)] [.int (i2 - (10 : Int32)), .ref r17] rfl ?_
  refine sm_gd fun h19 => ?_
  refine sm_cV (as := [.int (i2 - (10 : Int32))]) (rest := []) rfl rfl rfl rfl h19 (Nat.le_of_ble_eq_true rfl) (ca_7 w r17 (i2 - (10 : Int32))) fun v20 h21 => ?_
  show sm _ _ _ _ 89 [(0, .ref a0), (1, .int i1), (2, .int i2)] [.int (cm_b v20)] _ _
  refine sm_if (pc1 := 107) (lv1 := []) (pc2 := 92) (lv2 := [(0, .ref a0), (1, .int i1), (2, .int i2)]) (st1 := []) rfl rfl rfl (fun h22 => ?_) (fun h22 => ?_)
  · refine sm_seg 1 108 [] [.int (-1 : Int32)] rfl ?_
    exact sm_rI rfl rfl
  · refine sm_seg 1 93 [(0, .ref a0), (1, .int i1), (2, .int i2)] [.ref a0] rfl ?_
    refine sm_gR rfl h13 rfl rfl fun r23 h24 => ?_
    show sm _ _ _ _ 96 [(0, .ref a0), (1, .int i1), (2, .int i2)] [.ref r23] _ _
    refine sm_seg 4 101 [(0, .ref a0), (1, .int i1), (2, .int i2)] [.int (i2 - (10 : Int32)), .int i1, .ref r23] rfl ?_
    refine sm_gd fun h25 => ?_
    refine sm_cV (as := [.int i1, .int (i2 - (10 : Int32))]) (rest := []) rfl rfl rfl rfl h25 (Nat.le_of_ble_eq_true rfl) (ca_8 w r23 i1 (i2 - (10 : Int32))) fun v26 h27 => ?_
    show sm _ _ _ _ 104 [(0, .ref a0), (1, .int i1), (2, .int i2)] [.int v26] _ _
    refine sm_seg 1 108 [] [.int v26] rfl ?_
    exact sm_rI rfl rfl
def fn_145_16 (w : cm_W) (a0 : Nat) (i1 : Int32) (i2 : Int32) : Option Int32 := (if i2 = (0 : Int32) then (if cm_sh w a0 = some (.inl 10) then (cm_R w a0 3).bind fun r30 => (if cm_sh w r30 = some (.inl 9) then (cm_R w r30 3).bind fun r33 => (if cm_sh w r33 = some (.inl 7) then (fn_1 w r33 i1 (0 : Int32)).bind fun v36 => some v36 else none) else none) else none) else (if i2 = (1 : Int32) then fn_145_57 w a0 i1 else (if i2 = (2 : Int32) then fn_145_66 w a0 i1 else fn_145_75 w a0 i1 i2)))
theorem jt_145_16 (w : cm_W) (a0 : Nat) (i1 : Int32) (i2 : Int32) : sm cm_g 145 ck_145 kq_145 16 [(0, .ref a0), (1, .int i1), (2, .int i2)] [] w ((fn_145_16 w a0 i1 i2).map (cm_fI w)) := by
  unfold fn_145_16
  refine sm_seg 1 17 [(0, .ref a0), (1, .int i1), (2, .int i2)] [.int i2] rfl ?_
  refine sm_br (fun h28 => ?_) (fun h28 => ?_)
  · refine sm_ts (off := (27)) (pc1 := 44) (lv1 := [(0, .ref a0), (1, .int i1), (2, .int i2)]) rfl (by rw [h28]; rfl) rfl rfl ?_
    refine sm_seg 1 45 [(0, .ref a0), (1, .int i1), (2, .int i2)] [.ref a0] rfl ?_
    refine sm_gd fun h29 => ?_
    refine sm_gR rfl h29 rfl rfl fun r30 h31 => ?_
    show sm _ _ _ _ 48 [(0, .ref a0), (1, .int i1), (2, .int i2)] [.ref r30] _ _
    refine sm_gd fun h32 => ?_
    refine sm_gR rfl h32 rfl rfl fun r33 h34 => ?_
    show sm _ _ _ _ 51 [(0, .ref a0), (1, .int i1), (2, .int i2)] [.ref r33] _ _
    refine sm_seg 2 53 [(0, .ref a0), (1, .int i1), (2, .int i2)] [.int (0 : Int32), .int i1, .ref r33] rfl ?_
    refine sm_gd fun h35 => ?_
    refine sm_cV (as := [.int i1, .int (0 : Int32)]) (rest := []) rfl rfl rfl rfl h35 (Nat.le_of_ble_eq_true rfl) (ca_1 w r33 i1 (0 : Int32)) fun v36 h37 => ?_
    show sm _ _ _ _ 56 [(0, .ref a0), (1, .int i1), (2, .int i2)] [.int v36] _ _
    exact sm_rI rfl rfl
  refine sm_br (fun h38 => ?_) (fun h38 => ?_)
  · refine sm_ts (off := (40)) (pc1 := 57) (lv1 := [(0, .ref a0), (1, .int i1)]) rfl (by rw [h38]; rfl) rfl rfl ?_
    exact jt_145_57 w a0 i1
  refine sm_br (fun h39 => ?_) (fun h39 => ?_)
  · refine sm_ts (off := (49)) (pc1 := 66) (lv1 := [(0, .ref a0), (1, .int i1)]) rfl (by rw [h39]; rfl) rfl rfl ?_
    exact jt_145_66 w a0 i1
  refine sm_ts (off := (58)) (pc1 := 75) (lv1 := [(0, .ref a0), (1, .int i1), (2, .int i2)]) rfl (cm_tsd (n := 3) rfl rfl (fun j hj => match j, hj with | 0, _ => .inr (cm_ne h28 rfl) | 1, _ => .inr (cm_ne h38 rfl) | 2, _ => .inr (cm_ne h39 rfl) | _ + 3, h => absurd h (by omega))) rfl rfl ?_
  exact jt_145_75 w a0 i1 i2
def fn_145 (w : cm_W) (a0 : Nat) (i1 : Int32) (i2 : Int32) : Option Int32 := (if cm_sh w a0 = some (.inl 10) then (cm_R w a0 3).bind fun r41 => (if cm_sh w r41 = some (.inl 9) then (cm_R w r41 3).bind fun r44 => (if cm_sh w r44 = some (.inl 7) then (fn_7 w r44 i1).bind fun v47 => (if ¬ (cm_b v47) = 0 then fn_145_16 w a0 i1 i2 else some (-1 : Int32)) else none) else none) else none)
theorem jt_145_0 (w : cm_W) (a0 : Nat) (i1 : Int32) (i2 : Int32) : sm cm_g 145 ck_145 kq_145 0 [(0, .ref a0), (1, .int i1), (2, .int i2)] [] w ((fn_145 w a0 i1 i2).map (cm_fI w)) := by
  unfold fn_145
  refine sm_seg 1 1 [(0, .ref a0), (1, .int i1), (2, .int i2)] [.ref a0] rfl ?_
  refine sm_gd fun h40 => ?_
  refine sm_gR rfl h40 rfl rfl fun r41 h42 => ?_
  show sm _ _ _ _ 4 [(0, .ref a0), (1, .int i1), (2, .int i2)] [.ref r41] _ _
  refine sm_gd fun h43 => ?_
  refine sm_gR rfl h43 rfl rfl fun r44 h45 => ?_
  show sm _ _ _ _ 7 [(0, .ref a0), (1, .int i1), (2, .int i2)] [.ref r44] _ _
  refine sm_seg 1 8 [(0, .ref a0), (1, .int i1), (2, .int i2)] [.int i1, .ref r44] rfl ?_
  refine sm_gd fun h46 => ?_
  refine sm_cV (as := [.int i1]) (rest := []) rfl rfl rfl rfl h46 (Nat.le_of_ble_eq_true rfl) (ca_7 w r44 i1) fun v47 h48 => ?_
  show sm _ _ _ _ 11 [(0, .ref a0), (1, .int i1), (2, .int i2)] [.int (cm_b v47)] _ _
  refine sm_if (pc1 := 16) (lv1 := [(0, .ref a0), (1, .int i1), (2, .int i2)]) (pc2 := 14) (lv2 := [(0, .ref a0), (1, .int i1), (2, .int i2)]) (st1 := []) rfl rfl rfl (fun h49 => ?_) (fun h49 => ?_)
  · exact jt_145_16 w a0 i1 i2
  · refine sm_seg 1 15 [(0, .ref a0), (1, .int i1), (2, .int i2)] [.int (-1 : Int32)] rfl ?_
    exact sm_rI rfl rfl
theorem ca_145 (w : cm_W) (a0 : Nat) (i1 : Int32) (i2 : Int32) : cm_ca cm_g 145 [.ref a0, .int i1, .int i2] w ((fn_145 w a0 i1 i2).map (cm_fI w)) := cm_ca_of (cm_me_of rfl rfl) rfl (jt_145_0 w a0 i1 i2)
-- NailedBoxes.isJune()Z
def fn_146 (w : cm_W) (a0 : Nat) : Option Bool := (if cm_sh w a0 = some (.inl 10) then (cm_R w a0 5).bind fun r2 => (if cm_sh w r2 = some (.inl 6) then (if (cm_I w r2 6) < (5 : Int32) then some false else some true) else none) else none)
theorem jt_146_0 (w : cm_W) (a0 : Nat) : sm cm_g 146 ck_146 kq_146 0 [(0, .ref a0)] [] w ((fn_146 w a0).map (cm_fB w)) := by
  unfold fn_146
  refine sm_seg 1 1 [(0, .ref a0)] [.ref a0] rfl ?_
  refine sm_gd fun h1 => ?_
  refine sm_gR rfl h1 rfl rfl fun r2 h3 => ?_
  show sm _ _ _ _ 4 [(0, .ref a0)] [.ref r2] _ _
  refine sm_gd fun h4 => ?_
  refine sm_gI rfl h4 rfl ?_
  show sm _ _ _ _ 7 [(0, .ref a0)] [.int (cm_I w r2 6)] _ _
  refine sm_seg 1 8 [(0, .ref a0)] [.int (5 : Int32), .int (cm_I w r2 6)] rfl ?_
  refine sm_if (pc1 := 15) (lv1 := []) (pc2 := 11) (lv2 := [(0, .ref a0)]) (st1 := []) rfl rfl rfl (fun h5 => ?_) (fun h5 => ?_)
  · refine sm_seg 1 16 [] [.int (0 : Int32)] rfl ?_
    exact sm_rB (b := false) rfl rfl
  · refine sm_seg 2 16 [] [.int (1 : Int32)] rfl ?_
    exact sm_rB (b := true) rfl rfl
theorem ca_146 (w : cm_W) (a0 : Nat) : cm_ca cm_g 146 [.ref a0] w ((fn_146 w a0).map (cm_fB w)) := cm_ca_of (cm_me_of rfl rfl) rfl (jt_146_0 w a0)
-- NailedBoxes.box(II)I
def fn_147_19 (a0 : Nat) (w : cm_W) : Option (Int32 × cm_W) := (if cm_sh w a0 = some (.inl 10) then (fn_140 a0 (0 : Int32) w).bind fun v2 => some (v2.1, v2.2) else none)
theorem jt_147_19 (a0 : Nat) (w : cm_W) : sm cm_g 147 ck_147 kq_147 19 [(0, .ref a0)] [] w ((fn_147_19 a0 w).map cm_gI) := by
  unfold fn_147_19
  refine sm_seg 2 21 [(0, .ref a0)] [.int (0 : Int32), .ref a0] rfl ?_
  refine sm_gd fun h1 => ?_
  refine sm_cV (as := [.int (0 : Int32)]) (rest := []) rfl rfl rfl rfl h1 (Nat.le_of_ble_eq_true rfl) (ca_140  a0 (0 : Int32) w) fun v2 h3 => ?_
  show sm _ _ _ _ 24 [(0, .ref a0)] [.int v2.1] _ _
  exact sm_rIW rfl rfl
def fn_147_44 (a0 : Nat) (i1 : Int32) (i2 : Int32) (w : cm_W) : Option (Int32 × cm_W) := (if cm_sh w a0 = some (.inl 10) then (cm_R w a0 5).bind fun r5 => (if cm_sh w r5 = some (.inl 6) then (fn_103 r5 i1 i2 w).bind fun v8 => some (v8.1, v8.2) else none) else none)
theorem jt_147_44 (a0 : Nat) (i1 : Int32) (i2 : Int32) (w : cm_W) : sm cm_g 147 ck_147 kq_147 44 [(0, .ref a0), (1, .int i1), (2, .int i2)] [] w ((fn_147_44 a0 i1 i2 w).map cm_gI) := by
  unfold fn_147_44
  refine sm_seg 1 45 [(0, .ref a0), (1, .int i1), (2, .int i2)] [.ref a0] rfl ?_
  refine sm_gd fun h4 => ?_
  refine sm_gR rfl h4 rfl rfl fun r5 h6 => ?_
  show sm _ _ _ _ 48 [(0, .ref a0), (1, .int i1), (2, .int i2)] [.ref r5] _ _
  refine sm_seg 2 50 [(0, .ref a0), (1, .int i1), (2, .int i2)] [.int i2, .int i1, .ref r5] rfl ?_
  refine sm_gd fun h7 => ?_
  refine sm_cV (as := [.int i1, .int i2]) (rest := []) rfl rfl rfl rfl h7 (Nat.le_of_ble_eq_true rfl) (ca_103  r5 i1 i2 w) fun v8 h9 => ?_
  show sm _ _ _ _ 53 [(0, .ref a0), (1, .int i1), (2, .int i2)] [.int v8.1] _ _
  exact sm_rIW rfl rfl
def fn_147_25 (a0 : Nat) (i1 : Int32) (i2 : Int32) (w : cm_W) : Option (Int32 × cm_W) := (if cm_sh w a0 = some (.inl 10) then (cm_R w a0 5).bind fun r11 => (if cm_sh w r11 = some (.inl 6) then (cm_R w r11 0).bind fun r14 => (if cm_sh w r14 = some (.inl 7) then (fn_64 w r14).bind fun v17 => (if (cm_b v17) = 0 then fn_147_44  a0 i1 i2 w else (fn_140 a0 (1 : Int32) w).bind fun v20 => some (v20.1, v20.2)) else none) else none) else none)
theorem jt_147_25 (a0 : Nat) (i1 : Int32) (i2 : Int32) (w : cm_W) : sm cm_g 147 ck_147 kq_147 25 [(0, .ref a0), (1, .int i1), (2, .int i2)] [] w ((fn_147_25 a0 i1 i2 w).map cm_gI) := by
  unfold fn_147_25
  refine sm_seg 1 26 [(0, .ref a0), (1, .int i1), (2, .int i2)] [.ref a0] rfl ?_
  refine sm_gd fun h10 => ?_
  refine sm_gR rfl h10 rfl rfl fun r11 h12 => ?_
  show sm _ _ _ _ 29 [(0, .ref a0), (1, .int i1), (2, .int i2)] [.ref r11] _ _
  refine sm_gd fun h13 => ?_
  refine sm_gR rfl h13 rfl rfl fun r14 h15 => ?_
  show sm _ _ _ _ 32 [(0, .ref a0), (1, .int i1), (2, .int i2)] [.ref r14] _ _
  refine sm_gd fun h16 => ?_
  refine sm_cV (as := []) (rest := []) rfl rfl rfl rfl h16 (Nat.le_of_ble_eq_true rfl) (ca_64 w r14) fun v17 h18 => ?_
  show sm _ _ _ _ 35 [(0, .ref a0), (1, .int i1), (2, .int i2)] [.int (cm_b v17)] _ _
  refine sm_if (pc1 := 44) (lv1 := [(0, .ref a0), (1, .int i1), (2, .int i2)]) (pc2 := 38) (lv2 := [(0, .ref a0), (1, .int i1), (2, .int i2)]) (st1 := []) rfl rfl rfl (fun h19 => ?_) (fun h19 => ?_)
  · exact jt_147_44  a0 i1 i2 w
  · refine sm_seg 2 40 [(0, .ref a0), (1, .int i1), (2, .int i2)] [.int (1 : Int32), .ref a0] rfl ?_
    refine sm_cV (as := [.int (1 : Int32)]) (rest := []) rfl rfl rfl rfl h10 (Nat.le_of_ble_eq_true rfl) (ca_140  a0 (1 : Int32) w) fun v20 h21 => ?_
    show sm _ _ _ _ 43 [(0, .ref a0), (1, .int i1), (2, .int i2)] [.int v20.1] _ _
    exact sm_rIW rfl rfl
def fn_147 (a0 : Nat) (i1 : Int32) (i2 : Int32) (w : cm_W) : Option (Int32 × cm_W) := (if cm_sh w a0 = some (.inl 10) then (fn_146 w a0).bind fun v23 => (if ¬ (cm_b v23) = 0 then fn_147_19  a0 w else (cm_R w a0 3).bind fun r26 => (if cm_sh w r26 = some (.inl 9) then (fn_8 w r26 i1 i2).bind fun v29 => (if ¬ v29 = 0 then fn_147_25  a0 i1 i2 w else fn_147_19  a0 w) else none)) else none)
theorem jt_147_0 (a0 : Nat) (i1 : Int32) (i2 : Int32) (w : cm_W) : sm cm_g 147 ck_147 kq_147 0 [(0, .ref a0), (1, .int i1), (2, .int i2)] [] w ((fn_147 a0 i1 i2 w).map cm_gI) := by
  unfold fn_147
  refine sm_seg 1 1 [(0, .ref a0), (1, .int i1), (2, .int i2)] [.ref a0] rfl ?_
  refine sm_gd fun h22 => ?_
  refine sm_cV (as := []) (rest := []) rfl rfl rfl rfl h22 (Nat.le_of_ble_eq_true rfl) (ca_146 w a0) fun v23 h24 => ?_
  show sm _ _ _ _ 4 [(0, .ref a0), (1, .int i1), (2, .int i2)] [.int (cm_b v23)] _ _
  refine sm_if (pc1 := 19) (lv1 := [(0, .ref a0)]) (pc2 := 7) (lv2 := [(0, .ref a0), (1, .int i1), (2, .int i2)]) (st1 := []) rfl rfl rfl (fun h25 => ?_) (fun h25 => ?_)
  · exact jt_147_19  a0 w
  · refine sm_seg 1 8 [(0, .ref a0), (1, .int i1), (2, .int i2)] [.ref a0] rfl ?_
    refine sm_gR rfl h22 rfl rfl fun r26 h27 => ?_
    show sm _ _ _ _ 11 [(0, .ref a0), (1, .int i1), (2, .int i2)] [.ref r26] _ _
    refine sm_seg 2 13 [(0, .ref a0), (1, .int i1), (2, .int i2)] [.int i2, .int i1, .ref r26] rfl ?_
    refine sm_gd fun h28 => ?_
    refine sm_cV (as := [.int i1, .int i2]) (rest := []) rfl rfl rfl rfl h28 (Nat.le_of_ble_eq_true rfl) (ca_8 w r26 i1 i2) fun v29 h30 => ?_
    show sm _ _ _ _ 16 [(0, .ref a0), (1, .int i1), (2, .int i2)] [.int v29] _ _
    refine sm_if (pc1 := 25) (lv1 := [(0, .ref a0), (1, .int i1), (2, .int i2)]) (pc2 := 19) (lv2 := [(0, .ref a0)]) (st1 := []) rfl rfl rfl (fun h31 => ?_) (fun h31 => ?_)
    · exact jt_147_25  a0 i1 i2 w
    · exact jt_147_19  a0 w
theorem ca_147 (a0 : Nat) (i1 : Int32) (i2 : Int32) (w : cm_W) : cm_ca cm_g 147 [.ref a0, .int i1, .int i2] w ((fn_147 a0 i1 i2 w).map cm_gI) := cm_ca_of (cm_me_of rfl rfl) rfl (jt_147_0 a0 i1 i2 w)
