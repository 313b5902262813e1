-- NailedBoxes$Table.get(II)I
def fn_1_28 (w : cm_W) (a0 : Nat) (i1 : Int32) (i2 : Int32) : Option Int32 := some (-1 : Int32)
theorem jt_1_28 (w : cm_W) (a0 : Nat) (i1 : Int32) (i2 : Int32) : sm cm_g 1 ck_1 kq_1 28 [(0, .ref a0), (1, .int i1), (2, .int i2)] [] w ((fn_1_28 w a0 i1 i2).map (cm_fI w)) := by
  unfold fn_1_28
  refine sm_seg 5 51 [] [.int (-1 : Int32)] rfl ?_
  exact sm_rI rfl rfl
def fn_1 (w : cm_W) (a0 : Nat) (i1 : Int32) (i2 : Int32) : Option Int32 := (if i1 < 0 then fn_1_28 w a0 i1 i2 else (if cm_sh w a0 = some (.inl 7) then (if (cm_I w a0 2) ≤ i1 then fn_1_28 w a0 i1 i2 else (if i2 < 0 then fn_1_28 w a0 i1 i2 else (if (cm_I w a0 0) ≤ i2 then fn_1_28 w a0 i1 i2 else (cm_R w a0 1).bind fun a6 => (if cm_ga w .int a6 ((i1 * (cm_I w a0 0)) + i2) = true then some (cm_I w a6 ((i1 * (cm_I w a0 0)) + i2).toNatClampNeg) else none)))) else none))
theorem jt_1_0 (w : cm_W) (a0 : Nat) (i1 : Int32) (i2 : Int32) : sm cm_g 1 ck_1 kq_1 0 [(0, .ref a0), (1, .int i1), (2, .int i2)] [] w ((fn_1 w a0 i1 i2).map (cm_fI w)) := by
  unfold fn_1
  refine sm_seg 1 1 [(0, .ref a0), (1, .int i1), (2, .int i2)] [.int i1] rfl ?_
  refine sm_if (pc1 := 28) (lv1 := [(0, .ref a0), (1, .int i1), (2, .int i2)]) (pc2 := 4) (lv2 := [(0, .ref a0), (1, .int i1), (2, .int i2)]) (st1 := []) rfl rfl rfl (fun h1 => ?_) (fun h1 => ?_)
  · exact jt_1_28 w a0 i1 i2
  · refine sm_seg 2 6 [(0, .ref a0), (1, .int i1), (2, .int i2)] [.ref a0, .int i1] rfl ?_
    refine sm_gd fun h2 => ?_
    refine sm_gI rfl h2 rfl ?_
    show sm _ _ _ _ 9 [(0, .ref a0), (1, .int i1), (2, .int i2)] [.int (cm_I w a0 2), .int i1] _ _
    refine sm_if (pc1 := 28) (lv1 := [(0, .ref a0), (1, .int i1), (2, .int i2)]) (pc2 := 12) (lv2 := [(0, .ref a0), (1, .int i1), (2, .int i2)]) (st1 := []) rfl rfl rfl (fun h3 => ?_) (fun h3 => ?_)
    · exact jt_1_28 w a0 i1 i2
    · refine sm_seg 1 13 [(0, .ref a0), (1, .int i1), (2, .int i2)] [.int i2] rfl ?_
      refine sm_if (pc1 := 28) (lv1 := [(0, .ref a0), (1, .int i1), (2, .int i2)]) (pc2 := 16) (lv2 := [(0, .ref a0), (1, .int i1), (2, .int i2)]) (st1 := []) rfl rfl rfl (fun h4 => ?_) (fun h4 => ?_)
      · exact jt_1_28 w a0 i1 i2
      · refine sm_seg 2 18 [(0, .ref a0), (1, .int i1), (2, .int i2)] [.ref a0, .int i2] rfl ?_
        refine sm_gI rfl h2 rfl ?_
        show sm _ _ _ _ 21 [(0, .ref a0), (1, .int i1), (2, .int i2)] [.int (cm_I w a0 0), .int i2] _ _
        refine sm_if (pc1 := 28) (lv1 := [(0, .ref a0), (1, .int i1), (2, .int i2)]) (pc2 := 24) (lv2 := [(0, .ref a0), (1, .int i1), (2, .int i2)]) (st1 := []) rfl rfl rfl (fun h5 => ?_) (fun h5 => ?_)
        · exact jt_1_28 w a0 i1 i2
        · refine sm_seg 6 35 [(3, .int (1 : Int32)), (0, .ref a0), (1, .int i1), (2, .int i2)] [.ref a0] rfl ?_
          refine sm_gR rfl h2 rfl rfl fun a6 h7 => ?_
          show sm _ _ _ _ 38 [(3, .int (1 : Int32)), (0, .ref a0), (1, .int i1), (2, .int i2)] [.ref a6] _ _
          refine sm_seg 2 40 [(3, .int (1 : Int32)), (0, .ref a0), (1, .int i1), (2, .int i2)] [.ref a0, .int i1, .ref a6] rfl ?_
          refine sm_gI rfl h2 rfl ?_
          show sm _ _ _ _ 43 [(3, .int (1 : Int32)), (0, .ref a0), (1, .int i1), (2, .int i2)] [.int (cm_I w a0 0), .int i1, .ref a6] _ _
          refine sm_seg 3 46 [(3, .int (1 : Int32)), (0, .ref a0), (1, .int i1), (2, .int i2)] [.int ((i1 * (cm_I w a0 0)) + i2), .ref a6] rfl ?_
          refine sm_gd fun h8 => ?_
          refine sm_ai rfl h8 rfl ?_
          show sm _ _ _ _ 47 [(3, .int (1 : Int32)), (0, .ref a0), (1, .int i1), (2, .int i2)] [.int (cm_I w a6 ((i1 * (cm_I w a0 0)) + i2).toNatClampNeg)] _ _
          refine sm_seg 1 51 [] [.int (cm_I w a6 ((i1 * (cm_I w a0 0)) + i2).toNatClampNeg)] rfl ?_
          exact sm_rI rfl rfl
theorem ca_1 (w : cm_W) (a0 : Nat) (i1 : Int32) (i2 : Int32) : cm_ca cm_g 1 [.ref a0, .int i1, .int i2] w ((fn_1 w a0 i1 i2).map (cm_fI w)) := cm_ca_of (cm_me_of rfl rfl) rfl (jt_1_0 w a0 i1 i2)
-- NailedBoxes$Village.worthOf(II)I
def fn_6 (w : cm_W) (a0 : Nat) (i1 : Int32) (i2 : Int32) : Option Int32 := (if cm_sh w a0 = some (.inl 9) then (cm_R w a0 1).bind fun a2 => (if cm_sh w a2 = some (.inl 7) then (fn_1 w a2 i1 (0 : Int32)).bind fun v5 => (cm_R w a0 1).bind fun a7 => (if cm_sh w a7 = some (.inl 7) then (fn_1 w a7 i1 (3 : Int32)).bind fun v10 => some (if (0 : Int32) < (v5 - (v10 * i2)) then (v5 - (v10 * i2)) else (0 : Int32)) else none) else none) else none)
theorem jt_6_0 (w : cm_W) (a0 : Nat) (i1 : Int32) (i2 : Int32) : sm cm_g 6 ck_6 kq_6 0 [(0, .ref a0), (1, .int i1), (2, .int i2)] [] w ((fn_6 w a0 i1 i2).map (cm_fI w)) := by
  unfold fn_6
  refine sm_seg 2 2 [(0, .ref a0), (1, .int i1), (2, .int i2)] [.ref a0, .int (0 : Int32)] rfl ?_
  refine sm_gd fun h1 => ?_
  refine sm_gR rfl h1 rfl rfl fun a2 h3 => ?_
  show sm _ _ _ _ 5 [(0, .ref a0), (1, .int i1), (2, .int i2)] [.ref a2, .int (0 : Int32)] _ _
  refine sm_seg 2 7 [(0, .ref a0), (1, .int i1), (2, .int i2)] [.int (0 : Int32), .int i1, .ref a2, .int (0 : Int32)] rfl ?_
  refine sm_gd fun h4 => ?_
  refine sm_cV (as := [.int i1, .int (0 : Int32)]) (rest := [.int (0 : Int32)]) rfl rfl rfl rfl h4 (Nat.le_of_ble_eq_true rfl) (ca_1 w a2 i1 (0 : Int32)) fun v5 h6 => ?_
  show sm _ _ _ _ 10 [(0, .ref a0), (1, .int i1), (2, .int i2)] [.int v5, .int (0 : Int32)] _ _
  refine sm_seg 1 11 [(0, .ref a0), (1, .int i1), (2, .int i2)] [.ref a0, .int v5, .int (0 : Int32)] rfl ?_
  refine sm_gR rfl h1 rfl rfl fun a7 h8 => ?_
  show sm _ _ _ _ 14 [(0, .ref a0), (1, .int i1), (2, .int i2)] [.ref a7, .int v5, .int (0 : Int32)] _ _
  refine sm_seg 2 16 [(0, .ref a0), (1, .int i1), (2, .int i2)] [.int (3 : Int32), .int i1, .ref a7, .int v5, .int (0 : Int32)] rfl ?_
  refine sm_gd fun h9 => ?_
  refine sm_cV (as := [.int i1, .int (3 : Int32)]) (rest := [.int v5, .int (0 : Int32)]) rfl rfl rfl rfl h9 (Nat.le_of_ble_eq_true rfl) (ca_1 w a7 i1 (3 : Int32)) fun v10 h11 => ?_
  show sm _ _ _ _ 19 [(0, .ref a0), (1, .int i1), (2, .int i2)] [.int v10, .int v5, .int (0 : Int32)] _ _
  refine sm_seg 3 22 [(0, .ref a0), (1, .int i1), (2, .int i2)] [.int (v5 - (v10 * i2)), .int (0 : Int32)] rfl ?_
  refine sm_at rfl rfl rfl ?_
  show sm _ _ _ _ 25 [(0, .ref a0), (1, .int i1), (2, .int i2)] [.int (if (0 : Int32) < (v5 - (v10 * i2)) then (v5 - (v10 * i2)) else (0 : Int32))] _ _
  exact sm_rI rfl rfl
theorem ca_6 (w : cm_W) (a0 : Nat) (i1 : Int32) (i2 : Int32) : cm_ca cm_g 6 [.ref a0, .int i1, .int i2] w ((fn_6 w a0 i1 i2).map (cm_fI w)) := cm_ca_of (cm_me_of rfl rfl) rfl (jt_6_0 w a0 i1 i2)
-- NailedBoxes$Table.has(I)Z
def fn_7 (w : cm_W) (a0 : Nat) (i1 : Int32) : Option Bool := (if i1 < 0 then some false else (if cm_sh w a0 = some (.inl 7) then (if (cm_I w a0 2) ≤ i1 then some false else some true) else none))
theorem jt_7_0 (w : cm_W) (a0 : Nat) (i1 : Int32) : sm cm_g 7 ck_7 kq_7 0 [(0, .ref a0), (1, .int i1)] [] w ((fn_7 w a0 i1).map (cm_fB w)) := by
  unfold fn_7
  refine sm_seg 1 1 [(0, .ref a0), (1, .int i1)] [.int i1] rfl ?_
  refine sm_if (pc1 := 16) (lv1 := []) (pc2 := 4) (lv2 := [(0, .ref a0), (1, .int i1)]) (st1 := []) rfl rfl rfl (fun h1 => ?_) (fun h1 => ?_)
  · refine sm_seg 1 17 [] [.int (0 : Int32)] rfl ?_
    exact sm_rB (b := false) rfl rfl
  · refine sm_seg 2 6 [(0, .ref a0), (1, .int i1)] [.ref a0, .int i1] rfl ?_
    refine sm_gd fun h2 => ?_
    refine sm_gI rfl h2 rfl ?_
    show sm _ _ _ _ 9 [(0, .ref a0), (1, .int i1)] [.int (cm_I w a0 2), .int i1] _ _
    refine sm_if (pc1 := 16) (lv1 := []) (pc2 := 12) (lv2 := [(0, .ref a0), (1, .int i1)]) (st1 := []) rfl rfl rfl (fun h3 => ?_) (fun h3 => ?_)
    · refine sm_seg 1 17 [] [.int (0 : Int32)] rfl ?_
      exact sm_rB (b := false) rfl rfl
    · refine sm_seg 2 17 [] [.int (1 : Int32)] rfl ?_
      exact sm_rB (b := true) rfl rfl
theorem ca_7 (w : cm_W) (a0 : Nat) (i1 : Int32) : cm_ca cm_g 7 [.ref a0, .int i1] w ((fn_7 w a0 i1).map (cm_fB w)) := cm_ca_of (cm_me_of rfl rfl) rfl (jt_7_0 w a0 i1)
-- NailedBoxes$Village.shareOf(II)I
def fn_8 (w : cm_W) (a0 : Nat) (i1 : Int32) (i2 : Int32) : Option Int32 := (if cm_sh w a0 = some (.inl 9) then (cm_R w a0 3).bind fun a2 => (if cm_sh w a2 = some (.inl 7) then (fn_7 w a2 i1).bind fun v5 => (if (cm_b v5) = 0 then some (0 : Int32) else (cm_R w a0 1).bind fun a8 => (if cm_sh w a8 = some (.inl 7) then (fn_7 w a8 i2).bind fun v11 => (if (cm_b v11) = 0 then some (0 : Int32) else (cm_R w a0 4).bind fun a14 => (if cm_ga w .int a14 ((i1 * (8 : Int32)) + i2) = true then some (cm_I w a14 ((i1 * (8 : Int32)) + i2).toNatClampNeg) else none)) else none)) else none) else none)
theorem jt_8_0 (w : cm_W) (a0 : Nat) (i1 : Int32) (i2 : Int32) : sm cm_g 8 ck_8 kq_8 0 [(0, .ref a0), (1, .int i1), (2, .int i2)] [] w ((fn_8 w a0 i1 i2).map (cm_fI w)) := by
  unfold fn_8
  refine sm_seg 1 1 [(0, .ref a0), (1, .int i1), (2, .int i2)] [.ref a0] rfl ?_
  refine sm_gd fun h1 => ?_
  refine sm_gR rfl h1 rfl rfl fun a2 h3 => ?_
  show sm _ _ _ _ 4 [(0, .ref a0), (1, .int i1), (2, .int i2)] [.ref a2] _ _
  refine sm_seg 1 5 [(0, .ref a0), (1, .int i1), (2, .int i2)] [.int i1, .ref a2] rfl ?_
  refine sm_gd fun h4 => ?_
  refine sm_cV (as := [.int i1]) (rest := []) rfl rfl rfl rfl h4 (Nat.le_of_ble_eq_true rfl) (ca_7 w a2 i1) fun v5 h6 => ?_
  show sm _ _ _ _ 8 [(0, .ref a0), (1, .int i1), (2, .int i2)] [.int (cm_b v5)] _ _
  refine sm_if (pc1 := 36) (lv1 := []) (pc2 := 11) (lv2 := [(0, .ref a0), (1, .int i1), (2, .int i2)]) (st1 := []) rfl rfl rfl (fun h7 => ?_) (fun h7 => ?_)
  · refine sm_seg 1 37 [] [.int (0 : Int32)] rfl ?_
    exact sm_rI rfl rfl
  · refine sm_seg 1 12 [(0, .ref a0), (1, .int i1), (2, .int i2)] [.ref a0] rfl ?_
    refine sm_gR rfl h1 rfl rfl fun a8 h9 => ?_
    show sm _ _ _ _ 15 [(0, .ref a0), (1, .int i1), (2, .int i2)] [.ref a8] _ _
    refine sm_seg 1 16 [(0, .ref a0), (1, .int i1), (2, .int i2)] [.int i2, .ref a8] rfl ?_
    refine sm_gd fun h10 => ?_
    refine sm_cV (as := [.int i2]) (rest := []) rfl rfl rfl rfl h10 (Nat.le_of_ble_eq_true rfl) (ca_7 w a8 i2) fun v11 h12 => ?_
    show sm _ _ _ _ 19 [(0, .ref a0), (1, .int i1), (2, .int i2)] [.int (cm_b v11)] _ _
    refine sm_if (pc1 := 36) (lv1 := []) (pc2 := 22) (lv2 := [(0, .ref a0), (1, .int i1), (2, .int i2)]) (st1 := []) rfl rfl rfl (fun h13 => ?_) (fun h13 => ?_)
    · refine sm_seg 1 37 [] [.int (0 : Int32)] rfl ?_
      exact sm_rI rfl rfl
    · refine sm_seg 1 23 [(0, .ref a0), (1, .int i1), (2, .int i2)] [.ref a0] rfl ?_
      refine sm_gR rfl h1 rfl rfl fun a14 h15 => ?_
      show sm _ _ _ _ 26 [(0, .ref a0), (1, .int i1), (2, .int i2)] [.ref a14] _ _
      refine sm_seg 5 32 [(0, .ref a0), (1, .int i1), (2, .int i2)] [.int ((i1 * (8 : Int32)) + i2), .ref a14] rfl ?_
      refine sm_gd fun h16 => ?_
      refine sm_ai rfl h16 rfl ?_
      show sm _ _ _ _ 33 [(0, .ref a0), (1, .int i1), (2, .int i2)] [.int (cm_I w a14 ((i1 * (8 : Int32)) + i2).toNatClampNeg)] _ _
      refine sm_seg 1 37 [] [.int (cm_I w a14 ((i1 * (8 : Int32)) + i2).toNatClampNeg)] rfl ?_
      exact sm_rI rfl rfl
theorem ca_8 (w : cm_W) (a0 : Nat) (i1 : Int32) (i2 : Int32) : cm_ca cm_g 8 [.ref a0, .int i1, .int i2] w ((fn_8 w a0 i1 i2).map (cm_fI w)) := cm_ca_of (cm_me_of rfl rfl) rfl (jt_8_0 w a0 i1 i2)
-- NailedBoxes$Village.allSharesOf(I)I
def fn_10 (w : cm_W) (a0 : Nat) (i1 : Int32) : Option Int32 := (if cm_sh w a0 = some (.inl 9) then (cm_R w a0 3).bind fun a2 => (if cm_sh w a2 = some (.inl 7) then (fn_7 w a2 i1).bind fun v5 => (if (cm_b v5) = 0 then some (0 : Int32) else (cm_R w a0 3).bind fun a8 => (if cm_sh w a8 = some (.inl 7) then (fn_1 w a8 i1 (2 : Int32)).bind fun v11 => some v11 else none)) else none) else none)
theorem jt_10_0 (w : cm_W) (a0 : Nat) (i1 : Int32) : sm cm_g 10 ck_10 kq_10 0 [(0, .ref a0), (1, .int i1)] [] w ((fn_10 w a0 i1).map (cm_fI w)) := by
  unfold fn_10
  refine sm_seg 1 1 [(0, .ref a0), (1, .int i1)] [.ref a0] rfl ?_
  refine sm_gd fun h1 => ?_
  refine sm_gR rfl h1 rfl rfl fun a2 h3 => ?_
  show sm _ _ _ _ 4 [(0, .ref a0), (1, .int i1)] [.ref a2] _ _
  refine sm_seg 1 5 [(0, .ref a0), (1, .int i1)] [.int i1, .ref a2] rfl ?_
  refine sm_gd fun h4 => ?_
  refine sm_cV (as := [.int i1]) (rest := []) rfl rfl rfl rfl h4 (Nat.le_of_ble_eq_true rfl) (ca_7 w a2 i1) fun v5 h6 => ?_
  show sm _ _ _ _ 8 [(0, .ref a0), (1, .int i1)] [.int (cm_b v5)] _ _
  refine sm_if (pc1 := 23) (lv1 := []) (pc2 := 11) (lv2 := [(0, .ref a0), (1, .int i1)]) (st1 := []) rfl rfl rfl (fun h7 => ?_) (fun h7 => ?_)
  · refine sm_seg 1 24 [] [.int (0 : Int32)] rfl ?_
    exact sm_rI rfl rfl
  · refine sm_seg 1 12 [(0, .ref a0), (1, .int i1)] [.ref a0] rfl ?_
    refine sm_gR rfl h1 rfl rfl fun a8 h9 => ?_
    show sm _ _ _ _ 15 [(0, .ref a0), (1, .int i1)] [.ref a8] _ _
    refine sm_seg 2 17 [(0, .ref a0), (1, .int i1)] [.int (2 : Int32), .int i1, .ref a8] rfl ?_
    refine sm_gd fun h10 => ?_
    refine sm_cV (as := [.int i1, .int (2 : Int32)]) (rest := []) rfl rfl rfl rfl h10 (Nat.le_of_ble_eq_true rfl) (ca_1 w a8 i1 (2 : Int32)) fun v11 h12 => ?_
    show sm _ _ _ _ 20 [(0, .ref a0), (1, .int i1)] [.int v11] _ _
    refine sm_seg 1 24 [] [.int v11] rfl ?_
    exact sm_rI rfl rfl
theorem ca_10 (w : cm_W) (a0 : Nat) (i1 : Int32) : cm_ca cm_g 10 [.ref a0, .int i1] w ((fn_10 w a0 i1).map (cm_fI w)) := cm_ca_of (cm_me_of rfl rfl) rfl (jt_10_0 w a0 i1)
-- NailedBoxes$State.outermostOf(I)I
def fn_16_4 (w : cm_W) : Nat → Nat → Int32 → Int32 → Option Int32
  | 0, _, _, _ => none
  | n + 1, a0, i2, i3 => (if (40 : Int32) ≤ i3 then some i2 else (if cm_sh w a0 = some (.inl 6) then (cm_R w a0 0).bind fun a3 => (if cm_sh w a3 = some (.inl 7) then (fn_1 w a3 i2 (3 : Int32)).bind fun v6 => (if v6 = (-1 : Int32) then some i2 else (cm_R w a0 0).bind fun a9 => (if cm_sh w a9 = some (.inl 7) then (fn_1 w a9 i2 (3 : Int32)).bind fun v12 => fn_16_4 w n a0 v12 (i3 + (1 : Int32)) else none)) else none) else none))
theorem jt_16_4 (w : cm_W) : ∀ (n : Nat) (a0 : Nat) (i2 : Int32) (i3 : Int32), sm cm_g 16 ck_16 kq_16 4 [(0, .ref a0), (2, .int i2), (3, .int i3)] [] w ((fn_16_4 w n a0 i2 i3).map (cm_fI w)) := by
  intro n
  induction n with
  | zero => intro a0 i2 i3; exact sm_no
  | succ n ih =>
    intro a0 i2 i3
    rw [fn_16_4]
    refine sm_seg 2 7 [(0, .ref a0), (2, .int i2), (3, .int i3)] [.int (40 : Int32), .int i3] rfl ?_
    refine sm_if (pc1 := 39) (lv1 := [(2, .int i2)]) (pc2 := 10) (lv2 := [(0, .ref a0), (2, .int i2), (3, .int i3)]) (st1 := []) rfl rfl rfl (fun h1 => ?_) (fun h1 => ?_)
    · refine sm_seg 1 40 [(2, .int i2)] [.int i2] rfl ?_
      exact sm_rI rfl rfl
    · refine sm_seg 1 11 [(0, .ref a0), (2, .int i2), (3, .int i3)] [.ref a0] rfl ?_
      refine sm_gd fun h2 => ?_
      refine sm_gR rfl h2 rfl rfl fun a3 h4 => ?_
      show sm _ _ _ _ 14 [(0, .ref a0), (2, .int i2), (3, .int i3)] [.ref a3] _ _
      refine sm_seg 2 16 [(0, .ref a0), (2, .int i2), (3, .int i3)] [.int (3 : Int32), .int i2, .ref a3] rfl ?_
      refine sm_gd fun h5 => ?_
      refine sm_cV (as := [.int i2, .int (3 : Int32)]) (rest := []) rfl rfl rfl rfl h5 (Nat.le_of_ble_eq_true rfl) (ca_1 w a3 i2 (3 : Int32)) fun v6 h7 => ?_
      show sm _ _ _ _ 19 [(0, .ref a0), (2, .int i2), (3, .int i3)] [.int v6] _ _
      refine sm_seg 1 20 [(0, .ref a0), (2, .int i2), (3, .int i3)] [.int (-1 : Int32), .int v6] rfl ?_
      refine sm_if (pc1 := 39) (lv1 := [(2, .int i2)]) (pc2 := 23) (lv2 := [(0, .ref a0), (2, .int i2), (3, .int i3)]) (st1 := []) rfl rfl rfl (fun h8 => ?_) (fun h8 => ?_)
      · refine sm_seg 1 40 [(2, .int i2)] [.int i2] rfl ?_
        exact sm_rI rfl rfl
      · refine sm_seg 1 24 [(0, .ref a0), (2, .int i2), (3, .int i3)] [.ref a0] rfl ?_
        refine sm_gR rfl h2 rfl rfl fun a9 h10 => ?_
        show sm _ _ _ _ 27 [(0, .ref a0), (2, .int i2), (3, .int i3)] [.ref a9] _ _
        refine sm_seg 2 29 [(0, .ref a0), (2, .int i2), (3, .int i3)] [.int (3 : Int32), .int i2, .ref a9] rfl ?_
        refine sm_gd fun h11 => ?_
        refine sm_cV (as := [.int i2, .int (3 : Int32)]) (rest := []) rfl rfl rfl rfl h11 (Nat.le_of_ble_eq_true rfl) (ca_1 w a9 i2 (3 : Int32)) fun v12 h13 => ?_
        show sm _ _ _ _ 32 [(0, .ref a0), (2, .int i2), (3, .int i3)] [.int v12] _ _
        refine sm_seg 3 4 [(0, .ref a0), (2, .int v12), (3, .int (i3 + (1 : Int32)))] [] rfl ?_
        exact ih a0 v12 (i3 + (1 : Int32))
def fn_16 (w : cm_W) (a0 : Nat) (i1 : Int32) : Option Int32 := fn_16_4 w cm_N a0 i1 (0 : Int32)
theorem jt_16_0 (w : cm_W) (a0 : Nat) (i1 : Int32) : sm cm_g 16 ck_16 kq_16 0 [(0, .ref a0), (1, .int i1)] [] w ((fn_16 w a0 i1).map (cm_fI w)) := by
  unfold fn_16
  refine sm_seg 4 4 [(0, .ref a0), (2, .int i1), (3, .int (0 : Int32))] [] rfl ?_
  exact jt_16_4 w cm_N a0 i1 (0 : Int32)
theorem ca_16 (w : cm_W) (a0 : Nat) (i1 : Int32) : cm_ca cm_g 16 [.ref a0, .int i1] w ((fn_16 w a0 i1).map (cm_fI w)) := cm_ca_of (cm_me_of rfl rfl) rfl (jt_16_0 w a0 i1)
-- NailedBoxes.refuse(I)I
def fn_140 (a0 : Nat) (i1 : Int32) (w : cm_W) : Option (Int32 × cm_W) := (if i1 < 0 then some ((-1 : Int32), w) else (if (3 : Int32) ≤ i1 then some ((-1 : Int32), w) else (if cm_sh w a0 = some (.inl 10) then (cm_R w a0 8).bind fun a4 => (if cm_ga w .int a4 i1 = true then (if cm_w2 2 96 a4 = true then some ((-1 : Int32), (cm_sI w a4 i1.toNatClampNeg ((cm_I w a4 i1.toNatClampNeg) + (1 : Int32)))) else none) else none) else none)))
theorem jt_140_0 (a0 : Nat) (i1 : Int32) (w : cm_W) : sm cm_g 140 ck_140 kq_140 0 [(0, .ref a0), (1, .int i1)] [] w ((fn_140 a0 i1 w).map cm_gI) := by
  unfold fn_140
  refine sm_seg 1 1 [(0, .ref a0), (1, .int i1)] [.int i1] rfl ?_
  refine sm_if (pc1 := 19) (lv1 := []) (pc2 := 4) (lv2 := [(0, .ref a0), (1, .int i1)]) (st1 := []) rfl rfl rfl (fun h1 => ?_) (fun h1 => ?_)
  · refine sm_seg 1 20 [] [.int (-1 : Int32)] rfl ?_
    exact sm_rIW rfl rfl
  · refine sm_seg 2 6 [(0, .ref a0), (1, .int i1)] [.int (3 : Int32), .int i1] rfl ?_
    refine sm_if (pc1 := 19) (lv1 := []) (pc2 := 9) (lv2 := [(0, .ref a0), (1, .int i1)]) (st1 := []) rfl rfl rfl (fun h2 => ?_) (fun h2 => ?_)
    · refine sm_seg 1 20 [] [.int (-1 : Int32)] rfl ?_
      exact sm_rIW rfl rfl
    · refine sm_seg 1 10 [(0, .ref a0), (1, .int i1)] [.ref a0] rfl ?_
      refine sm_gd fun h3 => ?_
      refine sm_gR rfl h3 rfl rfl fun a4 h5 => ?_
      show sm _ _ _ _ 13 [(0, .ref a0), (1, .int i1)] [.ref a4] _ _
      refine sm_seg 2 15 [(0, .ref a0), (1, .int i1)] [.int i1, .ref a4, .int i1, .ref a4] rfl ?_
      refine sm_gd fun h6 => ?_
      refine sm_ai rfl h6 rfl ?_
      show sm _ _ _ _ 16 [(0, .ref a0), (1, .int i1)] [.int (cm_I w a4 i1.toNatClampNeg), .int i1, .ref a4] _ _
      refine sm_seg 2 18 [(0, .ref a0), (1, .int i1)] [.int ((cm_I w a4 i1.toNatClampNeg) + (1 : Int32)), .int i1, .ref a4] rfl ?_
      refine sm_gd fun h7 => ?_
      refine sm_si rfl h6 h7 rfl rfl ?_
      show sm _ _ _ _ 19 [] [] _ _
      refine sm_seg 1 20 [] [.int (-1 : Int32)] rfl ?_
      exact sm_rIW rfl rfl
theorem ca_140 (a0 : Nat) (i1 : Int32) (w : cm_W) : cm_ca cm_g 140 [.ref a0, .int i1] w ((fn_140 a0 i1 w).map cm_gI) := cm_ca_of (cm_me_of rfl rfl) rfl (jt_140_0 a0 i1 w)
-- NailedBoxes.fault()I
def fn_142 (w : cm_W) (a0 : Nat) : Option Int32 := (if cm_sh w a0 = some (.inl 10) then some (cm_I w a0 4) else none)
theorem jt_142_0 (w : cm_W) (a0 : Nat) : sm cm_g 142 ck_142 kq_142 0 [(0, .ref a0)] [] w ((fn_142 w a0).map (cm_fI w)) := by
  unfold fn_142
  refine sm_seg 1 1 [(0, .ref a0)] [.ref a0] rfl ?_
  refine sm_gd fun h1 => ?_
  refine sm_gI rfl h1 rfl ?_
  show sm _ _ _ _ 4 [(0, .ref a0)] [.int (cm_I w a0 4)] _ _
  exact sm_rI rfl rfl
theorem ca_142 (w : cm_W) (a0 : Nat) : cm_ca cm_g 142 [.ref a0] w ((fn_142 w a0).map (cm_fI w)) := cm_ca_of (cm_me_of rfl rfl) rfl (jt_142_0 w a0)
-- NailedBoxes.deny(I)Z
def fn_148 (a0 : Nat) (i1 : Int32) (w : cm_W) : Option (Bool × cm_W) := (if cm_sh w a0 = some (.inl 10) then (fn_140 a0 i1 w).bind fun v2 => some (false, v2.2) else none)
theorem jt_148_0 (a0 : Nat) (i1 : Int32) (w : cm_W) : sm cm_g 148 ck_148 kq_148 0 [(0, .ref a0), (1, .int i1)] [] w ((fn_148 a0 i1 w).map cm_gB) := by
  unfold fn_148
  refine sm_seg 2 2 [(0, .ref a0), (1, .int i1)] [.int i1, .ref a0] rfl ?_
  refine sm_gd fun h1 => ?_
  refine sm_cV (as := [.int i1]) (rest := []) rfl rfl rfl rfl h1 (Nat.le_of_ble_eq_true rfl) (ca_140  a0 i1 w) fun v2 h3 => ?_
  show sm _ _ _ _ 5 [(0, .ref a0), (1, .int i1)] [.int v2.1] _ _
  refine sm_seg 2 7 [(0, .ref a0), (1, .int i1)] [.int (0 : Int32)] rfl ?_
  exact sm_rBW (b := false) rfl rfl
theorem ca_148 (a0 : Nat) (i1 : Int32) (w : cm_W) : cm_ca cm_g 148 [.ref a0, .int i1] w ((fn_148 a0 i1 w).map cm_gB) := cm_ca_of (cm_me_of rfl rfl) rfl (jt_148_0 a0 i1 w)
