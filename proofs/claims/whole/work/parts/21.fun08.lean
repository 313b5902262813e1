-- NailedBoxesModel.best(II)I
def fn_281_56 (k_31 : Nat → Int32 → Int32 → Int32 → Int32 → cm_W → Option (Int32 × cm_W)) (a0 : Nat) (i1 : Int32) (i2 : Int32) (i3 : Int32) (i4 : Int32) (w : cm_W) : Option (Int32 × cm_W) := k_31 a0 i1 i2 i3 (i4 + (1 : Int32)) w
theorem jt_281_56 (k_31 : Nat → Int32 → Int32 → Int32 → Int32 → cm_W → Option (Int32 × cm_W)) (hk_31 : ∀ (a0 : Nat) (i1 : Int32) (i2 : Int32) (i3 : Int32) (i4 : Int32) (w : cm_W), sm cm_g 281 ck_281 kq_281 31 [(0, .ref a0), (1, .int i1), (2, .int i2), (3, .int i3), (4, .int i4)] [] w ((k_31 a0 i1 i2 i3 i4 w).map cm_gI)) (a0 : Nat) (i1 : Int32) (i2 : Int32) (i3 : Int32) (i4 : Int32) (w : cm_W) : sm cm_g 281 ck_281 kq_281 56 [(0, .ref a0), (1, .int i1), (2, .int i2), (3, .int i3), (4, .int i4)] [] w ((fn_281_56 k_31 a0 i1 i2 i3 i4 w).map cm_gI) := by
  unfold fn_281_56
  refine sm_seg 2 31 [(0, .ref a0), (1, .int i1), (2, .int i2), (3, .int i3), (4, .int (i4 + (1 : Int32)))] [] rfl ?_
  exact hk_31 a0 i1 i2 i3 (i4 + (1 : Int32)) w
def fn_281_80 (i2 : Int32) (i3 : Int32) (i4 : Int32) (w : cm_W) : Option (Int32 × cm_W) := (if ¬ i2 = 0 then some (i4, w) else some (i3, w))
theorem jt_281_80 (i2 : Int32) (i3 : Int32) (i4 : Int32) (w : cm_W) : sm cm_g 281 ck_281 kq_281 80 [(2, .int i2), (3, .int i3), (4, .int i4)] [] w ((fn_281_80 i2 i3 i4 w).map cm_gI) := by
  unfold fn_281_80
  refine sm_seg 1 81 [(2, .int i2), (3, .int i3), (4, .int i4)] [.int i2] rfl ?_
  refine sm_if (pc1 := 88) (lv1 := [(4, .int i4)]) (pc2 := 84) (lv2 := [(2, .int i2), (3, .int i3), (4, .int i4)]) (st1 := []) rfl rfl rfl (fun h1 => ?_) (fun h1 => ?_)
  · refine sm_seg 1 90 [] [.int i4] rfl ?_
    exact sm_rIW rfl rfl
  · refine sm_seg 2 90 [] [.int i3] rfl ?_
    exact sm_rIW rfl rfl
def fn_281_62 (a0 : Nat) (i1 : Int32) (i2 : Int32) (i3 : Int32) (w : cm_W) : Option (Int32 × cm_W) := (if cm_sh w a0 = some (.inl 11) then (fn_280 a0 i1 i3 w).bind fun v3 => (if ¬ v3.1 = (-1 : Int32) then fn_281_80  i2 i3 v3.1 v3.2 else some ((-1 : Int32), v3.2)) else none)
theorem jt_281_62 (a0 : Nat) (i1 : Int32) (i2 : Int32) (i3 : Int32) (w : cm_W) : sm cm_g 281 ck_281 kq_281 62 [(0, .ref a0), (1, .int i1), (2, .int i2), (3, .int i3)] [] w ((fn_281_62 a0 i1 i2 i3 w).map cm_gI) := by
  unfold fn_281_62
  refine sm_seg 3 65 [(0, .ref a0), (1, .int i1), (2, .int i2), (3, .int i3)] [.int i3, .int i1, .ref a0] rfl ?_
  refine sm_gd fun h2 => ?_
  refine sm_cV (as := [.int i1, .int i3]) (rest := []) rfl rfl rfl rfl h2 (Nat.le_of_ble_eq_true rfl) (ca_280  a0 i1 i3 w) fun v3 h4 => ?_
  show sm _ _ _ _ 68 [(0, .ref a0), (1, .int i1), (2, .int i2), (3, .int i3)] [.int v3.1] _ _
  refine sm_seg 3 73 [(4, .int v3.1), (0, .ref a0), (1, .int i1), (2, .int i2), (3, .int i3)] [.int (-1 : Int32), .int v3.1] rfl ?_
  refine sm_if (pc1 := 80) (lv1 := [(2, .int i2), (3, .int i3), (4, .int v3.1)]) (pc2 := 76) (lv2 := [(4, .int v3.1), (0, .ref a0), (1, .int i1), (2, .int i2), (3, .int i3)]) (st1 := []) rfl rfl rfl (fun h5 => ?_) (fun h5 => ?_)
  · exact jt_281_80  i2 i3 v3.1 v3.2
  · refine sm_seg 2 90 [] [.int (-1 : Int32)] rfl ?_
    exact sm_rIW rfl rfl
def fn_281_31 : Nat → Nat → Int32 → Int32 → Int32 → Int32 → cm_W → Option (Int32 × cm_W)
  | 0, _, _, _, _, _, _ => none
  | n + 1, a0, i1, i2, i3, i4, w => (if (5 : Int32) ≤ i4 then fn_281_62  a0 i1 i2 i3 w else (if cm_sh w a0 = some (.inl 11) then (fn_280 a0 i1 i4 w).bind fun v8 => (if cm_sh v8.2 a0 = some (.inl 11) then (fn_280 a0 i1 i3 v8.2).bind fun v11 => (if v8.1 ≤ v11.1 then fn_281_56  (fn_281_31 n) a0 i1 i2 i3 i4 v11.2 else fn_281_56  (fn_281_31 n) a0 i1 i2 i4 i4 v11.2) else none) else none))
theorem jt_281_31 : ∀ (n : Nat) (a0 : Nat) (i1 : Int32) (i2 : Int32) (i3 : Int32) (i4 : Int32) (w : cm_W), sm cm_g 281 ck_281 kq_281 31 [(0, .ref a0), (1, .int i1), (2, .int i2), (3, .int i3), (4, .int i4)] [] w ((fn_281_31 n a0 i1 i2 i3 i4 w).map cm_gI) := by
  intro n
  induction n with
  | zero => intro a0 i1 i2 i3 i4 w; exact sm_no
  | succ n ih =>
    intro a0 i1 i2 i3 i4 w
    rw [fn_281_31]
    refine sm_seg 2 34 [(0, .ref a0), (1, .int i1), (2, .int i2), (3, .int i3), (4, .int i4)] [.int (5 : Int32), .int i4] rfl ?_
    refine sm_if (pc1 := 62) (lv1 := [(0, .ref a0), (1, .int i1), (2, .int i2), (3, .int i3)]) (pc2 := 37) (lv2 := [(0, .ref a0), (1, .int i1), (2, .int i2), (3, .int i3), (4, .int i4)]) (st1 := []) rfl rfl rfl (fun h6 => ?_) (fun h6 => ?_)
    · exact jt_281_62  a0 i1 i2 i3 w
    · refine sm_seg 3 41 [(0, .ref a0), (1, .int i1), (2, .int i2), (3, .int i3), (4, .int i4)] [.int i4, .int i1, .ref a0] rfl ?_
      refine sm_gd fun h7 => ?_
      refine sm_cV (as := [.int i1, .int i4]) (rest := []) rfl rfl rfl rfl h7 (Nat.le_of_ble_eq_true rfl) (ca_280  a0 i1 i4 w) fun v8 h9 => ?_
      show sm _ _ _ _ 44 [(0, .ref a0), (1, .int i1), (2, .int i2), (3, .int i3), (4, .int i4)] [.int v8.1] _ _
      refine sm_seg 3 47 [(0, .ref a0), (1, .int i1), (2, .int i2), (3, .int i3), (4, .int i4)] [.int i3, .int i1, .ref a0, .int v8.1] rfl ?_
      refine sm_gd fun h10 => ?_
      refine sm_cV (as := [.int i1, .int i3]) (rest := [.int v8.1]) rfl rfl rfl rfl h10 (Nat.le_of_ble_eq_true rfl) (ca_280  a0 i1 i3 v8.2) fun v11 h12 => ?_
      show sm _ _ _ _ 50 [(0, .ref a0), (1, .int i1), (2, .int i2), (3, .int i3), (4, .int i4)] [.int v11.1, .int v8.1] _ _
      refine sm_if (pc1 := 56) (lv1 := [(0, .ref a0), (1, .int i1), (2, .int i2), (3, .int i3), (4, .int i4)]) (pc2 := 53) (lv2 := [(0, .ref a0), (1, .int i1), (2, .int i2), (3, .int i3), (4, .int i4)]) (st1 := []) rfl rfl rfl (fun h13 => ?_) (fun h13 => ?_)
      · exact jt_281_56  (fn_281_31 n) ih a0 i1 i2 i3 i4 v11.2
      · refine sm_seg 2 56 [(0, .ref a0), (1, .int i1), (2, .int i2), (3, .int i4), (4, .int i4)] [] rfl ?_
        exact jt_281_56  (fn_281_31 n) ih a0 i1 i2 i4 i4 v11.2
def fn_281_26 (a0 : Nat) (i1 : Int32) (i2 : Int32) (w : cm_W) : Option (Int32 × cm_W) := fn_281_31  cm_N a0 i1 i2 (0 : Int32) (1 : Int32) w
theorem jt_281_26 (a0 : Nat) (i1 : Int32) (i2 : Int32) (w : cm_W) : sm cm_g 281 ck_281 kq_281 26 [(0, .ref a0), (1, .int i1), (2, .int i2)] [] w ((fn_281_26 a0 i1 i2 w).map cm_gI) := by
  unfold fn_281_26
  refine sm_seg 4 31 [(0, .ref a0), (1, .int i1), (2, .int i2), (3, .int (0 : Int32)), (4, .int (1 : Int32))] [] rfl ?_
  exact jt_281_31  cm_N a0 i1 i2 (0 : Int32) (1 : Int32) w
def fn_281 (a0 : Nat) (i1 : Int32) (i2 : Int32) (w : cm_W) : Option (Int32 × cm_W) := (if cm_sh w a0 = some (.inl 11) then (fn_225 w a0 i1).bind fun v15 => (if (cm_b v15) = 0 then some ((-1 : Int32), w) else (fn_194 w i2 (0 : Int32) (1 : Int32)).bind fun v18 => (if (cm_b v18) = 0 then some ((-1 : Int32), w) else (if ¬ (cm_I w a0 1) = 0 then fn_281_26  a0 i1 i2 w else some ((-1 : Int32), w)))) else none)
theorem jt_281_0 (a0 : Nat) (i1 : Int32) (i2 : Int32) (w : cm_W) : sm cm_g 281 ck_281 kq_281 0 [(0, .ref a0), (1, .int i1), (2, .int i2)] [] w ((fn_281 a0 i1 i2 w).map cm_gI) := by
  unfold fn_281
  refine sm_seg 2 2 [(0, .ref a0), (1, .int i1), (2, .int i2)] [.int i1, .ref a0] rfl ?_
  refine sm_gd fun h14 => ?_
  refine sm_cV (as := [.int i1]) (rest := []) rfl rfl rfl rfl h14 (Nat.le_of_ble_eq_true rfl) (ca_225 w a0 i1) fun v15 h16 => ?_
  show sm _ _ _ _ 5 [(0, .ref a0), (1, .int i1), (2, .int i2)] [.int (cm_b v15)] _ _
  refine sm_if (pc1 := 24) (lv1 := []) (pc2 := 8) (lv2 := [(0, .ref a0), (1, .int i1), (2, .int i2)]) (st1 := []) rfl rfl rfl (fun h17 => ?_) (fun h17 => ?_)
  · refine sm_seg 1 25 [] [.int (-1 : Int32)] rfl ?_
    exact sm_rIW rfl rfl
  · refine sm_seg 3 11 [(0, .ref a0), (1, .int i1), (2, .int i2)] [.int (1 : Int32), .int (0 : Int32), .int i2] rfl ?_
    refine sm_cS (av := [.int i2, .int (0 : Int32), .int (1 : Int32)]) (rest := []) rfl rfl rfl rfl (Nat.le_of_ble_eq_true rfl) (ca_194 w i2 (0 : Int32) (1 : Int32)) fun v18 h19 => ?_
    show sm _ _ _ _ 14 [(0, .ref a0), (1, .int i1), (2, .int i2)] [.int (cm_b v18)] _ _
    refine sm_if (pc1 := 24) (lv1 := []) (pc2 := 17) (lv2 := [(0, .ref a0), (1, .int i1), (2, .int i2)]) (st1 := []) rfl rfl rfl (fun h20 => ?_) (fun h20 => ?_)
    · refine sm_seg 1 25 [] [.int (-1 : Int32)] rfl ?_
      exact sm_rIW rfl rfl
    · refine sm_seg 1 18 [(0, .ref a0), (1, .int i1), (2, .int i2)] [.ref a0] rfl ?_
      refine sm_gI rfl h14 rfl ?_
      show sm _ _ _ _ 21 [(0, .ref a0), (1, .int i1), (2, .int i2)] [.int (cm_I w a0 1)] _ _
      refine sm_if (pc1 := 26) (lv1 := [(0, .ref a0), (1, .int i1), (2, .int i2)]) (pc2 := 24) (lv2 := []) (st1 := []) rfl rfl rfl (fun h21 => ?_) (fun h21 => ?_)
      · exact jt_281_26  a0 i1 i2 w
      · refine sm_seg 1 25 [] [.int (-1 : Int32)] rfl ?_
        exact sm_rIW rfl rfl
theorem ca_281 (a0 : Nat) (i1 : Int32) (i2 : Int32) (w : cm_W) : cm_ca cm_g 281 [.ref a0, .int i1, .int i2] w ((fn_281 a0 i1 i2 w).map cm_gI) := cm_ca_of (cm_me_of rfl rfl) rfl (jt_281_0 a0 i1 i2 w)
-- NailedBoxesModel.little(III)I
def fn_282_105 (w : cm_W) (a0 : Nat) (i1 : Int32) (i3 : Int32) (i4 : Int32) (i5 : Int32) : Option Int32 := (if cm_sh w a0 = some (.inl 11) then (fn_229 w a0 i1).bind fun v2 => (if ¬ v2 = 0 then (if ¬ v2 = 0 then some ((((100 : Int32) * i4) / v2) - (if (0 : Int32) < ((((100 : Int32) * i5) / v2) - ((100 : Int32) * i3)) then ((((100 : Int32) * i5) / v2) - ((100 : Int32) * i3)) else (0 : Int32))) else none) else none) else none)
theorem jt_282_105 (w : cm_W) (a0 : Nat) (i1 : Int32) (i3 : Int32) (i4 : Int32) (i5 : Int32) : sm cm_g 282 ck_282 kq_282 105 [(0, .ref a0), (1, .int i1), (3, .int i3), (4, .int i4), (5, .int i5)] [] w ((fn_282_105 w a0 i1 i3 i4 i5).map (cm_fI w)) := by
  unfold fn_282_105
  refine sm_seg 2 107 [(0, .ref a0), (1, .int i1), (3, .int i3), (4, .int i4), (5, .int i5)] [.int i1, .ref a0] rfl ?_
  refine sm_gd fun h1 => ?_
  refine sm_cV (as := [.int i1]) (rest := []) rfl rfl rfl rfl h1 (Nat.le_of_ble_eq_true rfl) (ca_229 w a0 i1) fun v2 h3 => ?_
  show sm _ _ _ _ 110 [(0, .ref a0), (1, .int i1), (3, .int i3), (4, .int i4), (5, .int i5)] [.int v2] _ _
  refine sm_seg 5 119 [(6, .int v2), (0, .ref a0), (1, .int i1), (3, .int i3), (4, .int i4), (5, .int i5)] [.int v2, .int ((100 : Int32) * i4)] rfl ?_
  refine sm_gd fun h4 => ?_
  refine sm_idiv rfl h4 rfl ?_
  show sm _ _ _ _ 120 [(6, .int v2), (0, .ref a0), (1, .int i1), (3, .int i3), (4, .int i4), (5, .int i5)] [.int (((100 : Int32) * i4) / v2)] _ _
  refine sm_seg 5 128 [(6, .int v2), (0, .ref a0), (1, .int i1), (3, .int i3), (4, .int i4), (5, .int i5)] [.int v2, .int ((100 : Int32) * i5), .int (0 : Int32), .int (((100 : Int32) * i4) / v2)] rfl ?_
  refine sm_gd fun h5 => ?_
  refine sm_idiv rfl h5 rfl ?_
  show sm _ _ _ _ 129 [(6, .int v2), (0, .ref a0), (1, .int i1), (3, .int i3), (4, .int i4), (5, .int i5)] [.int (((100 : Int32) * i5) / v2), .int (0 : Int32), .int (((100 : Int32) * i4) / v2)] _ _
  refine sm_seg 4 134 [(6, .int v2), (0, .ref a0), (1, .int i1), (3, .int i3), (4, .int i4), (5, .int i5)] [.int ((((100 : Int32) * i5) / v2) - ((100 : Int32) * i3)), .int (0 : Int32), .int (((100 : Int32) * i4) / v2)] rfl ?_
  refine sm_at rfl rfl rfl ?_
  show sm _ _ _ _ 137 [(6, .int v2), (0, .ref a0), (1, .int i1), (3, .int i3), (4, .int i4), (5, .int i5)] [.int (if (0 : Int32) < ((((100 : Int32) * i5) / v2) - ((100 : Int32) * i3)) then ((((100 : Int32) * i5) / v2) - ((100 : Int32) * i3)) else (0 : Int32)), .int (((100 : Int32) * i4) / v2)] _ _
  refine sm_seg 1 138 [(6, .int v2), (0, .ref a0), (1, .int i1), (3, .int i3), (4, .int i4), (5, .int i5)] [.int ((((100 : Int32) * i4) / v2) - (if (0 : Int32) < ((((100 : Int32) * i5) / v2) - ((100 : Int32) * i3)) then ((((100 : Int32) * i5) / v2) - ((100 : Int32) * i3)) else (0 : Int32)))] rfl ?_
  exact sm_rI rfl rfl
def fn_282_44 (w : cm_W) : Nat → Nat → Int32 → Int32 → Int32 → Int32 → Int32 → Int32 → Option Int32
  | 0, _, _, _, _, _, _, _ => none
  | n + 1, a0, i1, i2, i3, i4, i5, i6 => (if cm_sh w a0 = some (.inl 11) then (if (cm_I w a0 1) ≤ i6 then fn_282_105 w a0 i1 i3 i4 i5 else (fn_228 w a0 i1 i6).bind fun v8 => (fn_222 w a0 i6 i2).bind fun v10 => (fn_228 w a0 i1 i6).bind fun v12 => (fn_222 w a0 i6 i2).bind fun v14 => fn_282_44 w n a0 i1 i2 i3 (i4 + (v8 * (if (0 : Int32) < (v10 - i3) then (v10 - i3) else (0 : Int32)))) (i5 + (v12 * v14)) (i6 + (1 : Int32))) else none)
theorem jt_282_44 (w : cm_W) : ∀ (n : Nat) (a0 : Nat) (i1 : Int32) (i2 : Int32) (i3 : Int32) (i4 : Int32) (i5 : Int32) (i6 : Int32), sm cm_g 282 ck_282 kq_282 44 [(0, .ref a0), (1, .int i1), (2, .int i2), (3, .int i3), (4, .int i4), (5, .int i5), (6, .int i6)] [] w ((fn_282_44 w n a0 i1 i2 i3 i4 i5 i6).map (cm_fI w)) := by
  intro n
  induction n with
  | zero => intro a0 i1 i2 i3 i4 i5 i6; exact sm_no
  | succ n ih =>
    intro a0 i1 i2 i3 i4 i5 i6
    rw [fn_282_44]
    refine sm_seg 2 47 [(0, .ref a0), (1, .int i1), (2, .int i2), (3, .int i3), (4, .int i4), (5, .int i5), (6, .int i6)] [.ref a0, .int i6] rfl ?_
    refine sm_gd fun h6 => ?_
    refine sm_gI rfl h6 rfl ?_
    show sm _ _ _ _ 50 [(0, .ref a0), (1, .int i1), (2, .int i2), (3, .int i3), (4, .int i4), (5, .int i5), (6, .int i6)] [.int (cm_I w a0 1), .int i6] _ _
    refine sm_if (pc1 := 105) (lv1 := [(0, .ref a0), (1, .int i1), (3, .int i3), (4, .int i4), (5, .int i5)]) (pc2 := 53) (lv2 := [(0, .ref a0), (1, .int i1), (2, .int i2), (3, .int i3), (4, .int i4), (5, .int i5), (6, .int i6)]) (st1 := []) rfl rfl rfl (fun h7 => ?_) (fun h7 => ?_)
    · exact jt_282_105 w a0 i1 i3 i4 i5
    · refine sm_seg 4 59 [(0, .ref a0), (1, .int i1), (2, .int i2), (3, .int i3), (4, .int i4), (5, .int i5), (6, .int i6)] [.int i6, .int i1, .ref a0, .int i4] rfl ?_
      refine sm_cV (as := [.int i1, .int i6]) (rest := [.int i4]) rfl rfl rfl rfl h6 (Nat.le_of_ble_eq_true rfl) (ca_228 w a0 i1 i6) fun v8 h9 => ?_
      show sm _ _ _ _ 62 [(0, .ref a0), (1, .int i1), (2, .int i2), (3, .int i3), (4, .int i4), (5, .int i5), (6, .int i6)] [.int v8, .int i4] _ _
      refine sm_seg 4 67 [(0, .ref a0), (1, .int i1), (2, .int i2), (3, .int i3), (4, .int i4), (5, .int i5), (6, .int i6)] [.int i2, .int i6, .ref a0, .int (0 : Int32), .int v8, .int i4] rfl ?_
      refine sm_cV (as := [.int i6, .int i2]) (rest := [.int (0 : Int32), .int v8, .int i4]) rfl rfl rfl rfl h6 (Nat.le_of_ble_eq_true rfl) (ca_222 w a0 i6 i2) fun v10 h11 => ?_
      show sm _ _ _ _ 70 [(0, .ref a0), (1, .int i1), (2, .int i2), (3, .int i3), (4, .int i4), (5, .int i5), (6, .int i6)] [.int v10, .int (0 : Int32), .int v8, .int i4] _ _
      refine sm_seg 2 72 [(0, .ref a0), (1, .int i1), (2, .int i2), (3, .int i3), (4, .int i4), (5, .int i5), (6, .int i6)] [.int (v10 - i3), .int (0 : Int32), .int v8, .int i4] rfl ?_
      refine sm_at rfl rfl rfl ?_
      show sm _ _ _ _ 75 [(0, .ref a0), (1, .int i1), (2, .int i2), (3, .int i3), (4, .int i4), (5, .int i5), (6, .int i6)] [.int (if (0 : Int32) < (v10 - i3) then (v10 - i3) else (0 : Int32)), .int v8, .int i4] _ _
      refine sm_seg 7 85 [(4, .int (i4 + (v8 * (if (0 : Int32) < (v10 - i3) then (v10 - i3) else (0 : Int32))))), (0, .ref a0), (1, .int i1), (2, .int i2), (3, .int i3), (5, .int i5), (6, .int i6)] [.int i6, .int i1, .ref a0, .int i5] rfl ?_
      refine sm_cV (as := [.int i1, .int i6]) (rest := [.int i5]) rfl rfl rfl rfl h6 (Nat.le_of_ble_eq_true rfl) (ca_228 w a0 i1 i6) fun v12 h13 => ?_
      show sm _ _ _ _ 88 [(4, .int (i4 + (v8 * (if (0 : Int32) < (v10 - i3) then (v10 - i3) else (0 : Int32))))), (0, .ref a0), (1, .int i1), (2, .int i2), (3, .int i3), (5, .int i5), (6, .int i6)] [.int v12, .int i5] _ _
      refine sm_seg 3 92 [(4, .int (i4 + (v8 * (if (0 : Int32) < (v10 - i3) then (v10 - i3) else (0 : Int32))))), (0, .ref a0), (1, .int i1), (2, .int i2), (3, .int i3), (5, .int i5), (6, .int i6)] [.int i2, .int i6, .ref a0, .int v12, .int i5] rfl ?_
      refine sm_cV (as := [.int i6, .int i2]) (rest := [.int v12, .int i5]) rfl rfl rfl rfl h6 (Nat.le_of_ble_eq_true rfl) (ca_222 w a0 i6 i2) fun v14 h15 => ?_
      show sm _ _ _ _ 95 [(4, .int (i4 + (v8 * (if (0 : Int32) < (v10 - i3) then (v10 - i3) else (0 : Int32))))), (0, .ref a0), (1, .int i1), (2, .int i2), (3, .int i3), (5, .int i5), (6, .int i6)] [.int v14, .int v12, .int i5] _ _
      refine sm_seg 5 44 [(0, .ref a0), (1, .int i1), (2, .int i2), (3, .int i3), (4, .int (i4 + (v8 * (if (0 : Int32) < (v10 - i3) then (v10 - i3) else (0 : Int32))))), (5, .int (i5 + (v12 * v14))), (6, .int (i6 + (1 : Int32)))] [] rfl ?_
      exact ih a0 i1 i2 i3 (i4 + (v8 * (if (0 : Int32) < (v10 - i3) then (v10 - i3) else (0 : Int32)))) (i5 + (v12 * v14)) (i6 + (1 : Int32))
def fn_282_35 (w : cm_W) (a0 : Nat) (i1 : Int32) (i2 : Int32) (i3 : Int32) : Option Int32 := fn_282_44 w cm_N a0 i1 i2 i3 (0 : Int32) (0 : Int32) (0 : Int32)
theorem jt_282_35 (w : cm_W) (a0 : Nat) (i1 : Int32) (i2 : Int32) (i3 : Int32) : sm cm_g 282 ck_282 kq_282 35 [(0, .ref a0), (1, .int i1), (2, .int i2), (3, .int i3)] [] w ((fn_282_35 w a0 i1 i2 i3).map (cm_fI w)) := by
  unfold fn_282_35
  refine sm_seg 6 44 [(0, .ref a0), (1, .int i1), (2, .int i2), (3, .int i3), (4, .int (0 : Int32)), (5, .int (0 : Int32)), (6, .int (0 : Int32))] [] rfl ?_
  exact jt_282_44 w cm_N a0 i1 i2 i3 (0 : Int32) (0 : Int32) (0 : Int32)
def fn_282 (w : cm_W) (a0 : Nat) (i1 : Int32) (i2 : Int32) (i3 : Int32) : Option Int32 := (if cm_sh w a0 = some (.inl 11) then (fn_225 w a0 i1).bind fun v17 => (if (cm_b v17) = 0 then some (-1 : Int32) else (fn_226 w i2).bind fun v20 => (if (cm_b v20) = 0 then some (-1 : Int32) else (fn_194 w i3 (0 : Int32) (999 : Int32)).bind fun v23 => (if (cm_b v23) = 0 then some (-1 : Int32) else (if ¬ (cm_I w a0 1) = 0 then fn_282_35 w a0 i1 i2 i3 else some (-1 : Int32))))) else none)
theorem jt_282_0 (w : cm_W) (a0 : Nat) (i1 : Int32) (i2 : Int32) (i3 : Int32) : sm cm_g 282 ck_282 kq_282 0 [(0, .ref a0), (1, .int i1), (2, .int i2), (3, .int i3)] [] w ((fn_282 w a0 i1 i2 i3).map (cm_fI w)) := by
  unfold fn_282
  refine sm_seg 2 2 [(0, .ref a0), (1, .int i1), (2, .int i2), (3, .int i3)] [.int i1, .ref a0] rfl ?_
  refine sm_gd fun h16 => ?_
  refine sm_cV (as := [.int i1]) (rest := []) rfl rfl rfl rfl h16 (Nat.le_of_ble_eq_true rfl) (ca_225 w a0 i1) fun v17 h18 => ?_
  show sm _ _ _ _ 5 [(0, .ref a0), (1, .int i1), (2, .int i2), (3, .int i3)] [.int (cm_b v17)] _ _
  refine sm_if (pc1 := 33) (lv1 := []) (pc2 := 8) (lv2 := [(0, .ref a0), (1, .int i1), (2, .int i2), (3, .int i3)]) (st1 := []) rfl rfl rfl (fun h19 => ?_) (fun h19 => ?_)
  · refine sm_seg 1 34 [] [.int (-1 : Int32)] rfl ?_
    exact sm_rI rfl rfl
  · refine sm_seg 1 9 [(0, .ref a0), (1, .int i1), (2, .int i2), (3, .int i3)] [.int i2] rfl ?_
    refine sm_cS (av := [.int i2]) (rest := []) rfl rfl rfl rfl (Nat.le_of_ble_eq_true rfl) (ca_226 w i2) fun v20 h21 => ?_
    show sm _ _ _ _ 12 [(0, .ref a0), (1, .int i1), (2, .int i2), (3, .int i3)] [.int (cm_b v20)] _ _
    refine sm_if (pc1 := 33) (lv1 := []) (pc2 := 15) (lv2 := [(0, .ref a0), (1, .int i1), (2, .int i2), (3, .int i3)]) (st1 := []) rfl rfl rfl (fun h22 => ?_) (fun h22 => ?_)
    · refine sm_seg 1 34 [] [.int (-1 : Int32)] rfl ?_
      exact sm_rI rfl rfl
    · refine sm_seg 3 20 [(0, .ref a0), (1, .int i1), (2, .int i2), (3, .int i3)] [.int (999 : Int32), .int (0 : Int32), .int i3] rfl ?_
      refine sm_cS (av := [.int i3, .int (0 : Int32), .int (999 : Int32)]) (rest := []) rfl rfl rfl rfl (Nat.le_of_ble_eq_true rfl) (ca_194 w i3 (0 : Int32) (999 : Int32)) fun v23 h24 => ?_
      show sm _ _ _ _ 23 [(0, .ref a0), (1, .int i1), (2, .int i2), (3, .int i3)] [.int (cm_b v23)] _ _
      refine sm_if (pc1 := 33) (lv1 := []) (pc2 := 26) (lv2 := [(0, .ref a0), (1, .int i1), (2, .int i2), (3, .int i3)]) (st1 := []) rfl rfl rfl (fun h25 => ?_) (fun h25 => ?_)
      · refine sm_seg 1 34 [] [.int (-1 : Int32)] rfl ?_
        exact sm_rI rfl rfl
      · refine sm_seg 1 27 [(0, .ref a0), (1, .int i1), (2, .int i2), (3, .int i3)] [.ref a0] rfl ?_
        refine sm_gI rfl h16 rfl ?_
        show sm _ _ _ _ 30 [(0, .ref a0), (1, .int i1), (2, .int i2), (3, .int i3)] [.int (cm_I w a0 1)] _ _
        refine sm_if (pc1 := 35) (lv1 := [(0, .ref a0), (1, .int i1), (2, .int i2), (3, .int i3)]) (pc2 := 33) (lv2 := []) (st1 := []) rfl rfl rfl (fun h26 => ?_) (fun h26 => ?_)
        · exact jt_282_35 w a0 i1 i2 i3
        · refine sm_seg 1 34 [] [.int (-1 : Int32)] rfl ?_
          exact sm_rI rfl rfl
theorem ca_282 (w : cm_W) (a0 : Nat) (i1 : Int32) (i2 : Int32) (i3 : Int32) : cm_ca cm_g 282 [.ref a0, .int i1, .int i2, .int i3] w ((fn_282 w a0 i1 i2 i3).map (cm_fI w)) := cm_ca_of (cm_me_of rfl rfl) rfl (jt_282_0 w a0 i1 i2 i3)
-- NailedBoxesModel.weight(II)I
def fn_283_121 (w : cm_W) (k_21 : Nat → Int32 → Int32 → Int32 → Option Int32) (k_37 : Nat → Int32 → Int32 → Int32 → Int32 → Int32 → Int32 → Int32 → Option Int32) (a0 : Nat) (i1 : Int32) (i2 : Int32) (i3 : Int32) (i4 : Int32) (i5 : Int32) (i6 : Int32) (i7 : Int32) : Option Int32 := k_37 a0 i1 i2 i3 i4 i5 i6 (i7 + (1 : Int32))
theorem jt_283_121 (w : cm_W) (k_21 : Nat → Int32 → Int32 → Int32 → Option Int32) (k_37 : Nat → Int32 → Int32 → Int32 → Int32 → Int32 → Int32 → Int32 → Option Int32) (hk_21 : ∀ (a0 : Nat) (i1 : Int32) (i2 : Int32) (i3 : Int32), sm cm_g 283 ck_283 kq_283 21 [(0, .ref a0), (1, .int i1), (2, .int i2), (3, .int i3)] [] w ((k_21 a0 i1 i2 i3).map (cm_fI w))) (hk_37 : ∀ (a0 : Nat) (i1 : Int32) (i2 : Int32) (i3 : Int32) (i4 : Int32) (i5 : Int32) (i6 : Int32) (i7 : Int32), sm cm_g 283 ck_283 kq_283 37 [(0, .ref a0), (1, .int i1), (2, .int i2), (3, .int i3), (4, .int i4), (5, .int i5), (6, .int i6), (7, .int i7)] [] w ((k_37 a0 i1 i2 i3 i4 i5 i6 i7).map (cm_fI w))) (a0 : Nat) (i1 : Int32) (i2 : Int32) (i3 : Int32) (i4 : Int32) (i5 : Int32) (i6 : Int32) (i7 : Int32) : sm cm_g 283 ck_283 kq_283 121 [(0, .ref a0), (1, .int i1), (2, .int i2), (3, .int i3), (4, .int i4), (5, .int i5), (6, .int i6), (7, .int i7)] [] w ((fn_283_121 w k_21 k_37 a0 i1 i2 i3 i4 i5 i6 i7).map (cm_fI w)) := by
  unfold fn_283_121
  refine sm_seg 2 37 [(0, .ref a0), (1, .int i1), (2, .int i2), (3, .int i3), (4, .int i4), (5, .int i5), (6, .int i6), (7, .int (i7 + (1 : Int32)))] [] rfl ?_
  exact hk_37 a0 i1 i2 i3 i4 i5 i6 (i7 + (1 : Int32))
def fn_283_78 (w : cm_W) (k_21 : Nat → Int32 → Int32 → Int32 → Option Int32) (k_37 : Nat → Int32 → Int32 → Int32 → Int32 → Int32 → Int32 → Int32 → Option Int32) (a0 : Nat) (i1 : Int32) (i2 : Int32) (i3 : Int32) (i4 : Int32) (i5 : Int32) (i7 : Int32) : Option Int32 := (if cm_sh w a0 = some (.inl 11) then (fn_228 w a0 i1 i7).bind fun v2 => (fn_222 w a0 i7 i2).bind fun v4 => (fn_228 w a0 i1 i7).bind fun v6 => (cm_R w a0 23).bind fun r8 => (if cm_ga w .int r8 i7 = true then fn_283_121 w k_21 k_37 a0 i1 i2 i3 (i4 + (v2 * v4)) (i5 + (v6 * (cm_I w r8 i7.toNatClampNeg))) (1 : Int32) i7 else none) else none)
theorem jt_283_78 (w : cm_W) (k_21 : Nat → Int32 → Int32 → Int32 → Option Int32) (k_37 : Nat → Int32 → Int32 → Int32 → Int32 → Int32 → Int32 → Int32 → Option Int32) (hk_21 : ∀ (a0 : Nat) (i1 : Int32) (i2 : Int32) (i3 : Int32), sm cm_g 283 ck_283 kq_283 21 [(0, .ref a0), (1, .int i1), (2, .int i2), (3, .int i3)] [] w ((k_21 a0 i1 i2 i3).map (cm_fI w))) (hk_37 : ∀ (a0 : Nat) (i1 : Int32) (i2 : Int32) (i3 : Int32) (i4 : Int32) (i5 : Int32) (i6 : Int32) (i7 : Int32), sm cm_g 283 ck_283 kq_283 37 [(0, .ref a0), (1, .int i1), (2, .int i2), (3, .int i3), (4, .int i4), (5, .int i5), (6, .int i6), (7, .int i7)] [] w ((k_37 a0 i1 i2 i3 i4 i5 i6 i7).map (cm_fI w))) (a0 : Nat) (i1 : Int32) (i2 : Int32) (i3 : Int32) (i4 : Int32) (i5 : Int32) (i7 : Int32) : sm cm_g 283 ck_283 kq_283 78 [(0, .ref a0), (1, .int i1), (2, .int i2), (3, .int i3), (4, .int i4), (5, .int i5), (7, .int i7)] [] w ((fn_283_78 w k_21 k_37 a0 i1 i2 i3 i4 i5 i7).map (cm_fI w)) := by
  unfold fn_283_78
  refine sm_seg 6 87 [(6, .int (1 : Int32)), (0, .ref a0), (1, .int i1), (2, .int i2), (3, .int i3), (4, .int i4), (5, .int i5), (7, .int i7)] [.int i7, .int i1, .ref a0, .int i4] rfl ?_
  refine sm_gd fun h1 => ?_
  refine sm_cV (as := [.int i1, .int i7]) (rest := [.int i4]) rfl rfl rfl rfl h1 (Nat.le_of_ble_eq_true rfl) (ca_228 w a0 i1 i7) fun v2 h3 => ?_
  show sm _ _ _ _ 90 [(6, .int (1 : Int32)), (0, .ref a0), (1, .int i1), (2, .int i2), (3, .int i3), (4, .int i4), (5, .int i5), (7, .int i7)] [.int v2, .int i4] _ _
  refine sm_seg 3 94 [(6, .int (1 : Int32)), (0, .ref a0), (1, .int i1), (2, .int i2), (3, .int i3), (4, .int i4), (5, .int i5), (7, .int i7)] [.int i2, .int i7, .ref a0, .int v2, .int i4] rfl ?_
  refine sm_cV (as := [.int i7, .int i2]) (rest := [.int v2, .int i4]) rfl rfl rfl rfl h1 (Nat.le_of_ble_eq_true rfl) (ca_222 w a0 i7 i2) fun v4 h5 => ?_
  show sm _ _ _ _ 97 [(6, .int (1 : Int32)), (0, .ref a0), (1, .int i1), (2, .int i2), (3, .int i3), (4, .int i4), (5, .int i5), (7, .int i7)] [.int v4, .int v2, .int i4] _ _
  refine sm_seg 7 107 [(4, .int (i4 + (v2 * v4))), (6, .int (1 : Int32)), (0, .ref a0), (1, .int i1), (2, .int i2), (3, .int i3), (5, .int i5), (7, .int i7)] [.int i7, .int i1, .ref a0, .int i5] rfl ?_
  refine sm_cV (as := [.int i1, .int i7]) (rest := [.int i5]) rfl rfl rfl rfl h1 (Nat.le_of_ble_eq_true rfl) (ca_228 w a0 i1 i7) fun v6 h7 => ?_
  show sm _ _ _ _ 110 [(4, .int (i4 + (v2 * v4))), (6, .int (1 : Int32)), (0, .ref a0), (1, .int i1), (2, .int i2), (3, .int i3), (5, .int i5), (7, .int i7)] [.int v6, .int i5] _ _
  refine sm_seg 1 111 [(4, .int (i4 + (v2 * v4))), (6, .int (1 : Int32)), (0, .ref a0), (1, .int i1), (2, .int i2), (3, .int i3), (5, .int i5), (7, .int i7)] [.ref a0, .int v6, .int i5] rfl ?_
  refine sm_gR rfl h1 rfl rfl fun r8 h9 => ?_
  show sm _ _ _ _ 114 [(4, .int (i4 + (v2 * v4))), (6, .int (1 : Int32)), (0, .ref a0), (1, .int i1), (2, .int i2), (3, .int i3), (5, .int i5), (7, .int i7)] [.ref r8, .int v6, .int i5] _ _
  refine sm_seg 1 116 [(4, .int (i4 + (v2 * v4))), (6, .int (1 : Int32)), (0, .ref a0), (1, .int i1), (2, .int i2), (3, .int i3), (5, .int i5), (7, .int i7)] [.int i7, .ref r8, .int v6, .int i5] rfl ?_
  refine sm_gd fun h10 => ?_
  refine sm_ai rfl h10 rfl ?_
  show sm _ _ _ _ 117 [(4, .int (i4 + (v2 * v4))), (6, .int (1 : Int32)), (0, .ref a0), (1, .int i1), (2, .int i2), (3, .int i3), (5, .int i5), (7, .int i7)] [.int (cm_I w r8 i7.toNatClampNeg), .int v6, .int i5] _ _
  refine sm_seg 3 121 [(0, .ref a0), (1, .int i1), (2, .int i2), (3, .int i3), (4, .int (i4 + (v2 * v4))), (5, .int (i5 + (v6 * (cm_I w r8 i7.toNatClampNeg)))), (6, .int (1 : Int32)), (7, .int i7)] [] rfl ?_
  exact jt_283_121 w k_21 k_37 hk_21 hk_37 a0 i1 i2 i3 (i4 + (v2 * v4)) (i5 + (v6 * (cm_I w r8 i7.toNatClampNeg))) (1 : Int32) i7
def fn_283_143 (w : cm_W) (k_21 : Nat → Int32 → Int32 → Int32 → Option Int32) (a0 : Nat) (i1 : Int32) (i2 : Int32) (i3 : Int32) : Option Int32 := k_21 a0 i1 i2 (i3 + (-1 : Int32))
theorem jt_283_143 (w : cm_W) (k_21 : Nat → Int32 → Int32 → Int32 → Option Int32) (hk_21 : ∀ (a0 : Nat) (i1 : Int32) (i2 : Int32) (i3 : Int32), sm cm_g 283 ck_283 kq_283 21 [(0, .ref a0), (1, .int i1), (2, .int i2), (3, .int i3)] [] w ((k_21 a0 i1 i2 i3).map (cm_fI w))) (a0 : Nat) (i1 : Int32) (i2 : Int32) (i3 : Int32) : sm cm_g 283 ck_283 kq_283 143 [(0, .ref a0), (1, .int i1), (2, .int i2), (3, .int i3)] [] w ((fn_283_143 w k_21 a0 i1 i2 i3).map (cm_fI w)) := by
  unfold fn_283_143
  refine sm_seg 2 21 [(0, .ref a0), (1, .int i1), (2, .int i2), (3, .int (i3 + (-1 : Int32)))] [] rfl ?_
  exact hk_21 a0 i1 i2 (i3 + (-1 : Int32))
def fn_283_127 (w : cm_W) (k_21 : Nat → Int32 → Int32 → Int32 → Option Int32) (a0 : Nat) (i1 : Int32) (i2 : Int32) (i3 : Int32) (i4 : Int32) (i5 : Int32) (i6 : Int32) : Option Int32 := (if i6 = 0 then fn_283_143 w k_21 a0 i1 i2 i3 else (if i4 < (i3 * i5) then fn_283_143 w k_21 a0 i1 i2 i3 else some i3))
theorem jt_283_127 (w : cm_W) (k_21 : Nat → Int32 → Int32 → Int32 → Option Int32) (hk_21 : ∀ (a0 : Nat) (i1 : Int32) (i2 : Int32) (i3 : Int32), sm cm_g 283 ck_283 kq_283 21 [(0, .ref a0), (1, .int i1), (2, .int i2), (3, .int i3)] [] w ((k_21 a0 i1 i2 i3).map (cm_fI w))) (a0 : Nat) (i1 : Int32) (i2 : Int32) (i3 : Int32) (i4 : Int32) (i5 : Int32) (i6 : Int32) : sm cm_g 283 ck_283 kq_283 127 [(0, .ref a0), (1, .int i1), (2, .int i2), (3, .int i3), (4, .int i4), (5, .int i5), (6, .int i6)] [] w ((fn_283_127 w k_21 a0 i1 i2 i3 i4 i5 i6).map (cm_fI w)) := by
  unfold fn_283_127
  refine sm_seg 1 129 [(0, .ref a0), (1, .int i1), (2, .int i2), (3, .int i3), (4, .int i4), (5, .int i5), (6, .int i6)] [.int i6] rfl ?_
  refine sm_if (pc1 := 143) (lv1 := [(0, .ref a0), (1, .int i1), (2, .int i2), (3, .int i3)]) (pc2 := 132) (lv2 := [(0, .ref a0), (1, .int i1), (2, .int i2), (3, .int i3), (4, .int i4), (5, .int i5), (6, .int i6)]) (st1 := []) rfl rfl rfl (fun h11 => ?_) (fun h11 => ?_)
  · exact jt_283_143 w k_21 hk_21 a0 i1 i2 i3
  · refine sm_seg 4 138 [(0, .ref a0), (1, .int i1), (2, .int i2), (3, .int i3), (4, .int i4), (5, .int i5), (6, .int i6)] [.int (i3 * i5), .int i4] rfl ?_
    refine sm_if (pc1 := 143) (lv1 := [(0, .ref a0), (1, .int i1), (2, .int i2), (3, .int i3)]) (pc2 := 141) (lv2 := [(0, .ref a0), (1, .int i1), (2, .int i2), (3, .int i3), (4, .int i4), (5, .int i5), (6, .int i6)]) (st1 := []) rfl rfl rfl (fun h12 => ?_) (fun h12 => ?_)
    · exact jt_283_143 w k_21 hk_21 a0 i1 i2 i3
    · refine sm_seg 1 142 [(0, .ref a0), (1, .int i1), (2, .int i2), (3, .int i3), (4, .int i4), (5, .int i5), (6, .int i6)] [.int i3] rfl ?_
      exact sm_rI rfl rfl
def fn_283_37 (w : cm_W) (k_21 : Nat → Int32 → Int32 → Int32 → Option Int32) : Nat → Nat → Int32 → Int32 → Int32 → Int32 → Int32 → Int32 → Int32 → Option Int32
  | 0, _, _, _, _, _, _, _, _ => none
  | n + 1, a0, i1, i2, i3, i4, i5, i6, i7 => (if cm_sh w a0 = some (.inl 11) then (if (cm_I w a0 1) ≤ i7 then fn_283_127 w k_21 a0 i1 i2 i3 i4 i5 i6 else (fn_228 w a0 i1 i7).bind fun v15 => (if v15 = 0 then fn_283_121 w k_21 (fn_283_37 w k_21 n) a0 i1 i2 i3 i4 i5 i6 i7 else (fn_223 w a0 i7 i2).bind fun v18 => (cm_R w a0 23).bind fun r20 => (if cm_ga w .int r20 i7 = true then (if v18 ≤ (i3 * (cm_I w r20 i7.toNatClampNeg)) then fn_283_78 w k_21 (fn_283_37 w k_21 n) a0 i1 i2 i3 i4 i5 i7 else fn_283_121 w k_21 (fn_283_37 w k_21 n) a0 i1 i2 i3 i4 i5 i6 i7) else none))) else none)
theorem jt_283_37 (w : cm_W) (k_21 : Nat → Int32 → Int32 → Int32 → Option Int32) (hk_21 : ∀ (a0 : Nat) (i1 : Int32) (i2 : Int32) (i3 : Int32), sm cm_g 283 ck_283 kq_283 21 [(0, .ref a0), (1, .int i1), (2, .int i2), (3, .int i3)] [] w ((k_21 a0 i1 i2 i3).map (cm_fI w))) : ∀ (n : Nat) (a0 : Nat) (i1 : Int32) (i2 : Int32) (i3 : Int32) (i4 : Int32) (i5 : Int32) (i6 : Int32) (i7 : Int32), sm cm_g 283 ck_283 kq_283 37 [(0, .ref a0), (1, .int i1), (2, .int i2), (3, .int i3), (4, .int i4), (5, .int i5), (6, .int i6), (7, .int i7)] [] w ((fn_283_37 w k_21 n a0 i1 i2 i3 i4 i5 i6 i7).map (cm_fI w)) := by
  intro n
  induction n with
  | zero => intro a0 i1 i2 i3 i4 i5 i6 i7; exact sm_no
  | succ n ih =>
    intro a0 i1 i2 i3 i4 i5 i6 i7
    rw [fn_283_37]
    refine sm_seg 2 40 [(0, .ref a0), (1, .int i1), (2, .int i2), (3, .int i3), (4, .int i4), (5, .int i5), (6, .int i6), (7, .int i7)] [.ref a0, .int i7] rfl ?_
    refine sm_gd fun h13 => ?_
    refine sm_gI rfl h13 rfl ?_
    show sm _ _ _ _ 43 [(0, .ref a0), (1, .int i1), (2, .int i2), (3, .int i3), (4, .int i4), (5, .int i5), (6, .int i6), (7, .int i7)] [.int (cm_I w a0 1), .int i7] _ _
    refine sm_if (pc1 := 127) (lv1 := [(0, .ref a0), (1, .int i1), (2, .int i2), (3, .int i3), (4, .int i4), (5, .int i5), (6, .int i6)]) (pc2 := 46) (lv2 := [(0, .ref a0), (1, .int i1), (2, .int i2), (3, .int i3), (4, .int i4), (5, .int i5), (6, .int i6), (7, .int i7)]) (st1 := []) rfl rfl rfl (fun h14 => ?_) (fun h14 => ?_)
    · exact jt_283_127 w k_21 hk_21 a0 i1 i2 i3 i4 i5 i6
    · refine sm_seg 3 50 [(0, .ref a0), (1, .int i1), (2, .int i2), (3, .int i3), (4, .int i4), (5, .int i5), (6, .int i6), (7, .int i7)] [.int i7, .int i1, .ref a0] rfl ?_
      refine sm_cV (as := [.int i1, .int i7]) (rest := []) rfl rfl rfl rfl h13 (Nat.le_of_ble_eq_true rfl) (ca_228 w a0 i1 i7) fun v15 h16 => ?_
      show sm _ _ _ _ 53 [(0, .ref a0), (1, .int i1), (2, .int i2), (3, .int i3), (4, .int i4), (5, .int i5), (6, .int i6), (7, .int i7)] [.int v15] _ _
      refine sm_if (pc1 := 121) (lv1 := [(0, .ref a0), (1, .int i1), (2, .int i2), (3, .int i3), (4, .int i4), (5, .int i5), (6, .int i6), (7, .int i7)]) (pc2 := 56) (lv2 := [(0, .ref a0), (1, .int i1), (2, .int i2), (3, .int i3), (4, .int i4), (5, .int i5), (6, .int i6), (7, .int i7)]) (st1 := []) rfl rfl rfl (fun h17 => ?_) (fun h17 => ?_)
      · exact jt_283_121 w k_21 (fn_283_37 w k_21 n) hk_21 ih a0 i1 i2 i3 i4 i5 i6 i7
      · refine sm_seg 3 60 [(0, .ref a0), (1, .int i1), (2, .int i2), (3, .int i3), (4, .int i4), (5, .int i5), (6, .int i6), (7, .int i7)] [.int i2, .int i7, .ref a0] rfl ?_
        refine sm_cV (as := [.int i7, .int i2]) (rest := []) rfl rfl rfl rfl h13 (Nat.le_of_ble_eq_true rfl) (ca_223 w a0 i7 i2) fun v18 h19 => ?_
        show sm _ _ _ _ 63 [(0, .ref a0), (1, .int i1), (2, .int i2), (3, .int i3), (4, .int i4), (5, .int i5), (6, .int i6), (7, .int i7)] [.int v18] _ _
        refine sm_seg 2 65 [(0, .ref a0), (1, .int i1), (2, .int i2), (3, .int i3), (4, .int i4), (5, .int i5), (6, .int i6), (7, .int i7)] [.ref a0, .int i3, .int v18] rfl ?_
        refine sm_gR rfl h13 rfl rfl fun r20 h21 => ?_
        show sm _ _ _ _ 68 [(0, .ref a0), (1, .int i1), (2, .int i2), (3, .int i3), (4, .int i4), (5, .int i5), (6, .int i6), (7, .int i7)] [.ref r20, .int i3, .int v18] _ _
        refine sm_seg 1 70 [(0, .ref a0), (1, .int i1), (2, .int i2), (3, .int i3), (4, .int i4), (5, .int i5), (6, .int i6), (7, .int i7)] [.int i7, .ref r20, .int i3, .int v18] rfl ?_
        refine sm_gd fun h22 => ?_
        refine sm_ai rfl h22 rfl ?_
        show sm _ _ _ _ 71 [(0, .ref a0), (1, .int i1), (2, .int i2), (3, .int i3), (4, .int i4), (5, .int i5), (6, .int i6), (7, .int i7)] [.int (cm_I w r20 i7.toNatClampNeg), .int i3, .int v18] _ _
        refine sm_seg 1 72 [(0, .ref a0), (1, .int i1), (2, .int i2), (3, .int i3), (4, .int i4), (5, .int i5), (6, .int i6), (7, .int i7)] [.int (i3 * (cm_I w r20 i7.toNatClampNeg)), .int v18] rfl ?_
        refine sm_if (pc1 := 78) (lv1 := [(0, .ref a0), (1, .int i1), (2, .int i2), (3, .int i3), (4, .int i4), (5, .int i5), (7, .int i7)]) (pc2 := 75) (lv2 := [(0, .ref a0), (1, .int i1), (2, .int i2), (3, .int i3), (4, .int i4), (5, .int i5), (6, .int i6), (7, .int i7)]) (st1 := []) rfl rfl rfl (fun h23 => ?_) (fun h23 => ?_)
        · exact jt_283_78 w k_21 (fn_283_37 w k_21 n) hk_21 ih a0 i1 i2 i3 i4 i5 i7
        · refine sm_seg 1 121 [(0, .ref a0), (1, .int i1), (2, .int i2), (3, .int i3), (4, .int i4), (5, .int i5), (6, .int i6), (7, .int i7)] [] rfl ?_
          exact jt_283_121 w k_21 (fn_283_37 w k_21 n) hk_21 ih a0 i1 i2 i3 i4 i5 i6 i7
def fn_283_21 (w : cm_W) : Nat → Nat → Int32 → Int32 → Int32 → Option Int32
  | 0, _, _, _, _ => none
  | n + 1, a0, i1, i2, i3 => (if i3 < 0 then some (-1 : Int32) else fn_283_37 w (fn_283_21 w n) cm_N a0 i1 i2 i3 (0 : Int32) (0 : Int32) (0 : Int32) (0 : Int32))
theorem jt_283_21 (w : cm_W) : ∀ (n : Nat) (a0 : Nat) (i1 : Int32) (i2 : Int32) (i3 : Int32), sm cm_g 283 ck_283 kq_283 21 [(0, .ref a0), (1, .int i1), (2, .int i2), (3, .int i3)] [] w ((fn_283_21 w n a0 i1 i2 i3).map (cm_fI w)) := by
  intro n
  induction n with
  | zero => intro a0 i1 i2 i3; exact sm_no
  | succ n ih =>
    intro a0 i1 i2 i3
    rw [fn_283_21]
    refine sm_seg 1 22 [(0, .ref a0), (1, .int i1), (2, .int i2), (3, .int i3)] [.int i3] rfl ?_
    refine sm_if (pc1 := 149) (lv1 := []) (pc2 := 25) (lv2 := [(0, .ref a0), (1, .int i1), (2, .int i2), (3, .int i3)]) (st1 := []) rfl rfl rfl (fun h24 => ?_) (fun h24 => ?_)
    · refine sm_seg 1 150 [] [.int (-1 : Int32)] rfl ?_
      exact sm_rI rfl rfl
    · refine sm_seg 8 37 [(0, .ref a0), (1, .int i1), (2, .int i2), (3, .int i3), (4, .int (0 : Int32)), (5, .int (0 : Int32)), (6, .int (0 : Int32)), (7, .int (0 : Int32))] [] rfl ?_
      exact jt_283_37 w (fn_283_21 w n) ih cm_N a0 i1 i2 i3 (0 : Int32) (0 : Int32) (0 : Int32) (0 : Int32)
def fn_283_17 (w : cm_W) (a0 : Nat) (i1 : Int32) (i2 : Int32) : Option Int32 := fn_283_21 w cm_N a0 i1 i2 (999 : Int32)
theorem jt_283_17 (w : cm_W) (a0 : Nat) (i1 : Int32) (i2 : Int32) : sm cm_g 283 ck_283 kq_283 17 [(0, .ref a0), (1, .int i1), (2, .int i2)] [] w ((fn_283_17 w a0 i1 i2).map (cm_fI w)) := by
  unfold fn_283_17
  refine sm_seg 2 21 [(0, .ref a0), (1, .int i1), (2, .int i2), (3, .int (999 : Int32))] [] rfl ?_
  exact jt_283_21 w cm_N a0 i1 i2 (999 : Int32)
def fn_283 (w : cm_W) (a0 : Nat) (i1 : Int32) (i2 : Int32) : Option Int32 := (if cm_sh w a0 = some (.inl 11) then (fn_225 w a0 i1).bind fun v26 => (if (cm_b v26) = 0 then some (-1 : Int32) else (fn_226 w i2).bind fun v29 => (if ¬ (cm_b v29) = 0 then fn_283_17 w a0 i1 i2 else some (-1 : Int32))) else none)
theorem jt_283_0 (w : cm_W) (a0 : Nat) (i1 : Int32) (i2 : Int32) : sm cm_g 283 ck_283 kq_283 0 [(0, .ref a0), (1, .int i1), (2, .int i2)] [] w ((fn_283 w a0 i1 i2).map (cm_fI w)) := by
  unfold fn_283
  refine sm_seg 2 2 [(0, .ref a0), (1, .int i1), (2, .int i2)] [.int i1, .ref a0] rfl ?_
  refine sm_gd fun h25 => ?_
  refine sm_cV (as := [.int i1]) (rest := []) rfl rfl rfl rfl h25 (Nat.le_of_ble_eq_true rfl) (ca_225 w a0 i1) fun v26 h27 => ?_
  show sm _ _ _ _ 5 [(0, .ref a0), (1, .int i1), (2, .int i2)] [.int (cm_b v26)] _ _
  refine sm_if (pc1 := 15) (lv1 := []) (pc2 := 8) (lv2 := [(0, .ref a0), (1, .int i1), (2, .int i2)]) (st1 := []) rfl rfl rfl (fun h28 => ?_) (fun h28 => ?_)
  · refine sm_seg 1 16 [] [.int (-1 : Int32)] rfl ?_
    exact sm_rI rfl rfl
  · refine sm_seg 1 9 [(0, .ref a0), (1, .int i1), (2, .int i2)] [.int i2] rfl ?_
    refine sm_cS (av := [.int i2]) (rest := []) rfl rfl rfl rfl (Nat.le_of_ble_eq_true rfl) (ca_226 w i2) fun v29 h30 => ?_
    show sm _ _ _ _ 12 [(0, .ref a0), (1, .int i1), (2, .int i2)] [.int (cm_b v29)] _ _
    refine sm_if (pc1 := 17) (lv1 := [(0, .ref a0), (1, .int i1), (2, .int i2)]) (pc2 := 15) (lv2 := []) (st1 := []) rfl rfl rfl (fun h31 => ?_) (fun h31 => ?_)
    · exact jt_283_17 w a0 i1 i2
    · refine sm_seg 1 16 [] [.int (-1 : Int32)] rfl ?_
      exact sm_rI rfl rfl
theorem ca_283 (w : cm_W) (a0 : Nat) (i1 : Int32) (i2 : Int32) : cm_ca cm_g 283 [.ref a0, .int i1, .int i2] w ((fn_283 w a0 i1 i2).map (cm_fI w)) := cm_ca_of (cm_me_of rfl rfl) rfl (jt_283_0 w a0 i1 i2)
-- NailedBoxesModel.hours(IIII)I
def fn_284_88 (a0 : Nat) (w : cm_W) : Option (Int32 × cm_W) := (if cm_sh w a0 = some (.inl 11) then some ((cm_I w a0 66), w) else none)
theorem jt_284_88 (a0 : Nat) (w : cm_W) : sm cm_g 284 ck_284 kq_284 88 [(0, .ref a0)] [] w ((fn_284_88 a0 w).map cm_gI) := by
  unfold fn_284_88
  refine sm_seg 1 89 [(0, .ref a0)] [.ref a0] rfl ?_
  refine sm_gd fun h1 => ?_
  refine sm_gI rfl h1 rfl ?_
  show sm _ _ _ _ 92 [] [.int (cm_I w a0 66)] _ _
  exact sm_rIW rfl rfl
def fn_284_125 (k_66 : Nat → Int32 → Int32 → Int32 → Int32 → Int32 → cm_W → Option (Int32 × cm_W)) (k_96 : Nat → Int32 → Int32 → Int32 → Int32 → Int32 → cm_W → Option (Int32 × cm_W)) (a0 : Nat) (i2 : Int32) (i3 : Int32) (i4 : Int32) (i5 : Int32) (i7 : Int32) (w : cm_W) : Option (Int32 × cm_W) := k_96 a0 i2 i3 i4 i5 (i7 + (1 : Int32)) w
theorem jt_284_125 (k_66 : Nat → Int32 → Int32 → Int32 → Int32 → Int32 → cm_W → Option (Int32 × cm_W)) (k_96 : Nat → Int32 → Int32 → Int32 → Int32 → Int32 → cm_W → Option (Int32 × cm_W)) (hk_66 : ∀ (a0 : Nat) (i2 : Int32) (i3 : Int32) (i4 : Int32) (i5 : Int32) (i6 : Int32) (w : cm_W), sm cm_g 284 ck_284 kq_284 66 [(0, .ref a0), (2, .int i2), (3, .int i3), (4, .int i4), (5, .int i5), (6, .int i6)] [] w ((k_66 a0 i2 i3 i4 i5 i6 w).map cm_gI)) (hk_96 : ∀ (a0 : Nat) (i2 : Int32) (i3 : Int32) (i4 : Int32) (i5 : Int32) (i7 : Int32) (w : cm_W), sm cm_g 284 ck_284 kq_284 96 [(0, .ref a0), (2, .int i2), (3, .int i3), (4, .int i4), (5, .int i5), (7, .int i7)] [] w ((k_96 a0 i2 i3 i4 i5 i7 w).map cm_gI)) (a0 : Nat) (i2 : Int32) (i3 : Int32) (i4 : Int32) (i5 : Int32) (i7 : Int32) (w : cm_W) : sm cm_g 284 ck_284 kq_284 125 [(0, .ref a0), (2, .int i2), (3, .int i3), (4, .int i4), (5, .int i5), (7, .int i7)] [] w ((fn_284_125 k_66 k_96 a0 i2 i3 i4 i5 i7 w).map cm_gI) := by
  unfold fn_284_125
  refine sm_seg 2 96 [(0, .ref a0), (2, .int i2), (3, .int i3), (4, .int i4), (5, .int i5), (7, .int (i7 + (1 : Int32)))] [] rfl ?_
  exact hk_96 a0 i2 i3 i4 i5 (i7 + (1 : Int32)) w
def fn_284_131 (k_66 : Nat → Int32 → Int32 → Int32 → Int32 → Int32 → cm_W → Option (Int32 × cm_W)) (a0 : Nat) (i2 : Int32) (i3 : Int32) (i4 : Int32) (i5 : Int32) (w : cm_W) : Option (Int32 × cm_W) := (if cm_sh w a0 = some (.inl 11) then (fn_272 a0 i2 w).bind fun v3 => k_66 a0 i2 i3 i4 (i5 + (1 : Int32)) v3.1 v3.2 else none)
theorem jt_284_131 (k_66 : Nat → Int32 → Int32 → Int32 → Int32 → Int32 → cm_W → Option (Int32 × cm_W)) (hk_66 : ∀ (a0 : Nat) (i2 : Int32) (i3 : Int32) (i4 : Int32) (i5 : Int32) (i6 : Int32) (w : cm_W), sm cm_g 284 ck_284 kq_284 66 [(0, .ref a0), (2, .int i2), (3, .int i3), (4, .int i4), (5, .int i5), (6, .int i6)] [] w ((k_66 a0 i2 i3 i4 i5 i6 w).map cm_gI)) (a0 : Nat) (i2 : Int32) (i3 : Int32) (i4 : Int32) (i5 : Int32) (w : cm_W) : sm cm_g 284 ck_284 kq_284 131 [(0, .ref a0), (2, .int i2), (3, .int i3), (4, .int i4), (5, .int i5)] [] w ((fn_284_131 k_66 a0 i2 i3 i4 i5 w).map cm_gI) := by
  unfold fn_284_131
  refine sm_seg 3 136 [(5, .int (i5 + (1 : Int32))), (0, .ref a0), (2, .int i2), (3, .int i3), (4, .int i4)] [.int i2, .ref a0] rfl ?_
  refine sm_gd fun h2 => ?_
  refine sm_cV (as := [.int i2]) (rest := []) rfl rfl rfl rfl h2 (Nat.le_of_ble_eq_true rfl) (ca_272  a0 i2 w) fun v3 h4 => ?_
  show sm _ _ _ _ 139 [(5, .int (i5 + (1 : Int32))), (0, .ref a0), (2, .int i2), (3, .int i3), (4, .int i4)] [.int v3.1] _ _
  refine sm_seg 2 66 [(0, .ref a0), (2, .int i2), (3, .int i3), (4, .int i4), (5, .int (i5 + (1 : Int32))), (6, .int v3.1)] [] rfl ?_
  exact hk_66 a0 i2 i3 i4 (i5 + (1 : Int32)) v3.1 v3.2
def fn_284_96 (k_66 : Nat → Int32 → Int32 → Int32 → Int32 → Int32 → cm_W → Option (Int32 × cm_W)) : Nat → Nat → Int32 → Int32 → Int32 → Int32 → Int32 → cm_W → Option (Int32 × cm_W)
  | 0, _, _, _, _, _, _, _ => none
  | n + 1, a0, i2, i3, i4, i5, i7, w => (if cm_sh w a0 = some (.inl 11) then (if (cm_I w a0 1) ≤ i7 then fn_284_131  k_66 a0 i2 i3 i4 i5 w else (fn_196 w (cm_I w a0 66) i7).bind fun v7 => (if (cm_b v7) = 0 then fn_284_125  k_66 (fn_284_96 k_66 n) a0 i2 i3 i4 i5 i7 w else (cm_R w a0 65).bind fun r10 => (if cm_ga w .long r10 i7 = true then (if cm_w2 96 143 r10 = true then fn_284_125  k_66 (fn_284_96 k_66 n) a0 i2 i3 i4 i5 i7 (cm_sL w r10 i7.toNatClampNeg (0 : Int64)) else none) else none))) else none)
theorem jt_284_96 (k_66 : Nat → Int32 → Int32 → Int32 → Int32 → Int32 → cm_W → Option (Int32 × cm_W)) (hk_66 : ∀ (a0 : Nat) (i2 : Int32) (i3 : Int32) (i4 : Int32) (i5 : Int32) (i6 : Int32) (w : cm_W), sm cm_g 284 ck_284 kq_284 66 [(0, .ref a0), (2, .int i2), (3, .int i3), (4, .int i4), (5, .int i5), (6, .int i6)] [] w ((k_66 a0 i2 i3 i4 i5 i6 w).map cm_gI)) : ∀ (n : Nat) (a0 : Nat) (i2 : Int32) (i3 : Int32) (i4 : Int32) (i5 : Int32) (i7 : Int32) (w : cm_W), sm cm_g 284 ck_284 kq_284 96 [(0, .ref a0), (2, .int i2), (3, .int i3), (4, .int i4), (5, .int i5), (7, .int i7)] [] w ((fn_284_96 k_66 n a0 i2 i3 i4 i5 i7 w).map cm_gI) := by
  intro n
  induction n with
  | zero => intro a0 i2 i3 i4 i5 i7 w; exact sm_no
  | succ n ih =>
    intro a0 i2 i3 i4 i5 i7 w
    rw [fn_284_96]
    refine sm_seg 2 99 [(0, .ref a0), (2, .int i2), (3, .int i3), (4, .int i4), (5, .int i5), (7, .int i7)] [.ref a0, .int i7] rfl ?_
    refine sm_gd fun h5 => ?_
    refine sm_gI rfl h5 rfl ?_
    show sm _ _ _ _ 102 [(0, .ref a0), (2, .int i2), (3, .int i3), (4, .int i4), (5, .int i5), (7, .int i7)] [.int (cm_I w a0 1), .int i7] _ _
    refine sm_if (pc1 := 131) (lv1 := [(0, .ref a0), (2, .int i2), (3, .int i3), (4, .int i4), (5, .int i5)]) (pc2 := 105) (lv2 := [(0, .ref a0), (2, .int i2), (3, .int i3), (4, .int i4), (5, .int i5), (7, .int i7)]) (st1 := []) rfl rfl rfl (fun h6 => ?_) (fun h6 => ?_)
    · exact jt_284_131  k_66 hk_66 a0 i2 i3 i4 i5 w
    · refine sm_seg 1 106 [(0, .ref a0), (2, .int i2), (3, .int i3), (4, .int i4), (5, .int i5), (7, .int i7)] [.ref a0] rfl ?_
      refine sm_gI rfl h5 rfl ?_
      show sm _ _ _ _ 109 [(0, .ref a0), (2, .int i2), (3, .int i3), (4, .int i4), (5, .int i5), (7, .int i7)] [.int (cm_I w a0 66)] _ _
      refine sm_seg 1 111 [(0, .ref a0), (2, .int i2), (3, .int i3), (4, .int i4), (5, .int i5), (7, .int i7)] [.int i7, .int (cm_I w a0 66)] rfl ?_
      refine sm_cS (av := [.int (cm_I w a0 66), .int i7]) (rest := []) rfl rfl rfl rfl (Nat.le_of_ble_eq_true rfl) (ca_196 w (cm_I w a0 66) i7) fun v7 h8 => ?_
      show sm _ _ _ _ 114 [(0, .ref a0), (2, .int i2), (3, .int i3), (4, .int i4), (5, .int i5), (7, .int i7)] [.int (cm_b v7)] _ _
      refine sm_if (pc1 := 125) (lv1 := [(0, .ref a0), (2, .int i2), (3, .int i3), (4, .int i4), (5, .int i5), (7, .int i7)]) (pc2 := 117) (lv2 := [(0, .ref a0), (2, .int i2), (3, .int i3), (4, .int i4), (5, .int i5), (7, .int i7)]) (st1 := []) rfl rfl rfl (fun h9 => ?_) (fun h9 => ?_)
      · exact jt_284_125  k_66 (fn_284_96 k_66 n) hk_66 ih a0 i2 i3 i4 i5 i7 w
      · refine sm_seg 1 118 [(0, .ref a0), (2, .int i2), (3, .int i3), (4, .int i4), (5, .int i5), (7, .int i7)] [.ref a0] rfl ?_
        refine sm_gR rfl h5 rfl rfl fun r10 h11 => ?_
        show sm _ _ _ _ 121 [(0, .ref a0), (2, .int i2), (3, .int i3), (4, .int i4), (5, .int i5), (7, .int i7)] [.ref r10] _ _
        refine sm_seg 2 124 [(0, .ref a0), (2, .int i2), (3, .int i3), (4, .int i4), (5, .int i5), (7, .int i7)] [.long (0 : Int64), .int i7, .ref r10] rfl ?_
        refine sm_gd fun h12 => ?_
        refine sm_gd fun h13 => ?_
        refine sm_sl rfl h12 h13 rfl rfl ?_
        show sm _ _ _ _ 125 [(0, .ref a0), (2, .int i2), (3, .int i3), (4, .int i4), (5, .int i5), (7, .int i7)] [] _ _
        exact jt_284_125  k_66 (fn_284_96 k_66 n) hk_66 ih a0 i2 i3 i4 i5 i7 (cm_sL w r10 i7.toNatClampNeg (0 : Int64))
def fn_284_93 (k_66 : Nat → Int32 → Int32 → Int32 → Int32 → Int32 → cm_W → Option (Int32 × cm_W)) (a0 : Nat) (i2 : Int32) (i3 : Int32) (i4 : Int32) (i5 : Int32) (w : cm_W) : Option (Int32 × cm_W) := fn_284_96  k_66 cm_N a0 i2 i3 i4 i5 (0 : Int32) w
theorem jt_284_93 (k_66 : Nat → Int32 → Int32 → Int32 → Int32 → Int32 → cm_W → Option (Int32 × cm_W)) (hk_66 : ∀ (a0 : Nat) (i2 : Int32) (i3 : Int32) (i4 : Int32) (i5 : Int32) (i6 : Int32) (w : cm_W), sm cm_g 284 ck_284 kq_284 66 [(0, .ref a0), (2, .int i2), (3, .int i3), (4, .int i4), (5, .int i5), (6, .int i6)] [] w ((k_66 a0 i2 i3 i4 i5 i6 w).map cm_gI)) (a0 : Nat) (i2 : Int32) (i3 : Int32) (i4 : Int32) (i5 : Int32) (w : cm_W) : sm cm_g 284 ck_284 kq_284 93 [(0, .ref a0), (2, .int i2), (3, .int i3), (4, .int i4), (5, .int i5)] [] w ((fn_284_93 k_66 a0 i2 i3 i4 i5 w).map cm_gI) := by
  unfold fn_284_93
  refine sm_seg 2 96 [(0, .ref a0), (2, .int i2), (3, .int i3), (4, .int i4), (5, .int i5), (7, .int (0 : Int32))] [] rfl ?_
  exact jt_284_96  k_66 hk_66 cm_N a0 i2 i3 i4 i5 (0 : Int32) w
def fn_284_144 (i3 : Int32) (i5 : Int32) (w : cm_W) : Option (Int32 × cm_W) := (if ¬ i3 = (-1 : Int32) then some ((-1 : Int32), w) else some (i5, w))
theorem jt_284_144 (i3 : Int32) (i5 : Int32) (w : cm_W) : sm cm_g 284 ck_284 kq_284 144 [(3, .int i3), (5, .int i5)] [] w ((fn_284_144 i3 i5 w).map cm_gI) := by
  unfold fn_284_144
  refine sm_seg 2 146 [(3, .int i3), (5, .int i5)] [.int (-1 : Int32), .int i3] rfl ?_
  refine sm_if (pc1 := 154) (lv1 := []) (pc2 := 149) (lv2 := [(3, .int i3), (5, .int i5)]) (st1 := []) rfl rfl rfl (fun h14 => ?_) (fun h14 => ?_)
  · refine sm_seg 1 155 [] [.int (-1 : Int32)] rfl ?_
    exact sm_rIW rfl rfl
  · refine sm_seg 2 155 [] [.int i5] rfl ?_
    exact sm_rIW rfl rfl
def fn_284_66 : Nat → Nat → Int32 → Int32 → Int32 → Int32 → Int32 → cm_W → Option (Int32 × cm_W)
  | 0, _, _, _, _, _, _, _ => none
  | n + 1, a0, i2, i3, i4, i5, i6, w => (if i6 = (-1 : Int32) then fn_284_144  i3 i5 w else (if ¬ i5 = i3 then fn_284_93  (fn_284_66 n) a0 i2 i3 i4 i5 w else (if ¬ i4 = 0 then fn_284_88  a0 w else some (i6, w))))
theorem jt_284_66 : ∀ (n : Nat) (a0 : Nat) (i2 : Int32) (i3 : Int32) (i4 : Int32) (i5 : Int32) (i6 : Int32) (w : cm_W), sm cm_g 284 ck_284 kq_284 66 [(0, .ref a0), (2, .int i2), (3, .int i3), (4, .int i4), (5, .int i5), (6, .int i6)] [] w ((fn_284_66 n a0 i2 i3 i4 i5 i6 w).map cm_gI) := by
  intro n
  induction n with
  | zero => intro a0 i2 i3 i4 i5 i6 w; exact sm_no
  | succ n ih =>
    intro a0 i2 i3 i4 i5 i6 w
    rw [fn_284_66]
    refine sm_seg 2 69 [(0, .ref a0), (2, .int i2), (3, .int i3), (4, .int i4), (5, .int i5), (6, .int i6)] [.int (-1 : Int32), .int i6] rfl ?_
    refine sm_if (pc1 := 144) (lv1 := [(3, .int i3), (5, .int i5)]) (pc2 := 72) (lv2 := [(0, .ref a0), (2, .int i2), (3, .int i3), (4, .int i4), (5, .int i5), (6, .int i6)]) (st1 := []) rfl rfl rfl (fun h15 => ?_) (fun h15 => ?_)
    · exact jt_284_144  i3 i5 w
    · refine sm_seg 2 75 [(0, .ref a0), (2, .int i2), (3, .int i3), (4, .int i4), (5, .int i5), (6, .int i6)] [.int i3, .int i5] rfl ?_
      refine sm_if (pc1 := 93) (lv1 := [(0, .ref a0), (2, .int i2), (3, .int i3), (4, .int i4), (5, .int i5)]) (pc2 := 78) (lv2 := [(0, .ref a0), (2, .int i2), (3, .int i3), (4, .int i4), (5, .int i5), (6, .int i6)]) (st1 := []) rfl rfl rfl (fun h16 => ?_) (fun h16 => ?_)
      · exact jt_284_93  (fn_284_66 n) ih a0 i2 i3 i4 i5 w
      · refine sm_seg 1 80 [(0, .ref a0), (2, .int i2), (3, .int i3), (4, .int i4), (5, .int i5), (6, .int i6)] [.int i4] rfl ?_
        refine sm_if (pc1 := 88) (lv1 := [(0, .ref a0)]) (pc2 := 83) (lv2 := [(0, .ref a0), (2, .int i2), (3, .int i3), (4, .int i4), (5, .int i5), (6, .int i6)]) (st1 := []) rfl rfl rfl (fun h17 => ?_) (fun h17 => ?_)
        · exact jt_284_88  a0 w
        · refine sm_seg 2 92 [] [.int i6] rfl ?_
          exact sm_rIW rfl rfl
def fn_284_49 (a0 : Nat) (i1 : Int32) (i2 : Int32) (i3 : Int32) (i4 : Int32) (w : cm_W) : Option (Int32 × cm_W) := (if cm_sh w a0 = some (.inl 11) then (fn_269 a0 (1 : Int32) i1 (0 : Int32) w).bind fun w19 => (if cm_sh w19 a0 = some (.inl 11) then (fn_272 a0 i2 w19).bind fun v22 => fn_284_66  cm_N a0 i2 i3 i4 (0 : Int32) v22.1 v22.2 else none) else none)
theorem jt_284_49 (a0 : Nat) (i1 : Int32) (i2 : Int32) (i3 : Int32) (i4 : Int32) (w : cm_W) : sm cm_g 284 ck_284 kq_284 49 [(0, .ref a0), (1, .int i1), (2, .int i2), (3, .int i3), (4, .int i4)] [] w ((fn_284_49 a0 i1 i2 i3 i4 w).map cm_gI) := by
  unfold fn_284_49
  refine sm_seg 4 53 [(0, .ref a0), (1, .int i1), (2, .int i2), (3, .int i3), (4, .int i4)] [.int (0 : Int32), .int i1, .int (1 : Int32), .ref a0] rfl ?_
  refine sm_gd fun h18 => ?_
  refine sm_cV (as := [.int (1 : Int32), .int i1, .int (0 : Int32)]) (rest := []) rfl rfl rfl rfl h18 (Nat.le_of_ble_eq_true rfl) (ca_269  a0 (1 : Int32) i1 (0 : Int32) w) fun w19 h20 => ?_
  show sm _ _ _ _ 56 [(0, .ref a0), (1, .int i1), (2, .int i2), (3, .int i3), (4, .int i4)] [] _ _
  refine sm_seg 4 61 [(5, .int (0 : Int32)), (0, .ref a0), (1, .int i1), (2, .int i2), (3, .int i3), (4, .int i4)] [.int i2, .ref a0] rfl ?_
  refine sm_gd fun h21 => ?_
  refine sm_cV (as := [.int i2]) (rest := []) rfl rfl rfl rfl h21 (Nat.le_of_ble_eq_true rfl) (ca_272  a0 i2 w19) fun v22 h23 => ?_
  show sm _ _ _ _ 64 [(5, .int (0 : Int32)), (0, .ref a0), (1, .int i1), (2, .int i2), (3, .int i3), (4, .int i4)] [.int v22.1] _ _
  refine sm_seg 1 66 [(0, .ref a0), (2, .int i2), (3, .int i3), (4, .int i4), (5, .int (0 : Int32)), (6, .int v22.1)] [] rfl ?_
  exact jt_284_66  cm_N a0 i2 i3 i4 (0 : Int32) v22.1 v22.2
def fn_284_40 (a0 : Nat) (i1 : Int32) (i2 : Int32) (i3 : Int32) (i4 : Int32) (w : cm_W) : Option (Int32 × cm_W) := (if cm_sh w a0 = some (.inl 11) then (if ¬ (cm_I w a0 1) = 0 then fn_284_49  a0 i1 i2 i3 i4 w else some ((-1 : Int32), w)) else none)
theorem jt_284_40 (a0 : Nat) (i1 : Int32) (i2 : Int32) (i3 : Int32) (i4 : Int32) (w : cm_W) : sm cm_g 284 ck_284 kq_284 40 [(0, .ref a0), (1, .int i1), (2, .int i2), (3, .int i3), (4, .int i4)] [] w ((fn_284_40 a0 i1 i2 i3 i4 w).map cm_gI) := by
  unfold fn_284_40
  refine sm_seg 1 41 [(0, .ref a0), (1, .int i1), (2, .int i2), (3, .int i3), (4, .int i4)] [.ref a0] rfl ?_
  refine sm_gd fun h24 => ?_
  refine sm_gI rfl h24 rfl ?_
  show sm _ _ _ _ 44 [(0, .ref a0), (1, .int i1), (2, .int i2), (3, .int i3), (4, .int i4)] [.int (cm_I w a0 1)] _ _
  refine sm_if (pc1 := 49) (lv1 := [(0, .ref a0), (1, .int i1), (2, .int i2), (3, .int i3), (4, .int i4)]) (pc2 := 47) (lv2 := []) (st1 := []) rfl rfl rfl (fun h25 => ?_) (fun h25 => ?_)
  · exact jt_284_49  a0 i1 i2 i3 i4 w
  · refine sm_seg 1 48 [] [.int (-1 : Int32)] rfl ?_
    exact sm_rIW rfl rfl
def fn_284 (a0 : Nat) (i1 : Int32) (i2 : Int32) (i3 : Int32) (i4 : Int32) (w : cm_W) : Option (Int32 × cm_W) := (if cm_sh w a0 = some (.inl 11) then (fn_225 w a0 i1).bind fun v27 => (if (cm_b v27) = 0 then some ((-1 : Int32), w) else (fn_226 w i2).bind fun v30 => (if (cm_b v30) = 0 then some ((-1 : Int32), w) else (if i3 < (-1 : Int32) then some ((-1 : Int32), w) else (fn_194 w i4 (0 : Int32) (1 : Int32)).bind fun v34 => (if (cm_b v34) = 0 then some ((-1 : Int32), w) else (if ¬ i3 = (-1 : Int32) then fn_284_40  a0 i1 i2 i3 i4 w else (if ¬ i4 = 0 then some ((-1 : Int32), w) else fn_284_40  a0 i1 i2 i3 i4 w)))))) else none)
theorem jt_284_0 (a0 : Nat) (i1 : Int32) (i2 : Int32) (i3 : Int32) (i4 : Int32) (w : cm_W) : sm cm_g 284 ck_284 kq_284 0 [(0, .ref a0), (1, .int i1), (2, .int i2), (3, .int i3), (4, .int i4)] [] w ((fn_284 a0 i1 i2 i3 i4 w).map cm_gI) := by
  unfold fn_284
  refine sm_seg 2 2 [(0, .ref a0), (1, .int i1), (2, .int i2), (3, .int i3), (4, .int i4)] [.int i1, .ref a0] rfl ?_
  refine sm_gd fun h26 => ?_
  refine sm_cV (as := [.int i1]) (rest := []) rfl rfl rfl rfl h26 (Nat.le_of_ble_eq_true rfl) (ca_225 w a0 i1) fun v27 h28 => ?_
  show sm _ _ _ _ 5 [(0, .ref a0), (1, .int i1), (2, .int i2), (3, .int i3), (4, .int i4)] [.int (cm_b v27)] _ _
  refine sm_if (pc1 := 47) (lv1 := []) (pc2 := 8) (lv2 := [(0, .ref a0), (1, .int i1), (2, .int i2), (3, .int i3), (4, .int i4)]) (st1 := []) rfl rfl rfl (fun h29 => ?_) (fun h29 => ?_)
  · refine sm_seg 1 48 [] [.int (-1 : Int32)] rfl ?_
    exact sm_rIW rfl rfl
  · refine sm_seg 1 9 [(0, .ref a0), (1, .int i1), (2, .int i2), (3, .int i3), (4, .int i4)] [.int i2] rfl ?_
    refine sm_cS (av := [.int i2]) (rest := []) rfl rfl rfl rfl (Nat.le_of_ble_eq_true rfl) (ca_226 w i2) fun v30 h31 => ?_
    show sm _ _ _ _ 12 [(0, .ref a0), (1, .int i1), (2, .int i2), (3, .int i3), (4, .int i4)] [.int (cm_b v30)] _ _
    refine sm_if (pc1 := 47) (lv1 := []) (pc2 := 15) (lv2 := [(0, .ref a0), (1, .int i1), (2, .int i2), (3, .int i3), (4, .int i4)]) (st1 := []) rfl rfl rfl (fun h32 => ?_) (fun h32 => ?_)
    · refine sm_seg 1 48 [] [.int (-1 : Int32)] rfl ?_
      exact sm_rIW rfl rfl
    · refine sm_seg 2 17 [(0, .ref a0), (1, .int i1), (2, .int i2), (3, .int i3), (4, .int i4)] [.int (-1 : Int32), .int i3] rfl ?_
      refine sm_if (pc1 := 47) (lv1 := []) (pc2 := 20) (lv2 := [(0, .ref a0), (1, .int i1), (2, .int i2), (3, .int i3), (4, .int i4)]) (st1 := []) rfl rfl rfl (fun h33 => ?_) (fun h33 => ?_)
      · refine sm_seg 1 48 [] [.int (-1 : Int32)] rfl ?_
        exact sm_rIW rfl rfl
      · refine sm_seg 3 24 [(0, .ref a0), (1, .int i1), (2, .int i2), (3, .int i3), (4, .int i4)] [.int (1 : Int32), .int (0 : Int32), .int i4] rfl ?_
        refine sm_cS (av := [.int i4, .int (0 : Int32), .int (1 : Int32)]) (rest := []) rfl rfl rfl rfl (Nat.le_of_ble_eq_true rfl) (ca_194 w i4 (0 : Int32) (1 : Int32)) fun v34 h35 => ?_
        show sm _ _ _ _ 27 [(0, .ref a0), (1, .int i1), (2, .int i2), (3, .int i3), (4, .int i4)] [.int (cm_b v34)] _ _
        refine sm_if (pc1 := 47) (lv1 := []) (pc2 := 30) (lv2 := [(0, .ref a0), (1, .int i1), (2, .int i2), (3, .int i3), (4, .int i4)]) (st1 := []) rfl rfl rfl (fun h36 => ?_) (fun h36 => ?_)
        · refine sm_seg 1 48 [] [.int (-1 : Int32)] rfl ?_
          exact sm_rIW rfl rfl
        · refine sm_seg 2 32 [(0, .ref a0), (1, .int i1), (2, .int i2), (3, .int i3), (4, .int i4)] [.int (-1 : Int32), .int i3] rfl ?_
          refine sm_if (pc1 := 40) (lv1 := [(0, .ref a0), (1, .int i1), (2, .int i2), (3, .int i3), (4, .int i4)]) (pc2 := 35) (lv2 := [(0, .ref a0), (1, .int i1), (2, .int i2), (3, .int i3), (4, .int i4)]) (st1 := []) rfl rfl rfl (fun h37 => ?_) (fun h37 => ?_)
          · exact jt_284_40  a0 i1 i2 i3 i4 w
          · refine sm_seg 1 37 [(0, .ref a0), (1, .int i1), (2, .int i2), (3, .int i3), (4, .int i4)] [.int i4] rfl ?_
            refine sm_if (pc1 := 47) (lv1 := []) (pc2 := 40) (lv2 := [(0, .ref a0), (1, .int i1), (2, .int i2), (3, .int i3), (4, .int i4)]) (st1 := []) rfl rfl rfl (fun h38 => ?_) (fun h38 => ?_)
            · refine sm_seg 1 48 [] [.int (-1 : Int32)] rfl ?_
              exact sm_rIW rfl rfl
            · exact jt_284_40  a0 i1 i2 i3 i4 w
theorem ca_284 (a0 : Nat) (i1 : Int32) (i2 : Int32) (i3 : Int32) (i4 : Int32) (w : cm_W) : cm_ca cm_g 284 [.ref a0, .int i1, .int i2, .int i3, .int i4] w ((fn_284 a0 i1 i2 i3 i4 w).map cm_gI) := cm_ca_of (cm_me_of rfl rfl) rfl (jt_284_0 a0 i1 i2 i3 i4 w)
-- NailedBoxesModel.lasts(IIIII)I
def fn_285_226 (k_105 : Nat → Int32 → Int32 → Int32 → Int32 → Int32 → Int32 → cm_W → Option (Int32 × cm_W)) (k_141 : Nat → Int32 → Int32 → Int32 → Int32 → Int32 → Int32 → Int32 → cm_W → Option (Int32 × cm_W)) (a0 : Nat) (i1 : Int32) (i2 : Int32) (i4 : Int32) (i5 : Int32) (i6 : Int32) (i7 : Int32) (i8 : Int32) (w : cm_W) : Option (Int32 × cm_W) := k_141 a0 i1 i2 i4 i5 i6 i7 (i8 + (1 : Int32)) w
theorem jt_285_226 (k_105 : Nat → Int32 → Int32 → Int32 → Int32 → Int32 → Int32 → cm_W → Option (Int32 × cm_W)) (k_141 : Nat → Int32 → Int32 → Int32 → Int32 → Int32 → Int32 → Int32 → cm_W → Option (Int32 × cm_W)) (hk_105 : ∀ (a0 : Nat) (i1 : Int32) (i2 : Int32) (i4 : Int32) (i5 : Int32) (i6 : Int32) (i7 : Int32) (w : cm_W), sm cm_g 285 ck_285 kq_285 105 [(0, .ref a0), (1, .int i1), (2, .int i2), (4, .int i4), (5, .int i5), (6, .int i6), (7, .int i7)] [] w ((k_105 a0 i1 i2 i4 i5 i6 i7 w).map cm_gI)) (hk_141 : ∀ (a0 : Nat) (i1 : Int32) (i2 : Int32) (i4 : Int32) (i5 : Int32) (i6 : Int32) (i7 : Int32) (i8 : Int32) (w : cm_W), sm cm_g 285 ck_285 kq_285 141 [(0, .ref a0), (1, .int i1), (2, .int i2), (4, .int i4), (5, .int i5), (6, .int i6), (7, .int i7), (8, .int i8)] [] w ((k_141 a0 i1 i2 i4 i5 i6 i7 i8 w).map cm_gI)) (a0 : Nat) (i1 : Int32) (i2 : Int32) (i4 : Int32) (i5 : Int32) (i6 : Int32) (i7 : Int32) (i8 : Int32) (w : cm_W) : sm cm_g 285 ck_285 kq_285 226 [(0, .ref a0), (1, .int i1), (2, .int i2), (4, .int i4), (5, .int i5), (6, .int i6), (7, .int i7), (8, .int i8)] [] w ((fn_285_226 k_105 k_141 a0 i1 i2 i4 i5 i6 i7 i8 w).map cm_gI) := by
  unfold fn_285_226
  refine sm_seg 2 141 [(0, .ref a0), (1, .int i1), (2, .int i2), (4, .int i4), (5, .int i5), (6, .int i6), (7, .int i7), (8, .int (i8 + (1 : Int32)))] [] rfl ?_
  exact hk_141 a0 i1 i2 i4 i5 i6 i7 (i8 + (1 : Int32)) w
def fn_285_152 (k_105 : Nat → Int32 → Int32 → Int32 → Int32 → Int32 → Int32 → cm_W → Option (Int32 × cm_W)) (k_141 : Nat → Int32 → Int32 → Int32 → Int32 → Int32 → Int32 → Int32 → cm_W → Option (Int32 × cm_W)) : Nat → Nat → Int32 → Int32 → Int32 → Int32 → Int32 → Int32 → Int32 → Int32 → cm_W → Option (Int32 × cm_W)
  | 0, _, _, _, _, _, _, _, _, _, _ => none
  | n + 1, a0, i1, i2, i4, i5, i6, i7, i8, i9, w => (if cm_sh w a0 = some (.inl 11) then (if (cm_I w a0 1) ≤ i9 then fn_285_226  k_105 k_141 a0 i1 i2 i4 i5 i6 i7 i8 w else (cm_R w a0 69).bind fun r3 => (if cm_ga w .long r3 i8 = true then (if (lg_cmp (cm_L w r3 i8.toNatClampNeg) (0 : Int64)) ≤ 0 then fn_285_226  k_105 k_141 a0 i1 i2 i4 i5 i6 i7 i8 w else (cm_R w a0 70).bind fun r7 => (fn_222 w a0 i9 i2).bind fun v9 => (if cm_ga w .long r7 (if ((i8 - i4) + v9) < (999 : Int32) then ((i8 - i4) + v9) else (999 : Int32)) = true then (cm_R w a0 69).bind fun r12 => (if cm_ga w .long r12 i8 = true then (fn_228 w a0 i1 i9).bind fun v15 => (if ¬ (Int32.toInt64 i6) = 0 then (if cm_w2 96 143 r7 = true then fn_285_152 k_105 k_141 n a0 i1 i2 i4 i5 i6 i7 i8 (i9 + (1 : Int32)) (cm_sL w r7 (if ((i8 - i4) + v9) < (999 : Int32) then ((i8 - i4) + v9) else (999 : Int32)).toNatClampNeg ((cm_L w r7 (if ((i8 - i4) + v9) < (999 : Int32) then ((i8 - i4) + v9) else (999 : Int32)).toNatClampNeg) + (((cm_L w r12 i8.toNatClampNeg) * (Int32.toInt64 v15)) / (Int32.toInt64 i6)))) else none) else none) else none) else none)) else none)) else none)
theorem jt_285_152 (k_105 : Nat → Int32 → Int32 → Int32 → Int32 → Int32 → Int32 → cm_W → Option (Int32 × cm_W)) (k_141 : Nat → Int32 → Int32 → Int32 → Int32 → Int32 → Int32 → Int32 → cm_W → Option (Int32 × cm_W)) (hk_105 : ∀ (a0 : Nat) (i1 : Int32) (i2 : Int32) (i4 : Int32) (i5 : Int32) (i6 : Int32) (i7 : Int32) (w : cm_W), sm cm_g 285 ck_285 kq_285 105 [(0, .ref a0), (1, .int i1), (2, .int i2), (4, .int i4), (5, .int i5), (6, .int i6), (7, .int i7)] [] w ((k_105 a0 i1 i2 i4 i5 i6 i7 w).map cm_gI)) (hk_141 : ∀ (a0 : Nat) (i1 : Int32) (i2 : Int32) (i4 : Int32) (i5 : Int32) (i6 : Int32) (i7 : Int32) (i8 : Int32) (w : cm_W), sm cm_g 285 ck_285 kq_285 141 [(0, .ref a0), (1, .int i1), (2, .int i2), (4, .int i4), (5, .int i5), (6, .int i6), (7, .int i7), (8, .int i8)] [] w ((k_141 a0 i1 i2 i4 i5 i6 i7 i8 w).map cm_gI)) : ∀ (n : Nat) (a0 : Nat) (i1 : Int32) (i2 : Int32) (i4 : Int32) (i5 : Int32) (i6 : Int32) (i7 : Int32) (i8 : Int32) (i9 : Int32) (w : cm_W), sm cm_g 285 ck_285 kq_285 152 [(0, .ref a0), (1, .int i1), (2, .int i2), (4, .int i4), (5, .int i5), (6, .int i6), (7, .int i7), (8, .int i8), (9, .int i9)] [] w ((fn_285_152 k_105 k_141 n a0 i1 i2 i4 i5 i6 i7 i8 i9 w).map cm_gI) := by
  intro n
  induction n with
  | zero => intro a0 i1 i2 i4 i5 i6 i7 i8 i9 w; exact sm_no
  | succ n ih =>
    intro a0 i1 i2 i4 i5 i6 i7 i8 i9 w
    rw [fn_285_152]
    refine sm_seg 2 155 [(0, .ref a0), (1, .int i1), (2, .int i2), (4, .int i4), (5, .int i5), (6, .int i6), (7, .int i7), (8, .int i8), (9, .int i9)] [.ref a0, .int i9] rfl ?_
    refine sm_gd fun h1 => ?_
    refine sm_gI rfl h1 rfl ?_
    show sm _ _ _ _ 158 [(0, .ref a0), (1, .int i1), (2, .int i2), (4, .int i4), (5, .int i5), (6, .int i6), (7, .int i7), (8, .int i8), (9, .int i9)] [.int (cm_I w a0 1), .int i9] _ _
    refine sm_if (pc1 := 226) (lv1 := [(0, .ref a0), (1, .int i1), (2, .int i2), (4, .int i4), (5, .int i5), (6, .int i6), (7, .int i7), (8, .int i8)]) (pc2 := 161) (lv2 := [(0, .ref a0), (1, .int i1), (2, .int i2), (4, .int i4), (5, .int i5), (6, .int i6), (7, .int i7), (8, .int i8), (9, .int i9)]) (st1 := []) rfl rfl rfl (fun h2 => ?_) (fun h2 => ?_)
    · exact jt_285_226  k_105 k_141 hk_105 hk_141 a0 i1 i2 i4 i5 i6 i7 i8 w
    · refine sm_seg 1 162 [(0, .ref a0), (1, .int i1), (2, .int i2), (4, .int i4), (5, .int i5), (6, .int i6), (7, .int i7), (8, .int i8), (9, .int i9)] [.ref a0] rfl ?_
      refine sm_gR rfl h1 rfl rfl fun r3 h4 => ?_
      show sm _ _ _ _ 165 [(0, .ref a0), (1, .int i1), (2, .int i2), (4, .int i4), (5, .int i5), (6, .int i6), (7, .int i7), (8, .int i8), (9, .int i9)] [.ref r3] _ _
      refine sm_seg 1 167 [(0, .ref a0), (1, .int i1), (2, .int i2), (4, .int i4), (5, .int i5), (6, .int i6), (7, .int i7), (8, .int i8), (9, .int i9)] [.int i8, .ref r3] rfl ?_
      refine sm_gd fun h5 => ?_
      refine sm_al rfl h5 rfl ?_
      show sm _ _ _ _ 168 [(0, .ref a0), (1, .int i1), (2, .int i2), (4, .int i4), (5, .int i5), (6, .int i6), (7, .int i7), (8, .int i8), (9, .int i9)] [.long (cm_L w r3 i8.toNatClampNeg)] _ _
      refine sm_seg 2 170 [(0, .ref a0), (1, .int i1), (2, .int i2), (4, .int i4), (5, .int i5), (6, .int i6), (7, .int i7), (8, .int i8), (9, .int i9)] [.int (lg_cmp (cm_L w r3 i8.toNatClampNeg) (0 : Int64))] rfl ?_
      refine sm_if (pc1 := 226) (lv1 := [(0, .ref a0), (1, .int i1), (2, .int i2), (4, .int i4), (5, .int i5), (6, .int i6), (7, .int i7), (8, .int i8)]) (pc2 := 173) (lv2 := [(0, .ref a0), (1, .int i1), (2, .int i2), (4, .int i4), (5, .int i5), (6, .int i6), (7, .int i7), (8, .int i8), (9, .int i9)]) (st1 := []) rfl rfl rfl (fun h6 => ?_) (fun h6 => ?_)
      · exact jt_285_226  k_105 k_141 hk_105 hk_141 a0 i1 i2 i4 i5 i6 i7 i8 w
      · refine sm_seg 1 174 [(0, .ref a0), (1, .int i1), (2, .int i2), (4, .int i4), (5, .int i5), (6, .int i6), (7, .int i7), (8, .int i8), (9, .int i9)] [.ref a0] rfl ?_
        refine sm_gR rfl h1 rfl rfl fun r7 h8 => ?_
        show sm _ _ _ _ 177 [(0, .ref a0), (1, .int i1), (2, .int i2), (4, .int i4), (5, .int i5), (6, .int i6), (7, .int i7), (8, .int i8), (9, .int i9)] [.ref r7] _ _
        refine sm_seg 7 189 [(0, .ref a0), (1, .int i1), (2, .int i2), (4, .int i4), (5, .int i5), (6, .int i6), (7, .int i7), (8, .int i8), (9, .int i9)] [.int i2, .int i9, .ref a0, .int (i8 - i4), .int (999 : Int32), .ref r7] rfl ?_
        refine sm_cV (as := [.int i9, .int i2]) (rest := [.int (i8 - i4), .int (999 : Int32), .ref r7]) rfl rfl rfl rfl h1 (Nat.le_of_ble_eq_true rfl) (ca_222 w a0 i9 i2) fun v9 h10 => ?_
        show sm _ _ _ _ 192 [(0, .ref a0), (1, .int i1), (2, .int i2), (4, .int i4), (5, .int i5), (6, .int i6), (7, .int i7), (8, .int i8), (9, .int i9)] [.int v9, .int (i8 - i4), .int (999 : Int32), .ref r7] _ _
        refine sm_seg 1 193 [(0, .ref a0), (1, .int i1), (2, .int i2), (4, .int i4), (5, .int i5), (6, .int i6), (7, .int i7), (8, .int i8), (9, .int i9)] [.int ((i8 - i4) + v9), .int (999 : Int32), .ref r7] rfl ?_
        refine sm_at rfl rfl rfl ?_
        show sm _ _ _ _ 196 [(0, .ref a0), (1, .int i1), (2, .int i2), (4, .int i4), (5, .int i5), (6, .int i6), (7, .int i7), (8, .int i8), (9, .int i9)] [.int (if ((i8 - i4) + v9) < (999 : Int32) then ((i8 - i4) + v9) else (999 : Int32)), .ref r7] _ _
        refine sm_seg 1 197 [(0, .ref a0), (1, .int i1), (2, .int i2), (4, .int i4), (5, .int i5), (6, .int i6), (7, .int i7), (8, .int i8), (9, .int i9)] [.int (if ((i8 - i4) + v9) < (999 : Int32) then ((i8 - i4) + v9) else (999 : Int32)), .ref r7, .int (if ((i8 - i4) + v9) < (999 : Int32) then ((i8 - i4) + v9) else (999 : Int32)), .ref r7] rfl ?_
        refine sm_gd fun h11 => ?_
        refine sm_al rfl h11 rfl ?_
        show sm _ _ _ _ 198 [(0, .ref a0), (1, .int i1), (2, .int i2), (4, .int i4), (5, .int i5), (6, .int i6), (7, .int i7), (8, .int i8), (9, .int i9)] [.long (cm_L w r7 (if ((i8 - i4) + v9) < (999 : Int32) then ((i8 - i4) + v9) else (999 : Int32)).toNatClampNeg), .int (if ((i8 - i4) + v9) < (999 : Int32) then ((i8 - i4) + v9) else (999 : Int32)), .ref r7] _ _
        refine sm_seg 1 199 [(0, .ref a0), (1, .int i1), (2, .int i2), (4, .int i4), (5, .int i5), (6, .int i6), (7, .int i7), (8, .int i8), (9, .int i9)] [.ref a0, .long (cm_L w r7 (if ((i8 - i4) + v9) < (999 : Int32) then ((i8 - i4) + v9) else (999 : Int32)).toNatClampNeg), .int (if ((i8 - i4) + v9) < (999 : Int32) then ((i8 - i4) + v9) else (999 : Int32)), .ref r7] rfl ?_
        refine sm_gR rfl h1 rfl rfl fun r12 h13 => ?_
        show sm _ _ _ _ 202 [(0, .ref a0), (1, .int i1), (2, .int i2), (4, .int i4), (5, .int i5), (6, .int i6), (7, .int i7), (8, .int i8), (9, .int i9)] [.ref r12, .long (cm_L w r7 (if ((i8 - i4) + v9) < (999 : Int32) then ((i8 - i4) + v9) else (999 : Int32)).toNatClampNeg), .int (if ((i8 - i4) + v9) < (999 : Int32) then ((i8 - i4) + v9) else (999 : Int32)), .ref r7] _ _
        refine sm_seg 1 204 [(0, .ref a0), (1, .int i1), (2, .int i2), (4, .int i4), (5, .int i5), (6, .int i6), (7, .int i7), (8, .int i8), (9, .int i9)] [.int i8, .ref r12, .long (cm_L w r7 (if ((i8 - i4) + v9) < (999 : Int32) then ((i8 - i4) + v9) else (999 : Int32)).toNatClampNeg), .int (if ((i8 - i4) + v9) < (999 : Int32) then ((i8 - i4) + v9) else (999 : Int32)), .ref r7] rfl ?_
        refine sm_gd fun h14 => ?_
        refine sm_al rfl h14 rfl ?_
        show sm _ _ _ _ 205 [(0, .ref a0), (1, .int i1), (2, .int i2), (4, .int i4), (5, .int i5), (6, .int i6), (7, .int i7), (8, .int i8), (9, .int i9)] [.long (cm_L w r12 i8.toNatClampNeg), .long (cm_L w r7 (if ((i8 - i4) + v9) < (999 : Int32) then ((i8 - i4) + v9) else (999 : Int32)).toNatClampNeg), .int (if ((i8 - i4) + v9) < (999 : Int32) then ((i8 - i4) + v9) else (999 : Int32)), .ref r7] _ _
        refine sm_seg 3 209 [(0, .ref a0), (1, .int i1), (2, .int i2), (4, .int i4), (5, .int i5), (6, .int i6), (7, .int i7), (8, .int i8), (9, .int i9)] [.int i9, .int i1, .ref a0, .long (cm_L w r12 i8.toNatClampNeg), .long (cm_L w r7 (if ((i8 - i4) + v9) < (999 : Int32) then ((i8 - i4) + v9) else (999 : Int32)).toNatClampNeg), .int (if ((i8 - i4) + v9) < (999 : Int32) then ((i8 - i4) + v9) else (999 : Int32)), .ref r7] rfl ?_
        refine sm_cV (as := [.int i1, .int i9]) (rest := [.long (cm_L w r12 i8.toNatClampNeg), .long (cm_L w r7 (if ((i8 - i4) + v9) < (999 : Int32) then ((i8 - i4) + v9) else (999 : Int32)).toNatClampNeg), .int (if ((i8 - i4) + v9) < (999 : Int32) then ((i8 - i4) + v9) else (999 : Int32)), .ref r7]) rfl rfl rfl rfl h1 (Nat.le_of_ble_eq_true rfl) (ca_228 w a0 i1 i9) fun v15 h16 => ?_
        show sm _ _ _ _ 212 [(0, .ref a0), (1, .int i1), (2, .int i2), (4, .int i4), (5, .int i5), (6, .int i6), (7, .int i7), (8, .int i8), (9, .int i9)] [.int v15, .long (cm_L w r12 i8.toNatClampNeg), .long (cm_L w r7 (if ((i8 - i4) + v9) < (999 : Int32) then ((i8 - i4) + v9) else (999 : Int32)).toNatClampNeg), .int (if ((i8 - i4) + v9) < (999 : Int32) then ((i8 - i4) + v9) else (999 : Int32)), .ref r7] _ _
        refine sm_seg 4 217 [(0, .ref a0), (1, .int i1), (2, .int i2), (4, .int i4), (5, .int i5), (6, .int i6), (7, .int i7), (8, .int i8), (9, .int i9)] [.long (Int32.toInt64 i6), .long ((cm_L w r12 i8.toNatClampNeg) * (Int32.toInt64 v15)), .long (cm_L w r7 (if ((i8 - i4) + v9) < (999 : Int32) then ((i8 - i4) + v9) else (999 : Int32)).toNatClampNeg), .int (if ((i8 - i4) + v9) < (999 : Int32) then ((i8 - i4) + v9) else (999 : Int32)), .ref r7] rfl ?_
        refine sm_gd fun h17 => ?_
        refine sm_ldiv rfl h17 rfl ?_
        show sm _ _ _ _ 218 [(0, .ref a0), (1, .int i1), (2, .int i2), (4, .int i4), (5, .int i5), (6, .int i6), (7, .int i7), (8, .int i8), (9, .int i9)] [.long (((cm_L w r12 i8.toNatClampNeg) * (Int32.toInt64 v15)) / (Int32.toInt64 i6)), .long (cm_L w r7 (if ((i8 - i4) + v9) < (999 : Int32) then ((i8 - i4) + v9) else (999 : Int32)).toNatClampNeg), .int (if ((i8 - i4) + v9) < (999 : Int32) then ((i8 - i4) + v9) else (999 : Int32)), .ref r7] _ _
        refine sm_seg 1 219 [(0, .ref a0), (1, .int i1), (2, .int i2), (4, .int i4), (5, .int i5), (6, .int i6), (7, .int i7), (8, .int i8), (9, .int i9)] [.long ((cm_L w r7 (if ((i8 - i4) + v9) < (999 : Int32) then ((i8 - i4) + v9) else (999 : Int32)).toNatClampNeg) + (((cm_L w r12 i8.toNatClampNeg) * (Int32.toInt64 v15)) / (Int32.toInt64 i6))), .int (if ((i8 - i4) + v9) < (999 : Int32) then ((i8 - i4) + v9) else (999 : Int32)), .ref r7] rfl ?_
        refine sm_gd fun h18 => ?_
        refine sm_sl rfl h11 h18 rfl rfl ?_
        show sm _ _ _ _ 220 [(0, .ref a0), (1, .int i1), (2, .int i2), (4, .int i4), (5, .int i5), (6, .int i6), (7, .int i7), (8, .int i8), (9, .int i9)] [] _ _
        refine sm_seg 2 152 [(0, .ref a0), (1, .int i1), (2, .int i2), (4, .int i4), (5, .int i5), (6, .int i6), (7, .int i7), (8, .int i8), (9, .int (i9 + (1 : Int32)))] [] rfl ?_
        exact ih a0 i1 i2 i4 i5 i6 i7 i8 (i9 + (1 : Int32)) (cm_sL w r7 (if ((i8 - i4) + v9) < (999 : Int32) then ((i8 - i4) + v9) else (999 : Int32)).toNatClampNeg ((cm_L w r7 (if ((i8 - i4) + v9) < (999 : Int32) then ((i8 - i4) + v9) else (999 : Int32)).toNatClampNeg) + (((cm_L w r12 i8.toNatClampNeg) * (Int32.toInt64 v15)) / (Int32.toInt64 i6))))
def fn_285_263 (k_105 : Nat → Int32 → Int32 → Int32 → Int32 → Int32 → Int32 → cm_W → Option (Int32 × cm_W)) (a0 : Nat) (i1 : Int32) (i2 : Int32) (i4 : Int32) (i5 : Int32) (i6 : Int32) (i7 : Int32) (w : cm_W) : Option (Int32 × cm_W) := k_105 a0 i1 i2 i4 i5 i6 (i7 + (1 : Int32)) w
theorem jt_285_263 (k_105 : Nat → Int32 → Int32 → Int32 → Int32 → Int32 → Int32 → cm_W → Option (Int32 × cm_W)) (hk_105 : ∀ (a0 : Nat) (i1 : Int32) (i2 : Int32) (i4 : Int32) (i5 : Int32) (i6 : Int32) (i7 : Int32) (w : cm_W), sm cm_g 285 ck_285 kq_285 105 [(0, .ref a0), (1, .int i1), (2, .int i2), (4, .int i4), (5, .int i5), (6, .int i6), (7, .int i7)] [] w ((k_105 a0 i1 i2 i4 i5 i6 i7 w).map cm_gI)) (a0 : Nat) (i1 : Int32) (i2 : Int32) (i4 : Int32) (i5 : Int32) (i6 : Int32) (i7 : Int32) (w : cm_W) : sm cm_g 285 ck_285 kq_285 263 [(0, .ref a0), (1, .int i1), (2, .int i2), (4, .int i4), (5, .int i5), (6, .int i6), (7, .int i7)] [] w ((fn_285_263 k_105 a0 i1 i2 i4 i5 i6 i7 w).map cm_gI) := by
  unfold fn_285_263
  refine sm_seg 2 105 [(0, .ref a0), (1, .int i1), (2, .int i2), (4, .int i4), (5, .int i5), (6, .int i6), (7, .int (i7 + (1 : Int32)))] [] rfl ?_
  exact hk_105 a0 i1 i2 i4 i5 i6 (i7 + (1 : Int32)) w
def fn_285_235 (k_105 : Nat → Int32 → Int32 → Int32 → Int32 → Int32 → Int32 → cm_W → Option (Int32 × cm_W)) : Nat → Nat → Int32 → Int32 → Int32 → Int32 → Int32 → Int32 → Int32 → cm_W → Option (Int32 × cm_W)
  | 0, _, _, _, _, _, _, _, _, _ => none
  | n + 1, a0, i1, i2, i4, i5, i6, i7, i8, w => (if (999 : Int32) < i8 then fn_285_263  k_105 a0 i1 i2 i4 i5 i6 i7 w else (if cm_sh w a0 = some (.inl 11) then (cm_R w a0 69).bind fun r21 => (cm_R w a0 70).bind fun r23 => (if cm_ga w .long r23 i8 = true then (if cm_ga w .long r21 i8 = true then (if cm_w2 96 143 r21 = true then fn_285_235 k_105 n a0 i1 i2 i4 i5 i6 i7 (i8 + (1 : Int32)) (cm_sL w r21 i8.toNatClampNeg (cm_L w r23 i8.toNatClampNeg)) else none) else none) else none) else none))
theorem jt_285_235 (k_105 : Nat → Int32 → Int32 → Int32 → Int32 → Int32 → Int32 → cm_W → Option (Int32 × cm_W)) (hk_105 : ∀ (a0 : Nat) (i1 : Int32) (i2 : Int32) (i4 : Int32) (i5 : Int32) (i6 : Int32) (i7 : Int32) (w : cm_W), sm cm_g 285 ck_285 kq_285 105 [(0, .ref a0), (1, .int i1), (2, .int i2), (4, .int i4), (5, .int i5), (6, .int i6), (7, .int i7)] [] w ((k_105 a0 i1 i2 i4 i5 i6 i7 w).map cm_gI)) : ∀ (n : Nat) (a0 : Nat) (i1 : Int32) (i2 : Int32) (i4 : Int32) (i5 : Int32) (i6 : Int32) (i7 : Int32) (i8 : Int32) (w : cm_W), sm cm_g 285 ck_285 kq_285 235 [(0, .ref a0), (1, .int i1), (2, .int i2), (4, .int i4), (5, .int i5), (6, .int i6), (7, .int i7), (8, .int i8)] [] w ((fn_285_235 k_105 n a0 i1 i2 i4 i5 i6 i7 i8 w).map cm_gI) := by
  intro n
  induction n with
  | zero => intro a0 i1 i2 i4 i5 i6 i7 i8 w; exact sm_no
  | succ n ih =>
    intro a0 i1 i2 i4 i5 i6 i7 i8 w
    rw [fn_285_235]
    refine sm_seg 2 240 [(0, .ref a0), (1, .int i1), (2, .int i2), (4, .int i4), (5, .int i5), (6, .int i6), (7, .int i7), (8, .int i8)] [.int (999 : Int32), .int i8] rfl ?_
    refine sm_if (pc1 := 263) (lv1 := [(0, .ref a0), (1, .int i1), (2, .int i2), (4, .int i4), (5, .int i5), (6, .int i6), (7, .int i7)]) (pc2 := 243) (lv2 := [(0, .ref a0), (1, .int i1), (2, .int i2), (4, .int i4), (5, .int i5), (6, .int i6), (7, .int i7), (8, .int i8)]) (st1 := []) rfl rfl rfl (fun h19 => ?_) (fun h19 => ?_)
    · exact jt_285_263  k_105 hk_105 a0 i1 i2 i4 i5 i6 i7 w
    · refine sm_seg 1 244 [(0, .ref a0), (1, .int i1), (2, .int i2), (4, .int i4), (5, .int i5), (6, .int i6), (7, .int i7), (8, .int i8)] [.ref a0] rfl ?_
      refine sm_gd fun h20 => ?_
      refine sm_gR rfl h20 rfl rfl fun r21 h22 => ?_
      show sm _ _ _ _ 247 [(0, .ref a0), (1, .int i1), (2, .int i2), (4, .int i4), (5, .int i5), (6, .int i6), (7, .int i7), (8, .int i8)] [.ref r21] _ _
      refine sm_seg 2 250 [(0, .ref a0), (1, .int i1), (2, .int i2), (4, .int i4), (5, .int i5), (6, .int i6), (7, .int i7), (8, .int i8)] [.ref a0, .int i8, .ref r21] rfl ?_
      refine sm_gR rfl h20 rfl rfl fun r23 h24 => ?_
      show sm _ _ _ _ 253 [(0, .ref a0), (1, .int i1), (2, .int i2), (4, .int i4), (5, .int i5), (6, .int i6), (7, .int i7), (8, .int i8)] [.ref r23, .int i8, .ref r21] _ _
      refine sm_seg 1 255 [(0, .ref a0), (1, .int i1), (2, .int i2), (4, .int i4), (5, .int i5), (6, .int i6), (7, .int i7), (8, .int i8)] [.int i8, .ref r23, .int i8, .ref r21] rfl ?_
      refine sm_gd fun h25 => ?_
      refine sm_al rfl h25 rfl ?_
      show sm _ _ _ _ 256 [(0, .ref a0), (1, .int i1), (2, .int i2), (4, .int i4), (5, .int i5), (6, .int i6), (7, .int i7), (8, .int i8)] [.long (cm_L w r23 i8.toNatClampNeg), .int i8, .ref r21] _ _
      refine sm_gd fun h26 => ?_
      refine sm_gd fun h27 => ?_
      refine sm_sl rfl h26 h27 rfl rfl ?_
      show sm _ _ _ _ 257 [(0, .ref a0), (1, .int i1), (2, .int i2), (4, .int i4), (5, .int i5), (6, .int i6), (7, .int i7), (8, .int i8)] [] _ _
      refine sm_seg 2 235 [(0, .ref a0), (1, .int i1), (2, .int i2), (4, .int i4), (5, .int i5), (6, .int i6), (7, .int i7), (8, .int (i8 + (1 : Int32)))] [] rfl ?_
      exact ih a0 i1 i2 i4 i5 i6 i7 (i8 + (1 : Int32)) (cm_sL w r21 i8.toNatClampNeg (cm_L w r23 i8.toNatClampNeg))
def fn_285_232 (k_105 : Nat → Int32 → Int32 → Int32 → Int32 → Int32 → Int32 → cm_W → Option (Int32 × cm_W)) (a0 : Nat) (i1 : Int32) (i2 : Int32) (i4 : Int32) (i5 : Int32) (i6 : Int32) (i7 : Int32) (w : cm_W) : Option (Int32 × cm_W) := fn_285_235  k_105 cm_N a0 i1 i2 i4 i5 i6 i7 (0 : Int32) w
theorem jt_285_232 (k_105 : Nat → Int32 → Int32 → Int32 → Int32 → Int32 → Int32 → cm_W → Option (Int32 × cm_W)) (hk_105 : ∀ (a0 : Nat) (i1 : Int32) (i2 : Int32) (i4 : Int32) (i5 : Int32) (i6 : Int32) (i7 : Int32) (w : cm_W), sm cm_g 285 ck_285 kq_285 105 [(0, .ref a0), (1, .int i1), (2, .int i2), (4, .int i4), (5, .int i5), (6, .int i6), (7, .int i7)] [] w ((k_105 a0 i1 i2 i4 i5 i6 i7 w).map cm_gI)) (a0 : Nat) (i1 : Int32) (i2 : Int32) (i4 : Int32) (i5 : Int32) (i6 : Int32) (i7 : Int32) (w : cm_W) : sm cm_g 285 ck_285 kq_285 232 [(0, .ref a0), (1, .int i1), (2, .int i2), (4, .int i4), (5, .int i5), (6, .int i6), (7, .int i7)] [] w ((fn_285_232 k_105 a0 i1 i2 i4 i5 i6 i7 w).map cm_gI) := by
  unfold fn_285_232
  refine sm_seg 2 235 [(0, .ref a0), (1, .int i1), (2, .int i2), (4, .int i4), (5, .int i5), (6, .int i6), (7, .int i7), (8, .int (0 : Int32))] [] rfl ?_
  exact jt_285_235  k_105 hk_105 cm_N a0 i1 i2 i4 i5 i6 i7 (0 : Int32) w
def fn_285_141 (k_105 : Nat → Int32 → Int32 → Int32 → Int32 → Int32 → Int32 → cm_W → Option (Int32 × cm_W)) : Nat → Nat → Int32 → Int32 → Int32 → Int32 → Int32 → Int32 → Int32 → cm_W → Option (Int32 × cm_W)
  | 0, _, _, _, _, _, _, _, _, _ => none
  | n + 1, a0, i1, i2, i4, i5, i6, i7, i8, w => (if (999 : Int32) < i8 then fn_285_232  k_105 a0 i1 i2 i4 i5 i6 i7 w else fn_285_152  k_105 (fn_285_141 k_105 n) cm_N a0 i1 i2 i4 i5 i6 i7 i8 (0 : Int32) w)
theorem jt_285_141 (k_105 : Nat → Int32 → Int32 → Int32 → Int32 → Int32 → Int32 → cm_W → Option (Int32 × cm_W)) (hk_105 : ∀ (a0 : Nat) (i1 : Int32) (i2 : Int32) (i4 : Int32) (i5 : Int32) (i6 : Int32) (i7 : Int32) (w : cm_W), sm cm_g 285 ck_285 kq_285 105 [(0, .ref a0), (1, .int i1), (2, .int i2), (4, .int i4), (5, .int i5), (6, .int i6), (7, .int i7)] [] w ((k_105 a0 i1 i2 i4 i5 i6 i7 w).map cm_gI)) : ∀ (n : Nat) (a0 : Nat) (i1 : Int32) (i2 : Int32) (i4 : Int32) (i5 : Int32) (i6 : Int32) (i7 : Int32) (i8 : Int32) (w : cm_W), sm cm_g 285 ck_285 kq_285 141 [(0, .ref a0), (1, .int i1), (2, .int i2), (4, .int i4), (5, .int i5), (6, .int i6), (7, .int i7), (8, .int i8)] [] w ((fn_285_141 k_105 n a0 i1 i2 i4 i5 i6 i7 i8 w).map cm_gI) := by
  intro n
  induction n with
  | zero => intro a0 i1 i2 i4 i5 i6 i7 i8 w; exact sm_no
  | succ n ih =>
    intro a0 i1 i2 i4 i5 i6 i7 i8 w
    rw [fn_285_141]
    refine sm_seg 2 146 [(0, .ref a0), (1, .int i1), (2, .int i2), (4, .int i4), (5, .int i5), (6, .int i6), (7, .int i7), (8, .int i8)] [.int (999 : Int32), .int i8] rfl ?_
    refine sm_if (pc1 := 232) (lv1 := [(0, .ref a0), (1, .int i1), (2, .int i2), (4, .int i4), (5, .int i5), (6, .int i6), (7, .int i7)]) (pc2 := 149) (lv2 := [(0, .ref a0), (1, .int i1), (2, .int i2), (4, .int i4), (5, .int i5), (6, .int i6), (7, .int i7), (8, .int i8)]) (st1 := []) rfl rfl rfl (fun h28 => ?_) (fun h28 => ?_)
    · exact jt_285_232  k_105 hk_105 a0 i1 i2 i4 i5 i6 i7 w
    · refine sm_seg 2 152 [(0, .ref a0), (1, .int i1), (2, .int i2), (4, .int i4), (5, .int i5), (6, .int i6), (7, .int i7), (8, .int i8), (9, .int (0 : Int32))] [] rfl ?_
      exact jt_285_152  k_105 (fn_285_141 k_105 n) hk_105 ih cm_N a0 i1 i2 i4 i5 i6 i7 i8 (0 : Int32) w
def fn_285_137 (k_105 : Nat → Int32 → Int32 → Int32 → Int32 → Int32 → Int32 → cm_W → Option (Int32 × cm_W)) (a0 : Nat) (i1 : Int32) (i2 : Int32) (i4 : Int32) (i5 : Int32) (i6 : Int32) (i7 : Int32) (w : cm_W) : Option (Int32 × cm_W) := fn_285_141  k_105 cm_N a0 i1 i2 i4 i5 i6 i7 i4 w
theorem jt_285_137 (k_105 : Nat → Int32 → Int32 → Int32 → Int32 → Int32 → Int32 → cm_W → Option (Int32 × cm_W)) (hk_105 : ∀ (a0 : Nat) (i1 : Int32) (i2 : Int32) (i4 : Int32) (i5 : Int32) (i6 : Int32) (i7 : Int32) (w : cm_W), sm cm_g 285 ck_285 kq_285 105 [(0, .ref a0), (1, .int i1), (2, .int i2), (4, .int i4), (5, .int i5), (6, .int i6), (7, .int i7)] [] w ((k_105 a0 i1 i2 i4 i5 i6 i7 w).map cm_gI)) (a0 : Nat) (i1 : Int32) (i2 : Int32) (i4 : Int32) (i5 : Int32) (i6 : Int32) (i7 : Int32) (w : cm_W) : sm cm_g 285 ck_285 kq_285 137 [(0, .ref a0), (1, .int i1), (2, .int i2), (4, .int i4), (5, .int i5), (6, .int i6), (7, .int i7)] [] w ((fn_285_137 k_105 a0 i1 i2 i4 i5 i6 i7 w).map cm_gI) := by
  unfold fn_285_137
  refine sm_seg 2 141 [(0, .ref a0), (1, .int i1), (2, .int i2), (4, .int i4), (5, .int i5), (6, .int i6), (7, .int i7), (8, .int i4)] [] rfl ?_
  exact jt_285_141  k_105 hk_105 cm_N a0 i1 i2 i4 i5 i6 i7 i4 w
def fn_285_115 (k_105 : Nat → Int32 → Int32 → Int32 → Int32 → Int32 → Int32 → cm_W → Option (Int32 × cm_W)) : Nat → Nat → Int32 → Int32 → Int32 → Int32 → Int32 → Int32 → Int32 → cm_W → Option (Int32 × cm_W)
  | 0, _, _, _, _, _, _, _, _, _ => none
  | n + 1, a0, i1, i2, i4, i5, i6, i7, i8, w => (if (999 : Int32) < i8 then fn_285_137  k_105 a0 i1 i2 i4 i5 i6 i7 w else (if cm_sh w a0 = some (.inl 11) then (cm_R w a0 70).bind fun r31 => (if cm_ga w .long r31 i8 = true then (if cm_w2 96 143 r31 = true then fn_285_115 k_105 n a0 i1 i2 i4 i5 i6 i7 (i8 + (1 : Int32)) (cm_sL w r31 i8.toNatClampNeg (0 : Int64)) else none) else none) else none))
theorem jt_285_115 (k_105 : Nat → Int32 → Int32 → Int32 → Int32 → Int32 → Int32 → cm_W → Option (Int32 × cm_W)) (hk_105 : ∀ (a0 : Nat) (i1 : Int32) (i2 : Int32) (i4 : Int32) (i5 : Int32) (i6 : Int32) (i7 : Int32) (w : cm_W), sm cm_g 285 ck_285 kq_285 105 [(0, .ref a0), (1, .int i1), (2, .int i2), (4, .int i4), (5, .int i5), (6, .int i6), (7, .int i7)] [] w ((k_105 a0 i1 i2 i4 i5 i6 i7 w).map cm_gI)) : ∀ (n : Nat) (a0 : Nat) (i1 : Int32) (i2 : Int32) (i4 : Int32) (i5 : Int32) (i6 : Int32) (i7 : Int32) (i8 : Int32) (w : cm_W), sm cm_g 285 ck_285 kq_285 115 [(0, .ref a0), (1, .int i1), (2, .int i2), (4, .int i4), (5, .int i5), (6, .int i6), (7, .int i7), (8, .int i8)] [] w ((fn_285_115 k_105 n a0 i1 i2 i4 i5 i6 i7 i8 w).map cm_gI) := by
  intro n
  induction n with
  | zero => intro a0 i1 i2 i4 i5 i6 i7 i8 w; exact sm_no
  | succ n ih =>
    intro a0 i1 i2 i4 i5 i6 i7 i8 w
    rw [fn_285_115]
    refine sm_seg 2 120 [(0, .ref a0), (1, .int i1), (2, .int i2), (4, .int i4), (5, .int i5), (6, .int i6), (7, .int i7), (8, .int i8)] [.int (999 : Int32), .int i8] rfl ?_
    refine sm_if (pc1 := 137) (lv1 := [(0, .ref a0), (1, .int i1), (2, .int i2), (4, .int i4), (5, .int i5), (6, .int i6), (7, .int i7)]) (pc2 := 123) (lv2 := [(0, .ref a0), (1, .int i1), (2, .int i2), (4, .int i4), (5, .int i5), (6, .int i6), (7, .int i7), (8, .int i8)]) (st1 := []) rfl rfl rfl (fun h29 => ?_) (fun h29 => ?_)
    · exact jt_285_137  k_105 hk_105 a0 i1 i2 i4 i5 i6 i7 w
    · refine sm_seg 1 124 [(0, .ref a0), (1, .int i1), (2, .int i2), (4, .int i4), (5, .int i5), (6, .int i6), (7, .int i7), (8, .int i8)] [.ref a0] rfl ?_
      refine sm_gd fun h30 => ?_
      refine sm_gR rfl h30 rfl rfl fun r31 h32 => ?_
      show sm _ _ _ _ 127 [(0, .ref a0), (1, .int i1), (2, .int i2), (4, .int i4), (5, .int i5), (6, .int i6), (7, .int i7), (8, .int i8)] [.ref r31] _ _
      refine sm_seg 2 130 [(0, .ref a0), (1, .int i1), (2, .int i2), (4, .int i4), (5, .int i5), (6, .int i6), (7, .int i7), (8, .int i8)] [.long (0 : Int64), .int i8, .ref r31] rfl ?_
      refine sm_gd fun h33 => ?_
      refine sm_gd fun h34 => ?_
      refine sm_sl rfl h33 h34 rfl rfl ?_
      show sm _ _ _ _ 131 [(0, .ref a0), (1, .int i1), (2, .int i2), (4, .int i4), (5, .int i5), (6, .int i6), (7, .int i7), (8, .int i8)] [] _ _
      refine sm_seg 2 115 [(0, .ref a0), (1, .int i1), (2, .int i2), (4, .int i4), (5, .int i5), (6, .int i6), (7, .int i7), (8, .int (i8 + (1 : Int32)))] [] rfl ?_
      exact ih a0 i1 i2 i4 i5 i6 i7 (i8 + (1 : Int32)) (cm_sL w r31 i8.toNatClampNeg (0 : Int64))
def fn_285_301 (j7 : Int64) (w : cm_W) : Option (Int32 × cm_W) := (fn_197 w j7 (100000000000000 : Int64) (6 : Int32)).bind fun v35 => some ((Int64.toInt32 v35), w)
theorem jt_285_301 (j7 : Int64) (w : cm_W) : sm cm_g 285 ck_285 kq_285 301 [(7, .long j7)] [] w ((fn_285_301 j7 w).map cm_gI) := by
  unfold fn_285_301
  refine sm_seg 3 308 [(7, .long j7)] [.int (6 : Int32), .long (100000000000000 : Int64), .long j7] rfl ?_
  refine sm_cS (av := [.long j7, .long (100000000000000 : Int64), .int (6 : Int32)]) (rest := []) rfl rfl rfl rfl (Nat.le_of_ble_eq_true rfl) (ca_197 w j7 (100000000000000 : Int64) (6 : Int32)) fun v35 h36 => ?_
  show sm _ _ _ _ 311 [(7, .long j7)] [.long v35] _ _
  refine sm_seg 1 312 [(7, .long j7)] [.int (Int64.toInt32 v35)] rfl ?_
  exact sm_rIW rfl rfl
def fn_285_275 : Nat → Nat → Int64 → Int32 → cm_W → Option (Int32 × cm_W)
  | 0, _, _, _, _ => none
  | n + 1, a0, j7, i9, w => (if (999 : Int32) < i9 then fn_285_301  j7 w else (if cm_sh w a0 = some (.inl 11) then (cm_R w a0 69).bind fun r39 => (if cm_ga w .long r39 i9 = true then fn_285_275 n a0 (j7 + (cm_L w r39 i9.toNatClampNeg)) (i9 + (1 : Int32)) w else none) else none))
theorem jt_285_275 : ∀ (n : Nat) (a0 : Nat) (j7 : Int64) (i9 : Int32) (w : cm_W), sm cm_g 285 ck_285 kq_285 275 [(0, .ref a0), (7, .long j7), (9, .int i9)] [] w ((fn_285_275 n a0 j7 i9 w).map cm_gI) := by
  intro n
  induction n with
  | zero => intro a0 j7 i9 w; exact sm_no
  | succ n ih =>
    intro a0 j7 i9 w
    rw [fn_285_275]
    refine sm_seg 2 280 [(0, .ref a0), (7, .long j7), (9, .int i9)] [.int (999 : Int32), .int i9] rfl ?_
    refine sm_if (pc1 := 301) (lv1 := [(7, .long j7)]) (pc2 := 283) (lv2 := [(0, .ref a0), (7, .long j7), (9, .int i9)]) (st1 := []) rfl rfl rfl (fun h37 => ?_) (fun h37 => ?_)
    · exact jt_285_301  j7 w
    · refine sm_seg 2 286 [(0, .ref a0), (7, .long j7), (9, .int i9)] [.ref a0, .long j7] rfl ?_
      refine sm_gd fun h38 => ?_
      refine sm_gR rfl h38 rfl rfl fun r39 h40 => ?_
      show sm _ _ _ _ 289 [(0, .ref a0), (7, .long j7), (9, .int i9)] [.ref r39, .long j7] _ _
      refine sm_seg 1 291 [(0, .ref a0), (7, .long j7), (9, .int i9)] [.int i9, .ref r39, .long j7] rfl ?_
      refine sm_gd fun h41 => ?_
      refine sm_al rfl h41 rfl ?_
      show sm _ _ _ _ 292 [(0, .ref a0), (7, .long j7), (9, .int i9)] [.long (cm_L w r39 i9.toNatClampNeg), .long j7] _ _
      refine sm_seg 4 275 [(0, .ref a0), (7, .long (j7 + (cm_L w r39 i9.toNatClampNeg))), (9, .int (i9 + (1 : Int32)))] [] rfl ?_
      exact ih a0 (j7 + (cm_L w r39 i9.toNatClampNeg)) (i9 + (1 : Int32)) w
def fn_285_269 (a0 : Nat) (w : cm_W) : Option (Int32 × cm_W) := fn_285_275  cm_N a0 (0 : Int64) (0 : Int32) w
theorem jt_285_269 (a0 : Nat) (w : cm_W) : sm cm_g 285 ck_285 kq_285 269 [(0, .ref a0)] [] w ((fn_285_269 a0 w).map cm_gI) := by
  unfold fn_285_269
  refine sm_seg 4 275 [(0, .ref a0), (7, .long (0 : Int64)), (9, .int (0 : Int32))] [] rfl ?_
  exact jt_285_275  cm_N a0 (0 : Int64) (0 : Int32) w
def fn_285_105 : Nat → Nat → Int32 → Int32 → Int32 → Int32 → Int32 → Int32 → cm_W → Option (Int32 × cm_W)
  | 0, _, _, _, _, _, _, _, _ => none
  | n + 1, a0, i1, i2, i4, i5, i6, i7, w => (if i5 ≤ i7 then fn_285_269  a0 w else fn_285_115  (fn_285_105 n) cm_N a0 i1 i2 i4 i5 i6 i7 (0 : Int32) w)
theorem jt_285_105 : ∀ (n : Nat) (a0 : Nat) (i1 : Int32) (i2 : Int32) (i4 : Int32) (i5 : Int32) (i6 : Int32) (i7 : Int32) (w : cm_W), sm cm_g 285 ck_285 kq_285 105 [(0, .ref a0), (1, .int i1), (2, .int i2), (4, .int i4), (5, .int i5), (6, .int i6), (7, .int i7)] [] w ((fn_285_105 n a0 i1 i2 i4 i5 i6 i7 w).map cm_gI) := by
  intro n
  induction n with
  | zero => intro a0 i1 i2 i4 i5 i6 i7 w; exact sm_no
  | succ n ih =>
    intro a0 i1 i2 i4 i5 i6 i7 w
    rw [fn_285_105]
    refine sm_seg 2 109 [(0, .ref a0), (1, .int i1), (2, .int i2), (4, .int i4), (5, .int i5), (6, .int i6), (7, .int i7)] [.int i5, .int i7] rfl ?_
    refine sm_if (pc1 := 269) (lv1 := [(0, .ref a0)]) (pc2 := 112) (lv2 := [(0, .ref a0), (1, .int i1), (2, .int i2), (4, .int i4), (5, .int i5), (6, .int i6), (7, .int i7)]) (st1 := []) rfl rfl rfl (fun h42 => ?_) (fun h42 => ?_)
    · exact jt_285_269  a0 w
    · refine sm_seg 2 115 [(0, .ref a0), (1, .int i1), (2, .int i2), (4, .int i4), (5, .int i5), (6, .int i6), (7, .int i7), (8, .int (0 : Int32))] [] rfl ?_
      exact jt_285_115  (fn_285_105 n) ih cm_N a0 i1 i2 i4 i5 i6 i7 (0 : Int32) w
def fn_285_102 (a0 : Nat) (i1 : Int32) (i2 : Int32) (i4 : Int32) (i5 : Int32) (i6 : Int32) (w : cm_W) : Option (Int32 × cm_W) := fn_285_105  cm_N a0 i1 i2 i4 i5 i6 (0 : Int32) w
theorem jt_285_102 (a0 : Nat) (i1 : Int32) (i2 : Int32) (i4 : Int32) (i5 : Int32) (i6 : Int32) (w : cm_W) : sm cm_g 285 ck_285 kq_285 102 [(0, .ref a0), (1, .int i1), (2, .int i2), (4, .int i4), (5, .int i5), (6, .int i6)] [] w ((fn_285_102 a0 i1 i2 i4 i5 i6 w).map cm_gI) := by
  unfold fn_285_102
  refine sm_seg 2 105 [(0, .ref a0), (1, .int i1), (2, .int i2), (4, .int i4), (5, .int i5), (6, .int i6), (7, .int (0 : Int32))] [] rfl ?_
  exact jt_285_105  cm_N a0 i1 i2 i4 i5 i6 (0 : Int32) w
def fn_285_68 : Nat → Nat → Int32 → Int32 → Int32 → Int32 → Int32 → Int32 → Int32 → cm_W → Option (Int32 × cm_W)
  | 0, _, _, _, _, _, _, _, _, _ => none
  | n + 1, a0, i1, i2, i3, i4, i5, i6, i7, w => (if (999 : Int32) < i7 then fn_285_102  a0 i1 i2 i4 i5 i6 w else (if cm_sh w a0 = some (.inl 11) then (cm_R w a0 69).bind fun r45 => (if ¬ i7 = i3 then (if cm_ga w .long r45 i7 = true then (if cm_w2 96 143 r45 = true then fn_285_68 n a0 i1 i2 i3 i4 i5 i6 (i7 + (1 : Int32)) (cm_sL w r45 i7.toNatClampNeg (0 : Int64)) else none) else none) else (if cm_ga w .long r45 i7 = true then (if cm_w2 96 143 r45 = true then fn_285_68 n a0 i1 i2 i3 i4 i5 i6 (i7 + (1 : Int32)) (cm_sL w r45 i7.toNatClampNeg (100000000000000 : Int64)) else none) else none)) else none))
theorem jt_285_68 : ∀ (n : Nat) (a0 : Nat) (i1 : Int32) (i2 : Int32) (i3 : Int32) (i4 : Int32) (i5 : Int32) (i6 : Int32) (i7 : Int32) (w : cm_W), sm cm_g 285 ck_285 kq_285 68 [(0, .ref a0), (1, .int i1), (2, .int i2), (3, .int i3), (4, .int i4), (5, .int i5), (6, .int i6), (7, .int i7)] [] w ((fn_285_68 n a0 i1 i2 i3 i4 i5 i6 i7 w).map cm_gI) := by
  intro n
  induction n with
  | zero => intro a0 i1 i2 i3 i4 i5 i6 i7 w; exact sm_no
  | succ n ih =>
    intro a0 i1 i2 i3 i4 i5 i6 i7 w
    rw [fn_285_68]
    refine sm_seg 2 73 [(0, .ref a0), (1, .int i1), (2, .int i2), (3, .int i3), (4, .int i4), (5, .int i5), (6, .int i6), (7, .int i7)] [.int (999 : Int32), .int i7] rfl ?_
    refine sm_if (pc1 := 102) (lv1 := [(0, .ref a0), (1, .int i1), (2, .int i2), (4, .int i4), (5, .int i5), (6, .int i6)]) (pc2 := 76) (lv2 := [(0, .ref a0), (1, .int i1), (2, .int i2), (3, .int i3), (4, .int i4), (5, .int i5), (6, .int i6), (7, .int i7)]) (st1 := []) rfl rfl rfl (fun h43 => ?_) (fun h43 => ?_)
    · exact jt_285_102  a0 i1 i2 i4 i5 i6 w
    · refine sm_seg 1 77 [(0, .ref a0), (1, .int i1), (2, .int i2), (3, .int i3), (4, .int i4), (5, .int i5), (6, .int i6), (7, .int i7)] [.ref a0] rfl ?_
      refine sm_gd fun h44 => ?_
      refine sm_gR rfl h44 rfl rfl fun r45 h46 => ?_
      show sm _ _ _ _ 80 [(0, .ref a0), (1, .int i1), (2, .int i2), (3, .int i3), (4, .int i4), (5, .int i5), (6, .int i6), (7, .int i7)] [.ref r45] _ _
      refine sm_seg 3 85 [(0, .ref a0), (1, .int i1), (2, .int i2), (3, .int i3), (4, .int i4), (5, .int i5), (6, .int i6), (7, .int i7)] [.int i3, .int i7, .int i7, .ref r45] rfl ?_
      refine sm_if (pc1 := 94) (lv1 := [(0, .ref a0), (1, .int i1), (2, .int i2), (3, .int i3), (4, .int i4), (5, .int i5), (6, .int i6), (7, .int i7)]) (pc2 := 88) (lv2 := [(0, .ref a0), (1, .int i1), (2, .int i2), (3, .int i3), (4, .int i4), (5, .int i5), (6, .int i6), (7, .int i7)]) (st1 := [.int i7, .ref r45]) rfl rfl rfl (fun h47 => ?_) (fun h47 => ?_)
      · refine sm_seg 1 95 [(0, .ref a0), (1, .int i1), (2, .int i2), (3, .int i3), (4, .int i4), (5, .int i5), (6, .int i6), (7, .int i7)] [.long (0 : Int64), .int i7, .ref r45] rfl ?_
        refine sm_gd fun h48 => ?_
        refine sm_gd fun h49 => ?_
        refine sm_sl rfl h48 h49 rfl rfl ?_
        show sm _ _ _ _ 96 [(0, .ref a0), (1, .int i1), (2, .int i2), (3, .int i3), (4, .int i4), (5, .int i5), (6, .int i6), (7, .int i7)] [] _ _
        refine sm_seg 2 68 [(0, .ref a0), (1, .int i1), (2, .int i2), (3, .int i3), (4, .int i4), (5, .int i5), (6, .int i6), (7, .int (i7 + (1 : Int32)))] [] rfl ?_
        exact ih a0 i1 i2 i3 i4 i5 i6 (i7 + (1 : Int32)) (cm_sL w r45 i7.toNatClampNeg (0 : Int64))
      · refine sm_seg 2 95 [(0, .ref a0), (1, .int i1), (2, .int i2), (3, .int i3), (4, .int i4), (5, .int i5), (6, .int i6), (7, .int i7)] [.long (100000000000000 : Int64), .int i7, .ref r45] rfl ?_
        refine sm_gd fun h50 => ?_
        refine sm_gd fun h51 => ?_
        refine sm_sl rfl h50 h51 rfl rfl ?_
        show sm _ _ _ _ 96 [(0, .ref a0), (1, .int i1), (2, .int i2), (3, .int i3), (4, .int i4), (5, .int i5), (6, .int i6), (7, .int i7)] [] _ _
        refine sm_seg 2 68 [(0, .ref a0), (1, .int i1), (2, .int i2), (3, .int i3), (4, .int i4), (5, .int i5), (6, .int i6), (7, .int (i7 + (1 : Int32)))] [] rfl ?_
        exact ih a0 i1 i2 i3 i4 i5 i6 (i7 + (1 : Int32)) (cm_sL w r45 i7.toNatClampNeg (100000000000000 : Int64))
def fn_285_58 (a0 : Nat) (i1 : Int32) (i2 : Int32) (i3 : Int32) (i4 : Int32) (i5 : Int32) (w : cm_W) : Option (Int32 × cm_W) := (if cm_sh w a0 = some (.inl 11) then (fn_229 w a0 i1).bind fun v53 => fn_285_68  cm_N a0 i1 i2 i3 i4 i5 v53 (0 : Int32) w else none)
theorem jt_285_58 (a0 : Nat) (i1 : Int32) (i2 : Int32) (i3 : Int32) (i4 : Int32) (i5 : Int32) (w : cm_W) : sm cm_g 285 ck_285 kq_285 58 [(0, .ref a0), (1, .int i1), (2, .int i2), (3, .int i3), (4, .int i4), (5, .int i5)] [] w ((fn_285_58 a0 i1 i2 i3 i4 i5 w).map cm_gI) := by
  unfold fn_285_58
  refine sm_seg 2 60 [(0, .ref a0), (1, .int i1), (2, .int i2), (3, .int i3), (4, .int i4), (5, .int i5)] [.int i1, .ref a0] rfl ?_
  refine sm_gd fun h52 => ?_
  refine sm_cV (as := [.int i1]) (rest := []) rfl rfl rfl rfl h52 (Nat.le_of_ble_eq_true rfl) (ca_229 w a0 i1) fun v53 h54 => ?_
  show sm _ _ _ _ 63 [(0, .ref a0), (1, .int i1), (2, .int i2), (3, .int i3), (4, .int i4), (5, .int i5)] [.int v53] _ _
  refine sm_seg 3 68 [(0, .ref a0), (1, .int i1), (2, .int i2), (3, .int i3), (4, .int i4), (5, .int i5), (6, .int v53), (7, .int (0 : Int32))] [] rfl ?_
  exact jt_285_68  cm_N a0 i1 i2 i3 i4 i5 v53 (0 : Int32) w
def fn_285 (a0 : Nat) (i1 : Int32) (i2 : Int32) (i3 : Int32) (i4 : Int32) (i5 : Int32) (w : cm_W) : Option (Int32 × cm_W) := (if cm_sh w a0 = some (.inl 11) then (fn_225 w a0 i1).bind fun v56 => (if (cm_b v56) = 0 then some ((-1 : Int32), w) else (fn_226 w i2).bind fun v59 => (if (cm_b v59) = 0 then some ((-1 : Int32), w) else (fn_194 w i3 (0 : Int32) (999 : Int32)).bind fun v62 => (if (cm_b v62) = 0 then some ((-1 : Int32), w) else (fn_194 w i4 (0 : Int32) (999 : Int32)).bind fun v65 => (if (cm_b v65) = 0 then some ((-1 : Int32), w) else (fn_194 w i5 (1 : Int32) (20 : Int32)).bind fun v68 => (if (cm_b v68) = 0 then some ((-1 : Int32), w) else (if ¬ (cm_I w a0 1) = 0 then fn_285_58  a0 i1 i2 i3 i4 i5 w else some ((-1 : Int32), w))))))) else none)
theorem jt_285_0 (a0 : Nat) (i1 : Int32) (i2 : Int32) (i3 : Int32) (i4 : Int32) (i5 : Int32) (w : cm_W) : sm cm_g 285 ck_285 kq_285 0 [(0, .ref a0), (1, .int i1), (2, .int i2), (3, .int i3), (4, .int i4), (5, .int i5)] [] w ((fn_285 a0 i1 i2 i3 i4 i5 w).map cm_gI) := by
  unfold fn_285
  refine sm_seg 2 2 [(0, .ref a0), (1, .int i1), (2, .int i2), (3, .int i3), (4, .int i4), (5, .int i5)] [.int i1, .ref a0] rfl ?_
  refine sm_gd fun h55 => ?_
  refine sm_cV (as := [.int i1]) (rest := []) rfl rfl rfl rfl h55 (Nat.le_of_ble_eq_true rfl) (ca_225 w a0 i1) fun v56 h57 => ?_
  show sm _ _ _ _ 5 [(0, .ref a0), (1, .int i1), (2, .int i2), (3, .int i3), (4, .int i4), (5, .int i5)] [.int (cm_b v56)] _ _
  refine sm_if (pc1 := 56) (lv1 := []) (pc2 := 8) (lv2 := [(0, .ref a0), (1, .int i1), (2, .int i2), (3, .int i3), (4, .int i4), (5, .int i5)]) (st1 := []) rfl rfl rfl (fun h58 => ?_) (fun h58 => ?_)
  · refine sm_seg 1 57 [] [.int (-1 : Int32)] rfl ?_
    exact sm_rIW rfl rfl
  · refine sm_seg 1 9 [(0, .ref a0), (1, .int i1), (2, .int i2), (3, .int i3), (4, .int i4), (5, .int i5)] [.int i2] rfl ?_
    refine sm_cS (av := [.int i2]) (rest := []) rfl rfl rfl rfl (Nat.le_of_ble_eq_true rfl) (ca_226 w i2) fun v59 h60 => ?_
    show sm _ _ _ _ 12 [(0, .ref a0), (1, .int i1), (2, .int i2), (3, .int i3), (4, .int i4), (5, .int i5)] [.int (cm_b v59)] _ _
    refine sm_if (pc1 := 56) (lv1 := []) (pc2 := 15) (lv2 := [(0, .ref a0), (1, .int i1), (2, .int i2), (3, .int i3), (4, .int i4), (5, .int i5)]) (st1 := []) rfl rfl rfl (fun h61 => ?_) (fun h61 => ?_)
    · refine sm_seg 1 57 [] [.int (-1 : Int32)] rfl ?_
      exact sm_rIW rfl rfl
    · refine sm_seg 3 20 [(0, .ref a0), (1, .int i1), (2, .int i2), (3, .int i3), (4, .int i4), (5, .int i5)] [.int (999 : Int32), .int (0 : Int32), .int i3] rfl ?_
      refine sm_cS (av := [.int i3, .int (0 : Int32), .int (999 : Int32)]) (rest := []) rfl rfl rfl rfl (Nat.le_of_ble_eq_true rfl) (ca_194 w i3 (0 : Int32) (999 : Int32)) fun v62 h63 => ?_
      show sm _ _ _ _ 23 [(0, .ref a0), (1, .int i1), (2, .int i2), (3, .int i3), (4, .int i4), (5, .int i5)] [.int (cm_b v62)] _ _
      refine sm_if (pc1 := 56) (lv1 := []) (pc2 := 26) (lv2 := [(0, .ref a0), (1, .int i1), (2, .int i2), (3, .int i3), (4, .int i4), (5, .int i5)]) (st1 := []) rfl rfl rfl (fun h64 => ?_) (fun h64 => ?_)
      · refine sm_seg 1 57 [] [.int (-1 : Int32)] rfl ?_
        exact sm_rIW rfl rfl
      · refine sm_seg 3 32 [(0, .ref a0), (1, .int i1), (2, .int i2), (3, .int i3), (4, .int i4), (5, .int i5)] [.int (999 : Int32), .int (0 : Int32), .int i4] rfl ?_
        refine sm_cS (av := [.int i4, .int (0 : Int32), .int (999 : Int32)]) (rest := []) rfl rfl rfl rfl (Nat.le_of_ble_eq_true rfl) (ca_194 w i4 (0 : Int32) (999 : Int32)) fun v65 h66 => ?_
        show sm _ _ _ _ 35 [(0, .ref a0), (1, .int i1), (2, .int i2), (3, .int i3), (4, .int i4), (5, .int i5)] [.int (cm_b v65)] _ _
        refine sm_if (pc1 := 56) (lv1 := []) (pc2 := 38) (lv2 := [(0, .ref a0), (1, .int i1), (2, .int i2), (3, .int i3), (4, .int i4), (5, .int i5)]) (st1 := []) rfl rfl rfl (fun h67 => ?_) (fun h67 => ?_)
        · refine sm_seg 1 57 [] [.int (-1 : Int32)] rfl ?_
          exact sm_rIW rfl rfl
        · refine sm_seg 3 43 [(0, .ref a0), (1, .int i1), (2, .int i2), (3, .int i3), (4, .int i4), (5, .int i5)] [.int (20 : Int32), .int (1 : Int32), .int i5] rfl ?_
          refine sm_cS (av := [.int i5, .int (1 : Int32), .int (20 : Int32)]) (rest := []) rfl rfl rfl rfl (Nat.le_of_ble_eq_true rfl) (ca_194 w i5 (1 : Int32) (20 : Int32)) fun v68 h69 => ?_
          show sm _ _ _ _ 46 [(0, .ref a0), (1, .int i1), (2, .int i2), (3, .int i3), (4, .int i4), (5, .int i5)] [.int (cm_b v68)] _ _
          refine sm_if (pc1 := 56) (lv1 := []) (pc2 := 49) (lv2 := [(0, .ref a0), (1, .int i1), (2, .int i2), (3, .int i3), (4, .int i4), (5, .int i5)]) (st1 := []) rfl rfl rfl (fun h70 => ?_) (fun h70 => ?_)
          · refine sm_seg 1 57 [] [.int (-1 : Int32)] rfl ?_
            exact sm_rIW rfl rfl
          · refine sm_seg 1 50 [(0, .ref a0), (1, .int i1), (2, .int i2), (3, .int i3), (4, .int i4), (5, .int i5)] [.ref a0] rfl ?_
            refine sm_gI rfl h55 rfl ?_
            show sm _ _ _ _ 53 [(0, .ref a0), (1, .int i1), (2, .int i2), (3, .int i3), (4, .int i4), (5, .int i5)] [.int (cm_I w a0 1)] _ _
            refine sm_if (pc1 := 58) (lv1 := [(0, .ref a0), (1, .int i1), (2, .int i2), (3, .int i3), (4, .int i4), (5, .int i5)]) (pc2 := 56) (lv2 := []) (st1 := []) rfl rfl rfl (fun h71 => ?_) (fun h71 => ?_)
            · exact jt_285_58  a0 i1 i2 i3 i4 i5 w
            · refine sm_seg 1 57 [] [.int (-1 : Int32)] rfl ?_
              exact sm_rIW rfl rfl
theorem ca_285 (a0 : Nat) (i1 : Int32) (i2 : Int32) (i3 : Int32) (i4 : Int32) (i5 : Int32) (w : cm_W) : cm_ca cm_g 285 [.ref a0, .int i1, .int i2, .int i3, .int i4, .int i5] w ((fn_285 a0 i1 i2 i3 i4 i5 w).map cm_gI) := cm_ca_of (cm_me_of rfl rfl) rfl (jt_285_0 a0 i1 i2 i3 i4 i5 w)
-- NailedBoxesModel.topOf(II)I
def fn_286_48 (w : cm_W) (k_5 : Nat → Int32 → Int32 → Int32 → Int32 → Option Int32) (a0 : Nat) (i1 : Int32) (i2 : Int32) (i3 : Int32) (i4 : Int32) : Option Int32 := k_5 a0 i1 i2 i3 (i4 + (1 : Int32))
theorem jt_286_48 (w : cm_W) (k_5 : Nat → Int32 → Int32 → Int32 → Int32 → Option Int32) (hk_5 : ∀ (a0 : Nat) (i1 : Int32) (i2 : Int32) (i3 : Int32) (i4 : Int32), sm cm_g 286 ck_286 kq_286 5 [(0, .ref a0), (1, .int i1), (2, .int i2), (3, .int i3), (4, .int i4)] [] w ((k_5 a0 i1 i2 i3 i4).map (cm_fI w))) (a0 : Nat) (i1 : Int32) (i2 : Int32) (i3 : Int32) (i4 : Int32) : sm cm_g 286 ck_286 kq_286 48 [(0, .ref a0), (1, .int i1), (2, .int i2), (3, .int i3), (4, .int i4)] [] w ((fn_286_48 w k_5 a0 i1 i2 i3 i4).map (cm_fI w)) := by
  unfold fn_286_48
  refine sm_seg 2 5 [(0, .ref a0), (1, .int i1), (2, .int i2), (3, .int i3), (4, .int (i4 + (1 : Int32)))] [] rfl ?_
  exact hk_5 a0 i1 i2 i3 (i4 + (1 : Int32))
def fn_286_45 (w : cm_W) (k_5 : Nat → Int32 → Int32 → Int32 → Int32 → Option Int32) (a0 : Nat) (i1 : Int32) (i2 : Int32) (i4 : Int32) : Option Int32 := fn_286_48 w k_5 a0 i1 i2 i4 i4
theorem jt_286_45 (w : cm_W) (k_5 : Nat → Int32 → Int32 → Int32 → Int32 → Option Int32) (hk_5 : ∀ (a0 : Nat) (i1 : Int32) (i2 : Int32) (i3 : Int32) (i4 : Int32), sm cm_g 286 ck_286 kq_286 5 [(0, .ref a0), (1, .int i1), (2, .int i2), (3, .int i3), (4, .int i4)] [] w ((k_5 a0 i1 i2 i3 i4).map (cm_fI w))) (a0 : Nat) (i1 : Int32) (i2 : Int32) (i4 : Int32) : sm cm_g 286 ck_286 kq_286 45 [(0, .ref a0), (1, .int i1), (2, .int i2), (4, .int i4)] [] w ((fn_286_45 w k_5 a0 i1 i2 i4).map (cm_fI w)) := by
  unfold fn_286_45
  refine sm_seg 2 48 [(0, .ref a0), (1, .int i1), (2, .int i2), (3, .int i4), (4, .int i4)] [] rfl ?_
  exact jt_286_48 w k_5 hk_5 a0 i1 i2 i4 i4
def fn_286_5 (w : cm_W) : Nat → Nat → Int32 → Int32 → Int32 → Int32 → Option Int32
  | 0, _, _, _, _, _ => none
  | n + 1, a0, i1, i2, i3, i4 => (if cm_sh w a0 = some (.inl 11) then (if (cm_I w a0 1) ≤ i4 then some i3 else (fn_228 w a0 i1 i4).bind fun v3 => (if v3 ≤ 0 then fn_286_48 w (fn_286_5 w n) a0 i1 i2 i3 i4 else (if i3 = (-1 : Int32) then fn_286_45 w (fn_286_5 w n) a0 i1 i2 i4 else (fn_222 w a0 i4 i2).bind fun v7 => (fn_222 w a0 i3 i2).bind fun v9 => (if v7 ≤ v9 then fn_286_48 w (fn_286_5 w n) a0 i1 i2 i3 i4 else fn_286_45 w (fn_286_5 w n) a0 i1 i2 i4)))) else none)
theorem jt_286_5 (w : cm_W) : ∀ (n : Nat) (a0 : Nat) (i1 : Int32) (i2 : Int32) (i3 : Int32) (i4 : Int32), sm cm_g 286 ck_286 kq_286 5 [(0, .ref a0), (1, .int i1), (2, .int i2), (3, .int i3), (4, .int i4)] [] w ((fn_286_5 w n a0 i1 i2 i3 i4).map (cm_fI w)) := by
  intro n
  induction n with
  | zero => intro a0 i1 i2 i3 i4; exact sm_no
  | succ n ih =>
    intro a0 i1 i2 i3 i4
    rw [fn_286_5]
    refine sm_seg 2 8 [(0, .ref a0), (1, .int i1), (2, .int i2), (3, .int i3), (4, .int i4)] [.ref a0, .int i4] rfl ?_
    refine sm_gd fun h1 => ?_
    refine sm_gI rfl h1 rfl ?_
    show sm _ _ _ _ 11 [(0, .ref a0), (1, .int i1), (2, .int i2), (3, .int i3), (4, .int i4)] [.int (cm_I w a0 1), .int i4] _ _
    refine sm_if (pc1 := 54) (lv1 := [(3, .int i3)]) (pc2 := 14) (lv2 := [(0, .ref a0), (1, .int i1), (2, .int i2), (3, .int i3), (4, .int i4)]) (st1 := []) rfl rfl rfl (fun h2 => ?_) (fun h2 => ?_)
    · refine sm_seg 1 55 [(3, .int i3)] [.int i3] rfl ?_
      exact sm_rI rfl rfl
    · refine sm_seg 3 18 [(0, .ref a0), (1, .int i1), (2, .int i2), (3, .int i3), (4, .int i4)] [.int i4, .int i1, .ref a0] rfl ?_
      refine sm_cV (as := [.int i1, .int i4]) (rest := []) rfl rfl rfl rfl h1 (Nat.le_of_ble_eq_true rfl) (ca_228 w a0 i1 i4) fun v3 h4 => ?_
      show sm _ _ _ _ 21 [(0, .ref a0), (1, .int i1), (2, .int i2), (3, .int i3), (4, .int i4)] [.int v3] _ _
      refine sm_if (pc1 := 48) (lv1 := [(0, .ref a0), (1, .int i1), (2, .int i2), (3, .int i3), (4, .int i4)]) (pc2 := 24) (lv2 := [(0, .ref a0), (1, .int i1), (2, .int i2), (3, .int i3), (4, .int i4)]) (st1 := []) rfl rfl rfl (fun h5 => ?_) (fun h5 => ?_)
      · exact jt_286_48 w (fn_286_5 w n) ih a0 i1 i2 i3 i4
      · refine sm_seg 2 26 [(0, .ref a0), (1, .int i1), (2, .int i2), (3, .int i3), (4, .int i4)] [.int (-1 : Int32), .int i3] rfl ?_
        refine sm_if (pc1 := 45) (lv1 := [(0, .ref a0), (1, .int i1), (2, .int i2), (4, .int i4)]) (pc2 := 29) (lv2 := [(0, .ref a0), (1, .int i1), (2, .int i2), (3, .int i3), (4, .int i4)]) (st1 := []) rfl rfl rfl (fun h6 => ?_) (fun h6 => ?_)
        · exact jt_286_45 w (fn_286_5 w n) ih a0 i1 i2 i4
        · refine sm_seg 3 33 [(0, .ref a0), (1, .int i1), (2, .int i2), (3, .int i3), (4, .int i4)] [.int i2, .int i4, .ref a0] rfl ?_
          refine sm_cV (as := [.int i4, .int i2]) (rest := []) rfl rfl rfl rfl h1 (Nat.le_of_ble_eq_true rfl) (ca_222 w a0 i4 i2) fun v7 h8 => ?_
          show sm _ _ _ _ 36 [(0, .ref a0), (1, .int i1), (2, .int i2), (3, .int i3), (4, .int i4)] [.int v7] _ _
          refine sm_seg 3 39 [(0, .ref a0), (1, .int i1), (2, .int i2), (3, .int i3), (4, .int i4)] [.int i2, .int i3, .ref a0, .int v7] rfl ?_
          refine sm_cV (as := [.int i3, .int i2]) (rest := [.int v7]) rfl rfl rfl rfl h1 (Nat.le_of_ble_eq_true rfl) (ca_222 w a0 i3 i2) fun v9 h10 => ?_
          show sm _ _ _ _ 42 [(0, .ref a0), (1, .int i1), (2, .int i2), (3, .int i3), (4, .int i4)] [.int v9, .int v7] _ _
          refine sm_if (pc1 := 48) (lv1 := [(0, .ref a0), (1, .int i1), (2, .int i2), (3, .int i3), (4, .int i4)]) (pc2 := 45) (lv2 := [(0, .ref a0), (1, .int i1), (2, .int i2), (4, .int i4)]) (st1 := []) rfl rfl rfl (fun h11 => ?_) (fun h11 => ?_)
          · exact jt_286_48 w (fn_286_5 w n) ih a0 i1 i2 i3 i4
          · exact jt_286_45 w (fn_286_5 w n) ih a0 i1 i2 i4
def fn_286 (w : cm_W) (a0 : Nat) (i1 : Int32) (i2 : Int32) : Option Int32 := fn_286_5 w cm_N a0 i1 i2 (-1 : Int32) (0 : Int32)
theorem jt_286_0 (w : cm_W) (a0 : Nat) (i1 : Int32) (i2 : Int32) : sm cm_g 286 ck_286 kq_286 0 [(0, .ref a0), (1, .int i1), (2, .int i2)] [] w ((fn_286 w a0 i1 i2).map (cm_fI w)) := by
  unfold fn_286
  refine sm_seg 4 5 [(0, .ref a0), (1, .int i1), (2, .int i2), (3, .int (-1 : Int32)), (4, .int (0 : Int32))] [] rfl ?_
  exact jt_286_5 w cm_N a0 i1 i2 (-1 : Int32) (0 : Int32)
theorem ca_286 (w : cm_W) (a0 : Nat) (i1 : Int32) (i2 : Int32) : cm_ca cm_g 286 [.ref a0, .int i1, .int i2] w ((fn_286 w a0 i1 i2).map (cm_fI w)) := cm_ca_of (cm_me_of rfl rfl) rfl (jt_286_0 w a0 i1 i2)
-- NailedBoxesModel.leastOf(IIII)I
def fn_287_68 (w : cm_W) (k_6 : Nat → Int32 → Int32 → Int32 → Int32 → Int32 → Int32 → Option Int32) (a0 : Nat) (i1 : Int32) (i2 : Int32) (i3 : Int32) (i4 : Int32) (i5 : Int32) (i6 : Int32) : Option Int32 := k_6 a0 i1 i2 i3 i4 i5 (i6 + (1 : Int32))
theorem jt_287_68 (w : cm_W) (k_6 : Nat → Int32 → Int32 → Int32 → Int32 → Int32 → Int32 → Option Int32) (hk_6 : ∀ (a0 : Nat) (i1 : Int32) (i2 : Int32) (i3 : Int32) (i4 : Int32) (i5 : Int32) (i6 : Int32), sm cm_g 287 ck_287 kq_287 6 [(0, .ref a0), (1, .int i1), (2, .int i2), (3, .int i3), (4, .int i4), (5, .int i5), (6, .int i6)] [] w ((k_6 a0 i1 i2 i3 i4 i5 i6).map (cm_fI w))) (a0 : Nat) (i1 : Int32) (i2 : Int32) (i3 : Int32) (i4 : Int32) (i5 : Int32) (i6 : Int32) : sm cm_g 287 ck_287 kq_287 68 [(0, .ref a0), (1, .int i1), (2, .int i2), (3, .int i3), (4, .int i4), (5, .int i5), (6, .int i6)] [] w ((fn_287_68 w k_6 a0 i1 i2 i3 i4 i5 i6).map (cm_fI w)) := by
  unfold fn_287_68
  refine sm_seg 2 6 [(0, .ref a0), (1, .int i1), (2, .int i2), (3, .int i3), (4, .int i4), (5, .int i5), (6, .int (i6 + (1 : Int32)))] [] rfl ?_
  exact hk_6 a0 i1 i2 i3 i4 i5 (i6 + (1 : Int32))
def fn_287_64 (w : cm_W) (k_6 : Nat → Int32 → Int32 → Int32 → Int32 → Int32 → Int32 → Option Int32) (a0 : Nat) (i1 : Int32) (i2 : Int32) (i3 : Int32) (i4 : Int32) (i6 : Int32) : Option Int32 := fn_287_68 w k_6 a0 i1 i2 i3 i4 i6 i6
theorem jt_287_64 (w : cm_W) (k_6 : Nat → Int32 → Int32 → Int32 → Int32 → Int32 → Int32 → Option Int32) (hk_6 : ∀ (a0 : Nat) (i1 : Int32) (i2 : Int32) (i3 : Int32) (i4 : Int32) (i5 : Int32) (i6 : Int32), sm cm_g 287 ck_287 kq_287 6 [(0, .ref a0), (1, .int i1), (2, .int i2), (3, .int i3), (4, .int i4), (5, .int i5), (6, .int i6)] [] w ((k_6 a0 i1 i2 i3 i4 i5 i6).map (cm_fI w))) (a0 : Nat) (i1 : Int32) (i2 : Int32) (i3 : Int32) (i4 : Int32) (i6 : Int32) : sm cm_g 287 ck_287 kq_287 64 [(0, .ref a0), (1, .int i1), (2, .int i2), (3, .int i3), (4, .int i4), (6, .int i6)] [] w ((fn_287_64 w k_6 a0 i1 i2 i3 i4 i6).map (cm_fI w)) := by
  unfold fn_287_64
  refine sm_seg 2 68 [(0, .ref a0), (1, .int i1), (2, .int i2), (3, .int i3), (4, .int i4), (5, .int i6), (6, .int i6)] [] rfl ?_
  exact jt_287_68 w k_6 hk_6 a0 i1 i2 i3 i4 i6 i6
def fn_287_6 (w : cm_W) : Nat → Nat → Int32 → Int32 → Int32 → Int32 → Int32 → Int32 → Option Int32
  | 0, _, _, _, _, _, _, _ => none
  | n + 1, a0, i1, i2, i3, i4, i5, i6 => (if cm_sh w a0 = some (.inl 11) then (if (cm_I w a0 1) ≤ i6 then some i5 else (fn_228 w a0 i1 i6).bind fun v3 => (if v3 ≤ 0 then fn_287_68 w (fn_287_6 w n) a0 i1 i2 i3 i4 i5 i6 else (if i6 = i3 then fn_287_68 w (fn_287_6 w n) a0 i1 i2 i3 i4 i5 i6 else (fn_196 w i4 i6).bind fun v7 => (if ¬ (cm_b v7) = 0 then fn_287_68 w (fn_287_6 w n) a0 i1 i2 i3 i4 i5 i6 else (if i5 = (-1 : Int32) then fn_287_64 w (fn_287_6 w n) a0 i1 i2 i3 i4 i6 else (fn_222 w a0 i6 i2).bind fun v11 => (fn_222 w a0 i5 i2).bind fun v13 => (if v13 ≤ v11 then fn_287_68 w (fn_287_6 w n) a0 i1 i2 i3 i4 i5 i6 else fn_287_64 w (fn_287_6 w n) a0 i1 i2 i3 i4 i6)))))) else none)
theorem jt_287_6 (w : cm_W) : ∀ (n : Nat) (a0 : Nat) (i1 : Int32) (i2 : Int32) (i3 : Int32) (i4 : Int32) (i5 : Int32) (i6 : Int32), sm cm_g 287 ck_287 kq_287 6 [(0, .ref a0), (1, .int i1), (2, .int i2), (3, .int i3), (4, .int i4), (5, .int i5), (6, .int i6)] [] w ((fn_287_6 w n a0 i1 i2 i3 i4 i5 i6).map (cm_fI w)) := by
  intro n
  induction n with
  | zero => intro a0 i1 i2 i3 i4 i5 i6; exact sm_no
  | succ n ih =>
    intro a0 i1 i2 i3 i4 i5 i6
    rw [fn_287_6]
    refine sm_seg 2 9 [(0, .ref a0), (1, .int i1), (2, .int i2), (3, .int i3), (4, .int i4), (5, .int i5), (6, .int i6)] [.ref a0, .int i6] rfl ?_
    refine sm_gd fun h1 => ?_
    refine sm_gI rfl h1 rfl ?_
    show sm _ _ _ _ 12 [(0, .ref a0), (1, .int i1), (2, .int i2), (3, .int i3), (4, .int i4), (5, .int i5), (6, .int i6)] [.int (cm_I w a0 1), .int i6] _ _
    refine sm_if (pc1 := 74) (lv1 := [(5, .int i5)]) (pc2 := 15) (lv2 := [(0, .ref a0), (1, .int i1), (2, .int i2), (3, .int i3), (4, .int i4), (5, .int i5), (6, .int i6)]) (st1 := []) rfl rfl rfl (fun h2 => ?_) (fun h2 => ?_)
    · refine sm_seg 1 76 [(5, .int i5)] [.int i5] rfl ?_
      exact sm_rI rfl rfl
    · refine sm_seg 3 19 [(0, .ref a0), (1, .int i1), (2, .int i2), (3, .int i3), (4, .int i4), (5, .int i5), (6, .int i6)] [.int i6, .int i1, .ref a0] rfl ?_
      refine sm_cV (as := [.int i1, .int i6]) (rest := []) rfl rfl rfl rfl h1 (Nat.le_of_ble_eq_true rfl) (ca_228 w a0 i1 i6) fun v3 h4 => ?_
      show sm _ _ _ _ 22 [(0, .ref a0), (1, .int i1), (2, .int i2), (3, .int i3), (4, .int i4), (5, .int i5), (6, .int i6)] [.int v3] _ _
      refine sm_if (pc1 := 68) (lv1 := [(0, .ref a0), (1, .int i1), (2, .int i2), (3, .int i3), (4, .int i4), (5, .int i5), (6, .int i6)]) (pc2 := 25) (lv2 := [(0, .ref a0), (1, .int i1), (2, .int i2), (3, .int i3), (4, .int i4), (5, .int i5), (6, .int i6)]) (st1 := []) rfl rfl rfl (fun h5 => ?_) (fun h5 => ?_)
      · exact jt_287_68 w (fn_287_6 w n) ih a0 i1 i2 i3 i4 i5 i6
      · refine sm_seg 2 28 [(0, .ref a0), (1, .int i1), (2, .int i2), (3, .int i3), (4, .int i4), (5, .int i5), (6, .int i6)] [.int i3, .int i6] rfl ?_
        refine sm_if (pc1 := 68) (lv1 := [(0, .ref a0), (1, .int i1), (2, .int i2), (3, .int i3), (4, .int i4), (5, .int i5), (6, .int i6)]) (pc2 := 31) (lv2 := [(0, .ref a0), (1, .int i1), (2, .int i2), (3, .int i3), (4, .int i4), (5, .int i5), (6, .int i6)]) (st1 := []) rfl rfl rfl (fun h6 => ?_) (fun h6 => ?_)
        · exact jt_287_68 w (fn_287_6 w n) ih a0 i1 i2 i3 i4 i5 i6
        · refine sm_seg 2 35 [(0, .ref a0), (1, .int i1), (2, .int i2), (3, .int i3), (4, .int i4), (5, .int i5), (6, .int i6)] [.int i6, .int i4] rfl ?_
          refine sm_cS (av := [.int i4, .int i6]) (rest := []) rfl rfl rfl rfl (Nat.le_of_ble_eq_true rfl) (ca_196 w i4 i6) fun v7 h8 => ?_
          show sm _ _ _ _ 38 [(0, .ref a0), (1, .int i1), (2, .int i2), (3, .int i3), (4, .int i4), (5, .int i5), (6, .int i6)] [.int (cm_b v7)] _ _
          refine sm_if (pc1 := 68) (lv1 := [(0, .ref a0), (1, .int i1), (2, .int i2), (3, .int i3), (4, .int i4), (5, .int i5), (6, .int i6)]) (pc2 := 41) (lv2 := [(0, .ref a0), (1, .int i1), (2, .int i2), (3, .int i3), (4, .int i4), (5, .int i5), (6, .int i6)]) (st1 := []) rfl rfl rfl (fun h9 => ?_) (fun h9 => ?_)
          · exact jt_287_68 w (fn_287_6 w n) ih a0 i1 i2 i3 i4 i5 i6
          · refine sm_seg 2 44 [(0, .ref a0), (1, .int i1), (2, .int i2), (3, .int i3), (4, .int i4), (5, .int i5), (6, .int i6)] [.int (-1 : Int32), .int i5] rfl ?_
            refine sm_if (pc1 := 64) (lv1 := [(0, .ref a0), (1, .int i1), (2, .int i2), (3, .int i3), (4, .int i4), (6, .int i6)]) (pc2 := 47) (lv2 := [(0, .ref a0), (1, .int i1), (2, .int i2), (3, .int i3), (4, .int i4), (5, .int i5), (6, .int i6)]) (st1 := []) rfl rfl rfl (fun h10 => ?_) (fun h10 => ?_)
            · exact jt_287_64 w (fn_287_6 w n) ih a0 i1 i2 i3 i4 i6
            · refine sm_seg 3 51 [(0, .ref a0), (1, .int i1), (2, .int i2), (3, .int i3), (4, .int i4), (5, .int i5), (6, .int i6)] [.int i2, .int i6, .ref a0] rfl ?_
              refine sm_cV (as := [.int i6, .int i2]) (rest := []) rfl rfl rfl rfl h1 (Nat.le_of_ble_eq_true rfl) (ca_222 w a0 i6 i2) fun v11 h12 => ?_
              show sm _ _ _ _ 54 [(0, .ref a0), (1, .int i1), (2, .int i2), (3, .int i3), (4, .int i4), (5, .int i5), (6, .int i6)] [.int v11] _ _
              refine sm_seg 3 58 [(0, .ref a0), (1, .int i1), (2, .int i2), (3, .int i3), (4, .int i4), (5, .int i5), (6, .int i6)] [.int i2, .int i5, .ref a0, .int v11] rfl ?_
              refine sm_cV (as := [.int i5, .int i2]) (rest := [.int v11]) rfl rfl rfl rfl h1 (Nat.le_of_ble_eq_true rfl) (ca_222 w a0 i5 i2) fun v13 h14 => ?_
              show sm _ _ _ _ 61 [(0, .ref a0), (1, .int i1), (2, .int i2), (3, .int i3), (4, .int i4), (5, .int i5), (6, .int i6)] [.int v13, .int v11] _ _
              refine sm_if (pc1 := 68) (lv1 := [(0, .ref a0), (1, .int i1), (2, .int i2), (3, .int i3), (4, .int i4), (5, .int i5), (6, .int i6)]) (pc2 := 64) (lv2 := [(0, .ref a0), (1, .int i1), (2, .int i2), (3, .int i3), (4, .int i4), (6, .int i6)]) (st1 := []) rfl rfl rfl (fun h15 => ?_) (fun h15 => ?_)
              · exact jt_287_68 w (fn_287_6 w n) ih a0 i1 i2 i3 i4 i5 i6
              · exact jt_287_64 w (fn_287_6 w n) ih a0 i1 i2 i3 i4 i6
def fn_287 (w : cm_W) (a0 : Nat) (i1 : Int32) (i2 : Int32) (i3 : Int32) (i4 : Int32) : Option Int32 := fn_287_6 w cm_N a0 i1 i2 i3 i4 (-1 : Int32) (0 : Int32)
theorem jt_287_0 (w : cm_W) (a0 : Nat) (i1 : Int32) (i2 : Int32) (i3 : Int32) (i4 : Int32) : sm cm_g 287 ck_287 kq_287 0 [(0, .ref a0), (1, .int i1), (2, .int i2), (3, .int i3), (4, .int i4)] [] w ((fn_287 w a0 i1 i2 i3 i4).map (cm_fI w)) := by
  unfold fn_287
  refine sm_seg 4 6 [(0, .ref a0), (1, .int i1), (2, .int i2), (3, .int i3), (4, .int i4), (5, .int (-1 : Int32)), (6, .int (0 : Int32))] [] rfl ?_
  exact jt_287_6 w cm_N a0 i1 i2 i3 i4 (-1 : Int32) (0 : Int32)
theorem ca_287 (w : cm_W) (a0 : Nat) (i1 : Int32) (i2 : Int32) (i3 : Int32) (i4 : Int32) : cm_ca cm_g 287 [.ref a0, .int i1, .int i2, .int i3, .int i4] w ((fn_287 w a0 i1 i2 i3 i4).map (cm_fI w)) := cm_ca_of (cm_me_of rfl rfl) rfl (jt_287_0 w a0 i1 i2 i3 i4)
-- NailedBoxesModel.isAtRest(IIIII)Z
def fn_288_69 (w : cm_W) (k_9 : Nat → Int32 → Int32 → Int32 → Int32 → Int32 → Int32 → Int32 → Int32 → Option Bool) (a0 : Nat) (i1 : Int32) (i2 : Int32) (i3 : Int32) (i4 : Int32) (i5 : Int32) (i6 : Int32) (i7 : Int32) (i8 : Int32) : Option Bool := k_9 a0 i1 i2 i3 i4 i5 i6 i7 (i8 + (1 : Int32))
theorem jt_288_69 (w : cm_W) (k_9 : Nat → Int32 → Int32 → Int32 → Int32 → Int32 → Int32 → Int32 → Int32 → Option Bool) (hk_9 : ∀ (a0 : Nat) (i1 : Int32) (i2 : Int32) (i3 : Int32) (i4 : Int32) (i5 : Int32) (i6 : Int32) (i7 : Int32) (i8 : Int32), sm cm_g 288 ck_288 kq_288 9 [(0, .ref a0), (1, .int i1), (2, .int i2), (3, .int i3), (4, .int i4), (5, .int i5), (6, .int i6), (7, .int i7), (8, .int i8)] [] w ((k_9 a0 i1 i2 i3 i4 i5 i6 i7 i8).map (cm_fB w))) (a0 : Nat) (i1 : Int32) (i2 : Int32) (i3 : Int32) (i4 : Int32) (i5 : Int32) (i6 : Int32) (i7 : Int32) (i8 : Int32) : sm cm_g 288 ck_288 kq_288 69 [(0, .ref a0), (1, .int i1), (2, .int i2), (3, .int i3), (4, .int i4), (5, .int i5), (6, .int i6), (7, .int i7), (8, .int i8)] [] w ((fn_288_69 w k_9 a0 i1 i2 i3 i4 i5 i6 i7 i8).map (cm_fB w)) := by
  unfold fn_288_69
  refine sm_seg 2 9 [(0, .ref a0), (1, .int i1), (2, .int i2), (3, .int i3), (4, .int i4), (5, .int i5), (6, .int i6), (7, .int i7), (8, .int (i8 + (1 : Int32)))] [] rfl ?_
  exact hk_9 a0 i1 i2 i3 i4 i5 i6 i7 (i8 + (1 : Int32))
def fn_288_37 (w : cm_W) (k_9 : Nat → Int32 → Int32 → Int32 → Int32 → Int32 → Int32 → Int32 → Int32 → Option Bool) (a0 : Nat) (i1 : Int32) (i2 : Int32) (i3 : Int32) (i4 : Int32) (i5 : Int32) (i6 : Int32) (i7 : Int32) (i8 : Int32) : Option Bool := (if cm_sh w a0 = some (.inl 11) then (fn_228 w a0 i1 i8).bind fun v2 => (fn_222 w a0 i8 i2).bind fun v4 => (fn_228 w a0 i1 i8).bind fun v6 => fn_288_69 w k_9 a0 i1 i2 i3 i4 i5 (i6 + (v2 * v4)) (i7 + v6) i8 else none)
theorem jt_288_37 (w : cm_W) (k_9 : Nat → Int32 → Int32 → Int32 → Int32 → Int32 → Int32 → Int32 → Int32 → Option Bool) (hk_9 : ∀ (a0 : Nat) (i1 : Int32) (i2 : Int32) (i3 : Int32) (i4 : Int32) (i5 : Int32) (i6 : Int32) (i7 : Int32) (i8 : Int32), sm cm_g 288 ck_288 kq_288 9 [(0, .ref a0), (1, .int i1), (2, .int i2), (3, .int i3), (4, .int i4), (5, .int i5), (6, .int i6), (7, .int i7), (8, .int i8)] [] w ((k_9 a0 i1 i2 i3 i4 i5 i6 i7 i8).map (cm_fB w))) (a0 : Nat) (i1 : Int32) (i2 : Int32) (i3 : Int32) (i4 : Int32) (i5 : Int32) (i6 : Int32) (i7 : Int32) (i8 : Int32) : sm cm_g 288 ck_288 kq_288 37 [(0, .ref a0), (1, .int i1), (2, .int i2), (3, .int i3), (4, .int i4), (5, .int i5), (6, .int i6), (7, .int i7), (8, .int i8)] [] w ((fn_288_37 w k_9 a0 i1 i2 i3 i4 i5 i6 i7 i8).map (cm_fB w)) := by
  unfold fn_288_37
  refine sm_seg 4 43 [(0, .ref a0), (1, .int i1), (2, .int i2), (3, .int i3), (4, .int i4), (5, .int i5), (6, .int i6), (7, .int i7), (8, .int i8)] [.int i8, .int i1, .ref a0, .int i6] rfl ?_
  refine sm_gd fun h1 => ?_
  refine sm_cV (as := [.int i1, .int i8]) (rest := [.int i6]) rfl rfl rfl rfl h1 (Nat.le_of_ble_eq_true rfl) (ca_228 w a0 i1 i8) fun v2 h3 => ?_
  show sm _ _ _ _ 46 [(0, .ref a0), (1, .int i1), (2, .int i2), (3, .int i3), (4, .int i4), (5, .int i5), (6, .int i6), (7, .int i7), (8, .int i8)] [.int v2, .int i6] _ _
  refine sm_seg 3 50 [(0, .ref a0), (1, .int i1), (2, .int i2), (3, .int i3), (4, .int i4), (5, .int i5), (6, .int i6), (7, .int i7), (8, .int i8)] [.int i2, .int i8, .ref a0, .int v2, .int i6] rfl ?_
  refine sm_cV (as := [.int i8, .int i2]) (rest := [.int v2, .int i6]) rfl rfl rfl rfl h1 (Nat.le_of_ble_eq_true rfl) (ca_222 w a0 i8 i2) fun v4 h5 => ?_
  show sm _ _ _ _ 53 [(0, .ref a0), (1, .int i1), (2, .int i2), (3, .int i3), (4, .int i4), (5, .int i5), (6, .int i6), (7, .int i7), (8, .int i8)] [.int v4, .int v2, .int i6] _ _
  refine sm_seg 7 63 [(6, .int (i6 + (v2 * v4))), (0, .ref a0), (1, .int i1), (2, .int i2), (3, .int i3), (4, .int i4), (5, .int i5), (7, .int i7), (8, .int i8)] [.int i8, .int i1, .ref a0, .int i7] rfl ?_
  refine sm_cV (as := [.int i1, .int i8]) (rest := [.int i7]) rfl rfl rfl rfl h1 (Nat.le_of_ble_eq_true rfl) (ca_228 w a0 i1 i8) fun v6 h7 => ?_
  show sm _ _ _ _ 66 [(6, .int (i6 + (v2 * v4))), (0, .ref a0), (1, .int i1), (2, .int i2), (3, .int i3), (4, .int i4), (5, .int i5), (7, .int i7), (8, .int i8)] [.int v6, .int i7] _ _
  refine sm_seg 2 69 [(0, .ref a0), (1, .int i1), (2, .int i2), (3, .int i3), (4, .int i4), (5, .int i5), (6, .int (i6 + (v2 * v4))), (7, .int (i7 + v6)), (8, .int i8)] [] rfl ?_
  exact jt_288_69 w k_9 hk_9 a0 i1 i2 i3 i4 i5 (i6 + (v2 * v4)) (i7 + v6) i8
def fn_288_155 (w : cm_W) (k_91 : Nat → Int32 → Int32 → Int32 → Int32 → Int32 → Int32 → Int32 → Option Bool) (a0 : Nat) (i1 : Int32) (i2 : Int32) (i3 : Int32) (i4 : Int32) (i8 : Int32) (i9 : Int32) (i10 : Int32) : Option Bool := k_91 a0 i1 i2 i3 i4 i8 i9 (i10 + (1 : Int32))
theorem jt_288_155 (w : cm_W) (k_91 : Nat → Int32 → Int32 → Int32 → Int32 → Int32 → Int32 → Int32 → Option Bool) (hk_91 : ∀ (a0 : Nat) (i1 : Int32) (i2 : Int32) (i3 : Int32) (i4 : Int32) (i8 : Int32) (i9 : Int32) (i10 : Int32), sm cm_g 288 ck_288 kq_288 91 [(0, .ref a0), (1, .int i1), (2, .int i2), (3, .int i3), (4, .int i4), (8, .int i8), (9, .int i9), (10, .int i10)] [] w ((k_91 a0 i1 i2 i3 i4 i8 i9 i10).map (cm_fB w))) (a0 : Nat) (i1 : Int32) (i2 : Int32) (i3 : Int32) (i4 : Int32) (i8 : Int32) (i9 : Int32) (i10 : Int32) : sm cm_g 288 ck_288 kq_288 155 [(0, .ref a0), (1, .int i1), (2, .int i2), (3, .int i3), (4, .int i4), (8, .int i8), (9, .int i9), (10, .int i10)] [] w ((fn_288_155 w k_91 a0 i1 i2 i3 i4 i8 i9 i10).map (cm_fB w)) := by
  unfold fn_288_155
  refine sm_seg 2 91 [(0, .ref a0), (1, .int i1), (2, .int i2), (3, .int i3), (4, .int i4), (8, .int i8), (9, .int i9), (10, .int (i10 + (1 : Int32)))] [] rfl ?_
  exact hk_91 a0 i1 i2 i3 i4 i8 i9 (i10 + (1 : Int32))
def fn_288_152 (w : cm_W) (k_91 : Nat → Int32 → Int32 → Int32 → Int32 → Int32 → Int32 → Int32 → Option Bool) (a0 : Nat) (i1 : Int32) (i2 : Int32) (i3 : Int32) (i4 : Int32) (i8 : Int32) (i10 : Int32) : Option Bool := fn_288_155 w k_91 a0 i1 i2 i3 i4 i8 (0 : Int32) i10
theorem jt_288_152 (w : cm_W) (k_91 : Nat → Int32 → Int32 → Int32 → Int32 → Int32 → Int32 → Int32 → Option Bool) (hk_91 : ∀ (a0 : Nat) (i1 : Int32) (i2 : Int32) (i3 : Int32) (i4 : Int32) (i8 : Int32) (i9 : Int32) (i10 : Int32), sm cm_g 288 ck_288 kq_288 91 [(0, .ref a0), (1, .int i1), (2, .int i2), (3, .int i3), (4, .int i4), (8, .int i8), (9, .int i9), (10, .int i10)] [] w ((k_91 a0 i1 i2 i3 i4 i8 i9 i10).map (cm_fB w))) (a0 : Nat) (i1 : Int32) (i2 : Int32) (i3 : Int32) (i4 : Int32) (i8 : Int32) (i10 : Int32) : sm cm_g 288 ck_288 kq_288 152 [(0, .ref a0), (1, .int i1), (2, .int i2), (3, .int i3), (4, .int i4), (8, .int i8), (10, .int i10)] [] w ((fn_288_152 w k_91 a0 i1 i2 i3 i4 i8 i10).map (cm_fB w)) := by
  unfold fn_288_152
  refine sm_seg 2 155 [(0, .ref a0), (1, .int i1), (2, .int i2), (3, .int i3), (4, .int i4), (8, .int i8), (9, .int (0 : Int32)), (10, .int i10)] [] rfl ?_
  exact jt_288_155 w k_91 hk_91 a0 i1 i2 i3 i4 i8 (0 : Int32) i10
def fn_288_137 (w : cm_W) (k_91 : Nat → Int32 → Int32 → Int32 → Int32 → Int32 → Int32 → Int32 → Option Bool) (a0 : Nat) (i1 : Int32) (i2 : Int32) (i3 : Int32) (i4 : Int32) (i8 : Int32) (i10 : Int32) : Option Bool := (fn_196 w i4 i10).bind fun v8 => (if ¬ (0 : Int32) = (cm_b v8) then fn_288_152 w k_91 a0 i1 i2 i3 i4 i8 i10 else fn_288_155 w k_91 a0 i1 i2 i3 i4 i8 (1 : Int32) i10)
theorem jt_288_137 (w : cm_W) (k_91 : Nat → Int32 → Int32 → Int32 → Int32 → Int32 → Int32 → Int32 → Option Bool) (hk_91 : ∀ (a0 : Nat) (i1 : Int32) (i2 : Int32) (i3 : Int32) (i4 : Int32) (i8 : Int32) (i9 : Int32) (i10 : Int32), sm cm_g 288 ck_288 kq_288 91 [(0, .ref a0), (1, .int i1), (2, .int i2), (3, .int i3), (4, .int i4), (8, .int i8), (9, .int i9), (10, .int i10)] [] w ((k_91 a0 i1 i2 i3 i4 i8 i9 i10).map (cm_fB w))) (a0 : Nat) (i1 : Int32) (i2 : Int32) (i3 : Int32) (i4 : Int32) (i8 : Int32) (i10 : Int32) : sm cm_g 288 ck_288 kq_288 137 [(0, .ref a0), (1, .int i1), (2, .int i2), (3, .int i3), (4, .int i4), (8, .int i8), (10, .int i10)] [] w ((fn_288_137 w k_91 a0 i1 i2 i3 i4 i8 i10).map (cm_fB w)) := by
  unfold fn_288_137
  refine sm_seg 3 142 [(0, .ref a0), (1, .int i1), (2, .int i2), (3, .int i3), (4, .int i4), (8, .int i8), (10, .int i10)] [.int i10, .int i4, .int (0 : Int32)] rfl ?_
  refine sm_cS (av := [.int i4, .int i10]) (rest := [.int (0 : Int32)]) rfl rfl rfl rfl (Nat.le_of_ble_eq_true rfl) (ca_196 w i4 i10) fun v8 h9 => ?_
  show sm _ _ _ _ 145 [(0, .ref a0), (1, .int i1), (2, .int i2), (3, .int i3), (4, .int i4), (8, .int i8), (10, .int i10)] [.int (cm_b v8), .int (0 : Int32)] _ _
  refine sm_if (pc1 := 152) (lv1 := [(0, .ref a0), (1, .int i1), (2, .int i2), (3, .int i3), (4, .int i4), (8, .int i8), (10, .int i10)]) (pc2 := 148) (lv2 := [(0, .ref a0), (1, .int i1), (2, .int i2), (3, .int i3), (4, .int i4), (8, .int i8), (10, .int i10)]) (st1 := []) rfl rfl rfl (fun h10 => ?_) (fun h10 => ?_)
  · exact jt_288_152 w k_91 hk_91 a0 i1 i2 i3 i4 i8 i10
  · refine sm_seg 3 155 [(0, .ref a0), (1, .int i1), (2, .int i2), (3, .int i3), (4, .int i4), (8, .int i8), (9, .int (1 : Int32)), (10, .int i10)] [] rfl ?_
    exact jt_288_155 w k_91 hk_91 a0 i1 i2 i3 i4 i8 (1 : Int32) i10
def fn_288_91 (w : cm_W) : Nat → Nat → Int32 → Int32 → Int32 → Int32 → Int32 → Int32 → Int32 → Option Bool
  | 0, _, _, _, _, _, _, _, _ => none
  | n + 1, a0, i1, i2, i3, i4, i8, i9, i10 => (if cm_sh w a0 = some (.inl 11) then (if (cm_I w a0 1) ≤ i10 then (if i9 = 0 ∨ i9 = 1 then some (decide (i9 = 1)) else none) else (fn_228 w a0 i1 i10).bind fun v14 => (if v14 ≤ 0 then fn_288_155 w (fn_288_91 w n) a0 i1 i2 i3 i4 i8 i9 i10 else (if i10 = i3 then fn_288_155 w (fn_288_91 w n) a0 i1 i2 i3 i4 i8 i9 i10 else (if i9 = 0 then fn_288_152 w (fn_288_91 w n) a0 i1 i2 i3 i4 i8 i10 else (fn_222 w a0 i10 i2).bind fun v19 => (if i8 ≤ v19 then fn_288_137 w (fn_288_91 w n) a0 i1 i2 i3 i4 i8 i10 else (fn_196 w i4 i10).bind fun v22 => (if ¬ (1 : Int32) = (cm_b v22) then fn_288_152 w (fn_288_91 w n) a0 i1 i2 i3 i4 i8 i10 else fn_288_155 w (fn_288_91 w n) a0 i1 i2 i3 i4 i8 (1 : Int32) i10)))))) else none)
theorem jt_288_91 (w : cm_W) : ∀ (n : Nat) (a0 : Nat) (i1 : Int32) (i2 : Int32) (i3 : Int32) (i4 : Int32) (i8 : Int32) (i9 : Int32) (i10 : Int32), sm cm_g 288 ck_288 kq_288 91 [(0, .ref a0), (1, .int i1), (2, .int i2), (3, .int i3), (4, .int i4), (8, .int i8), (9, .int i9), (10, .int i10)] [] w ((fn_288_91 w n a0 i1 i2 i3 i4 i8 i9 i10).map (cm_fB w)) := by
  intro n
  induction n with
  | zero => intro a0 i1 i2 i3 i4 i8 i9 i10; exact sm_no
  | succ n ih =>
    intro a0 i1 i2 i3 i4 i8 i9 i10
    rw [fn_288_91]
    refine sm_seg 2 94 [(0, .ref a0), (1, .int i1), (2, .int i2), (3, .int i3), (4, .int i4), (8, .int i8), (9, .int i9), (10, .int i10)] [.ref a0, .int i10] rfl ?_
    refine sm_gd fun h11 => ?_
    refine sm_gI rfl h11 rfl ?_
    show sm _ _ _ _ 97 [(0, .ref a0), (1, .int i1), (2, .int i2), (3, .int i3), (4, .int i4), (8, .int i8), (9, .int i9), (10, .int i10)] [.int (cm_I w a0 1), .int i10] _ _
    refine sm_if (pc1 := 161) (lv1 := [(9, .int i9)]) (pc2 := 100) (lv2 := [(0, .ref a0), (1, .int i1), (2, .int i2), (3, .int i3), (4, .int i4), (8, .int i8), (9, .int i9), (10, .int i10)]) (st1 := []) rfl rfl rfl (fun h12 => ?_) (fun h12 => ?_)
    · refine sm_seg 1 163 [(9, .int i9)] [.int i9] rfl ?_
      refine sm_gd fun h13 => ?_
      exact sm_rY rfl rfl h13
    · refine sm_seg 3 104 [(0, .ref a0), (1, .int i1), (2, .int i2), (3, .int i3), (4, .int i4), (8, .int i8), (9, .int i9), (10, .int i10)] [.int i10, .int i1, .ref a0] rfl ?_
      refine sm_cV (as := [.int i1, .int i10]) (rest := []) rfl rfl rfl rfl h11 (Nat.le_of_ble_eq_true rfl) (ca_228 w a0 i1 i10) fun v14 h15 => ?_
      show sm _ _ _ _ 107 [(0, .ref a0), (1, .int i1), (2, .int i2), (3, .int i3), (4, .int i4), (8, .int i8), (9, .int i9), (10, .int i10)] [.int v14] _ _
      refine sm_if (pc1 := 155) (lv1 := [(0, .ref a0), (1, .int i1), (2, .int i2), (3, .int i3), (4, .int i4), (8, .int i8), (9, .int i9), (10, .int i10)]) (pc2 := 110) (lv2 := [(0, .ref a0), (1, .int i1), (2, .int i2), (3, .int i3), (4, .int i4), (8, .int i8), (9, .int i9), (10, .int i10)]) (st1 := []) rfl rfl rfl (fun h16 => ?_) (fun h16 => ?_)
      · exact jt_288_155 w (fn_288_91 w n) ih a0 i1 i2 i3 i4 i8 i9 i10
      · refine sm_seg 2 113 [(0, .ref a0), (1, .int i1), (2, .int i2), (3, .int i3), (4, .int i4), (8, .int i8), (9, .int i9), (10, .int i10)] [.int i3, .int i10] rfl ?_
        refine sm_if (pc1 := 155) (lv1 := [(0, .ref a0), (1, .int i1), (2, .int i2), (3, .int i3), (4, .int i4), (8, .int i8), (9, .int i9), (10, .int i10)]) (pc2 := 116) (lv2 := [(0, .ref a0), (1, .int i1), (2, .int i2), (3, .int i3), (4, .int i4), (8, .int i8), (9, .int i9), (10, .int i10)]) (st1 := []) rfl rfl rfl (fun h17 => ?_) (fun h17 => ?_)
        · exact jt_288_155 w (fn_288_91 w n) ih a0 i1 i2 i3 i4 i8 i9 i10
        · refine sm_seg 1 118 [(0, .ref a0), (1, .int i1), (2, .int i2), (3, .int i3), (4, .int i4), (8, .int i8), (9, .int i9), (10, .int i10)] [.int i9] rfl ?_
          refine sm_if (pc1 := 152) (lv1 := [(0, .ref a0), (1, .int i1), (2, .int i2), (3, .int i3), (4, .int i4), (8, .int i8), (10, .int i10)]) (pc2 := 121) (lv2 := [(0, .ref a0), (1, .int i1), (2, .int i2), (3, .int i3), (4, .int i4), (8, .int i8), (9, .int i9), (10, .int i10)]) (st1 := []) rfl rfl rfl (fun h18 => ?_) (fun h18 => ?_)
          · exact jt_288_152 w (fn_288_91 w n) ih a0 i1 i2 i3 i4 i8 i10
          · refine sm_seg 4 127 [(0, .ref a0), (1, .int i1), (2, .int i2), (3, .int i3), (4, .int i4), (8, .int i8), (9, .int i9), (10, .int i10)] [.int i2, .int i10, .ref a0, .int i8] rfl ?_
            refine sm_cV (as := [.int i10, .int i2]) (rest := [.int i8]) rfl rfl rfl rfl h11 (Nat.le_of_ble_eq_true rfl) (ca_222 w a0 i10 i2) fun v19 h20 => ?_
            show sm _ _ _ _ 130 [(0, .ref a0), (1, .int i1), (2, .int i2), (3, .int i3), (4, .int i4), (8, .int i8), (9, .int i9), (10, .int i10)] [.int v19, .int i8] _ _
            refine sm_if (pc1 := 137) (lv1 := [(0, .ref a0), (1, .int i1), (2, .int i2), (3, .int i3), (4, .int i4), (8, .int i8), (10, .int i10)]) (pc2 := 133) (lv2 := [(0, .ref a0), (1, .int i1), (2, .int i2), (3, .int i3), (4, .int i4), (8, .int i8), (9, .int i9), (10, .int i10)]) (st1 := []) rfl rfl rfl (fun h21 => ?_) (fun h21 => ?_)
            · exact jt_288_137 w (fn_288_91 w n) ih a0 i1 i2 i3 i4 i8 i10
            · refine sm_seg 4 142 [(0, .ref a0), (1, .int i1), (2, .int i2), (3, .int i3), (4, .int i4), (8, .int i8), (10, .int i10)] [.int i10, .int i4, .int (1 : Int32)] rfl ?_
              refine sm_cS (av := [.int i4, .int i10]) (rest := [.int (1 : Int32)]) rfl rfl rfl rfl (Nat.le_of_ble_eq_true rfl) (ca_196 w i4 i10) fun v22 h23 => ?_
              show sm _ _ _ _ 145 [(0, .ref a0), (1, .int i1), (2, .int i2), (3, .int i3), (4, .int i4), (8, .int i8), (10, .int i10)] [.int (cm_b v22), .int (1 : Int32)] _ _
              refine sm_if (pc1 := 152) (lv1 := [(0, .ref a0), (1, .int i1), (2, .int i2), (3, .int i3), (4, .int i4), (8, .int i8), (10, .int i10)]) (pc2 := 148) (lv2 := [(0, .ref a0), (1, .int i1), (2, .int i2), (3, .int i3), (4, .int i4), (8, .int i8), (10, .int i10)]) (st1 := []) rfl rfl rfl (fun h24 => ?_) (fun h24 => ?_)
              · exact jt_288_152 w (fn_288_91 w n) ih a0 i1 i2 i3 i4 i8 i10
              · refine sm_seg 3 155 [(0, .ref a0), (1, .int i1), (2, .int i2), (3, .int i3), (4, .int i4), (8, .int i8), (9, .int (1 : Int32)), (10, .int i10)] [] rfl ?_
                exact jt_288_155 w (fn_288_91 w n) ih a0 i1 i2 i3 i4 i8 (1 : Int32) i10
def fn_288_75 (w : cm_W) (a0 : Nat) (i1 : Int32) (i2 : Int32) (i3 : Int32) (i4 : Int32) (i5 : Int32) (i6 : Int32) (i7 : Int32) : Option Bool := (if ¬ i7 = 0 then fn_288_91 w cm_N a0 i1 i2 i3 i4 ((i6 / i7) - i5) (1 : Int32) (0 : Int32) else none)
theorem jt_288_75 (w : cm_W) (a0 : Nat) (i1 : Int32) (i2 : Int32) (i3 : Int32) (i4 : Int32) (i5 : Int32) (i6 : Int32) (i7 : Int32) : sm cm_g 288 ck_288 kq_288 75 [(0, .ref a0), (1, .int i1), (2, .int i2), (3, .int i3), (4, .int i4), (5, .int i5), (6, .int i6), (7, .int i7)] [] w ((fn_288_75 w a0 i1 i2 i3 i4 i5 i6 i7).map (cm_fB w)) := by
  unfold fn_288_75
  refine sm_seg 2 79 [(0, .ref a0), (1, .int i1), (2, .int i2), (3, .int i3), (4, .int i4), (5, .int i5), (6, .int i6), (7, .int i7)] [.int i7, .int i6] rfl ?_
  refine sm_gd fun h25 => ?_
  refine sm_idiv rfl h25 rfl ?_
  show sm _ _ _ _ 80 [(0, .ref a0), (1, .int i1), (2, .int i2), (3, .int i3), (4, .int i4), (5, .int i5), (6, .int i6), (7, .int i7)] [.int (i6 / i7)] _ _
  refine sm_seg 7 91 [(0, .ref a0), (1, .int i1), (2, .int i2), (3, .int i3), (4, .int i4), (8, .int ((i6 / i7) - i5)), (9, .int (1 : Int32)), (10, .int (0 : Int32))] [] rfl ?_
  exact jt_288_91 w cm_N a0 i1 i2 i3 i4 ((i6 / i7) - i5) (1 : Int32) (0 : Int32)
def fn_288_9 (w : cm_W) : Nat → Nat → Int32 → Int32 → Int32 → Int32 → Int32 → Int32 → Int32 → Int32 → Option Bool
  | 0, _, _, _, _, _, _, _, _, _ => none
  | n + 1, a0, i1, i2, i3, i4, i5, i6, i7, i8 => (if cm_sh w a0 = some (.inl 11) then (if (cm_I w a0 1) ≤ i8 then fn_288_75 w a0 i1 i2 i3 i4 i5 i6 i7 else (if i8 = i3 then fn_288_37 w (fn_288_9 w n) a0 i1 i2 i3 i4 i5 i6 i7 i8 else (fn_196 w i4 i8).bind fun v29 => (if ¬ (cm_b v29) = 0 then fn_288_37 w (fn_288_9 w n) a0 i1 i2 i3 i4 i5 i6 i7 i8 else fn_288_69 w (fn_288_9 w n) a0 i1 i2 i3 i4 i5 i6 i7 i8))) else none)
theorem jt_288_9 (w : cm_W) : ∀ (n : Nat) (a0 : Nat) (i1 : Int32) (i2 : Int32) (i3 : Int32) (i4 : Int32) (i5 : Int32) (i6 : Int32) (i7 : Int32) (i8 : Int32), sm cm_g 288 ck_288 kq_288 9 [(0, .ref a0), (1, .int i1), (2, .int i2), (3, .int i3), (4, .int i4), (5, .int i5), (6, .int i6), (7, .int i7), (8, .int i8)] [] w ((fn_288_9 w n a0 i1 i2 i3 i4 i5 i6 i7 i8).map (cm_fB w)) := by
  intro n
  induction n with
  | zero => intro a0 i1 i2 i3 i4 i5 i6 i7 i8; exact sm_no
  | succ n ih =>
    intro a0 i1 i2 i3 i4 i5 i6 i7 i8
    rw [fn_288_9]
    refine sm_seg 2 12 [(0, .ref a0), (1, .int i1), (2, .int i2), (3, .int i3), (4, .int i4), (5, .int i5), (6, .int i6), (7, .int i7), (8, .int i8)] [.ref a0, .int i8] rfl ?_
    refine sm_gd fun h26 => ?_
    refine sm_gI rfl h26 rfl ?_
    show sm _ _ _ _ 15 [(0, .ref a0), (1, .int i1), (2, .int i2), (3, .int i3), (4, .int i4), (5, .int i5), (6, .int i6), (7, .int i7), (8, .int i8)] [.int (cm_I w a0 1), .int i8] _ _
    refine sm_if (pc1 := 75) (lv1 := [(0, .ref a0), (1, .int i1), (2, .int i2), (3, .int i3), (4, .int i4), (5, .int i5), (6, .int i6), (7, .int i7)]) (pc2 := 18) (lv2 := [(0, .ref a0), (1, .int i1), (2, .int i2), (3, .int i3), (4, .int i4), (5, .int i5), (6, .int i6), (7, .int i7), (8, .int i8)]) (st1 := []) rfl rfl rfl (fun h27 => ?_) (fun h27 => ?_)
    · exact jt_288_75 w a0 i1 i2 i3 i4 i5 i6 i7
    · refine sm_seg 2 21 [(0, .ref a0), (1, .int i1), (2, .int i2), (3, .int i3), (4, .int i4), (5, .int i5), (6, .int i6), (7, .int i7), (8, .int i8)] [.int i3, .int i8] rfl ?_
      refine sm_if (pc1 := 37) (lv1 := [(0, .ref a0), (1, .int i1), (2, .int i2), (3, .int i3), (4, .int i4), (5, .int i5), (6, .int i6), (7, .int i7), (8, .int i8)]) (pc2 := 24) (lv2 := [(0, .ref a0), (1, .int i1), (2, .int i2), (3, .int i3), (4, .int i4), (5, .int i5), (6, .int i6), (7, .int i7), (8, .int i8)]) (st1 := []) rfl rfl rfl (fun h28 => ?_) (fun h28 => ?_)
      · exact jt_288_37 w (fn_288_9 w n) ih a0 i1 i2 i3 i4 i5 i6 i7 i8
      · refine sm_seg 2 28 [(0, .ref a0), (1, .int i1), (2, .int i2), (3, .int i3), (4, .int i4), (5, .int i5), (6, .int i6), (7, .int i7), (8, .int i8)] [.int i8, .int i4] rfl ?_
        refine sm_cS (av := [.int i4, .int i8]) (rest := []) rfl rfl rfl rfl (Nat.le_of_ble_eq_true rfl) (ca_196 w i4 i8) fun v29 h30 => ?_
        show sm _ _ _ _ 31 [(0, .ref a0), (1, .int i1), (2, .int i2), (3, .int i3), (4, .int i4), (5, .int i5), (6, .int i6), (7, .int i7), (8, .int i8)] [.int (cm_b v29)] _ _
        refine sm_if (pc1 := 37) (lv1 := [(0, .ref a0), (1, .int i1), (2, .int i2), (3, .int i3), (4, .int i4), (5, .int i5), (6, .int i6), (7, .int i7), (8, .int i8)]) (pc2 := 34) (lv2 := [(0, .ref a0), (1, .int i1), (2, .int i2), (3, .int i3), (4, .int i4), (5, .int i5), (6, .int i6), (7, .int i7), (8, .int i8)]) (st1 := []) rfl rfl rfl (fun h31 => ?_) (fun h31 => ?_)
        · exact jt_288_37 w (fn_288_9 w n) ih a0 i1 i2 i3 i4 i5 i6 i7 i8
        · refine sm_seg 1 69 [(0, .ref a0), (1, .int i1), (2, .int i2), (3, .int i3), (4, .int i4), (5, .int i5), (6, .int i6), (7, .int i7), (8, .int i8)] [] rfl ?_
          exact jt_288_69 w (fn_288_9 w n) ih a0 i1 i2 i3 i4 i5 i6 i7 i8
def fn_288 (w : cm_W) (a0 : Nat) (i1 : Int32) (i2 : Int32) (i3 : Int32) (i4 : Int32) (i5 : Int32) : Option Bool := fn_288_9 w cm_N a0 i1 i2 i3 i4 i5 (0 : Int32) (0 : Int32) (0 : Int32)
theorem jt_288_0 (w : cm_W) (a0 : Nat) (i1 : Int32) (i2 : Int32) (i3 : Int32) (i4 : Int32) (i5 : Int32) : sm cm_g 288 ck_288 kq_288 0 [(0, .ref a0), (1, .int i1), (2, .int i2), (3, .int i3), (4, .int i4), (5, .int i5)] [] w ((fn_288 w a0 i1 i2 i3 i4 i5).map (cm_fB w)) := by
  unfold fn_288
  refine sm_seg 6 9 [(0, .ref a0), (1, .int i1), (2, .int i2), (3, .int i3), (4, .int i4), (5, .int i5), (6, .int (0 : Int32)), (7, .int (0 : Int32)), (8, .int (0 : Int32))] [] rfl ?_
  exact jt_288_9 w cm_N a0 i1 i2 i3 i4 i5 (0 : Int32) (0 : Int32) (0 : Int32)
theorem ca_288 (w : cm_W) (a0 : Nat) (i1 : Int32) (i2 : Int32) (i3 : Int32) (i4 : Int32) (i5 : Int32) : cm_ca cm_g 288 [.ref a0, .int i1, .int i2, .int i3, .int i4, .int i5] w ((fn_288 w a0 i1 i2 i3 i4 i5).map (cm_fB w)) := cm_ca_of (cm_me_of rfl rfl) rfl (jt_288_0 w a0 i1 i2 i3 i4 i5)
-- NailedBoxesModel.liars(III)I
def fn_289_110 (w : cm_W) (k_77 : Nat → Int32 → Int32 → Int32 → Int32 → Int32 → Int32 → Int32 → Option Int32) (a0 : Nat) (i1 : Int32) (i2 : Int32) (i3 : Int32) (i4 : Int32) (i5 : Int32) (i6 : Int32) : Option Int32 := (if cm_sh w a0 = some (.inl 11) then (fn_287 w a0 i1 i2 i4 i6).bind fun v2 => k_77 a0 i1 i2 i3 i4 i5 i6 v2 else none)
theorem jt_289_110 (w : cm_W) (k_77 : Nat → Int32 → Int32 → Int32 → Int32 → Int32 → Int32 → Int32 → Option Int32) (hk_77 : ∀ (a0 : Nat) (i1 : Int32) (i2 : Int32) (i3 : Int32) (i4 : Int32) (i5 : Int32) (i6 : Int32) (i7 : Int32), sm cm_g 289 ck_289 kq_289 77 [(0, .ref a0), (1, .int i1), (2, .int i2), (3, .int i3), (4, .int i4), (5, .int i5), (6, .int i6), (7, .int i7)] [] w ((k_77 a0 i1 i2 i3 i4 i5 i6 i7).map (cm_fI w))) (a0 : Nat) (i1 : Int32) (i2 : Int32) (i3 : Int32) (i4 : Int32) (i5 : Int32) (i6 : Int32) : sm cm_g 289 ck_289 kq_289 110 [(0, .ref a0), (1, .int i1), (2, .int i2), (3, .int i3), (4, .int i4), (5, .int i5), (6, .int i6)] [] w ((fn_289_110 w k_77 a0 i1 i2 i3 i4 i5 i6).map (cm_fI w)) := by
  unfold fn_289_110
  refine sm_seg 5 117 [(0, .ref a0), (1, .int i1), (2, .int i2), (3, .int i3), (4, .int i4), (5, .int i5), (6, .int i6)] [.int i6, .int i4, .int i2, .int i1, .ref a0] rfl ?_
  refine sm_gd fun h1 => ?_
  refine sm_cV (as := [.int i1, .int i2, .int i4, .int i6]) (rest := []) rfl rfl rfl rfl h1 (Nat.le_of_ble_eq_true rfl) (ca_287 w a0 i1 i2 i4 i6) fun v2 h3 => ?_
  show sm _ _ _ _ 120 [(0, .ref a0), (1, .int i1), (2, .int i2), (3, .int i3), (4, .int i4), (5, .int i5), (6, .int i6)] [.int v2] _ _
  refine sm_seg 2 77 [(0, .ref a0), (1, .int i1), (2, .int i2), (3, .int i3), (4, .int i4), (5, .int i5), (6, .int i6), (7, .int v2)] [] rfl ?_
  exact hk_77 a0 i1 i2 i3 i4 i5 i6 v2
def fn_289_77 (w : cm_W) : Nat → Nat → Int32 → Int32 → Int32 → Int32 → Int32 → Int32 → Int32 → Option Int32
  | 0, _, _, _, _, _, _, _, _ => none
  | n + 1, a0, i1, i2, i3, i4, i5, i6, i7 => (if i7 = (-1 : Int32) then some i5 else (if cm_sh w a0 = some (.inl 11) then (fn_288 w a0 i1 i2 i4 (i6 ||| ((1 : Int32) <<< (i7 &&& 31))) i3).bind fun v6 => (if (cm_b v6) = 0 then fn_289_110 w (fn_289_77 w n) a0 i1 i2 i3 i4 i5 (i6 ||| ((1 : Int32) <<< (i7 &&& 31))) else fn_289_110 w (fn_289_77 w n) a0 i1 i2 i3 i4 (i6 ||| ((1 : Int32) <<< (i7 &&& 31))) (i6 ||| ((1 : Int32) <<< (i7 &&& 31)))) else none))
theorem jt_289_77 (w : cm_W) : ∀ (n : Nat) (a0 : Nat) (i1 : Int32) (i2 : Int32) (i3 : Int32) (i4 : Int32) (i5 : Int32) (i6 : Int32) (i7 : Int32), sm cm_g 289 ck_289 kq_289 77 [(0, .ref a0), (1, .int i1), (2, .int i2), (3, .int i3), (4, .int i4), (5, .int i5), (6, .int i6), (7, .int i7)] [] w ((fn_289_77 w n a0 i1 i2 i3 i4 i5 i6 i7).map (cm_fI w)) := by
  intro n
  induction n with
  | zero => intro a0 i1 i2 i3 i4 i5 i6 i7; exact sm_no
  | succ n ih =>
    intro a0 i1 i2 i3 i4 i5 i6 i7
    rw [fn_289_77]
    refine sm_seg 2 80 [(0, .ref a0), (1, .int i1), (2, .int i2), (3, .int i3), (4, .int i4), (5, .int i5), (6, .int i6), (7, .int i7)] [.int (-1 : Int32), .int i7] rfl ?_
    refine sm_if (pc1 := 125) (lv1 := [(5, .int i5)]) (pc2 := 83) (lv2 := [(0, .ref a0), (1, .int i1), (2, .int i2), (3, .int i3), (4, .int i4), (5, .int i5), (6, .int i6), (7, .int i7)]) (st1 := []) rfl rfl rfl (fun h4 => ?_) (fun h4 => ?_)
    · refine sm_seg 1 127 [(5, .int i5)] [.int i5] rfl ?_
      exact sm_rI rfl rfl
    · refine sm_seg 12 100 [(6, .int (i6 ||| ((1 : Int32) <<< (i7 &&& 31)))), (0, .ref a0), (1, .int i1), (2, .int i2), (3, .int i3), (4, .int i4), (5, .int i5), (7, .int i7)] [.int i3, .int (i6 ||| ((1 : Int32) <<< (i7 &&& 31))), .int i4, .int i2, .int i1, .ref a0] rfl ?_
      refine sm_gd fun h5 => ?_
      refine sm_cV (as := [.int i1, .int i2, .int i4, .int (i6 ||| ((1 : Int32) <<< (i7 &&& 31))), .int i3]) (rest := []) rfl rfl rfl rfl h5 (Nat.le_of_ble_eq_true rfl) (ca_288 w a0 i1 i2 i4 (i6 ||| ((1 : Int32) <<< (i7 &&& 31))) i3) fun v6 h7 => ?_
      show sm _ _ _ _ 103 [(6, .int (i6 ||| ((1 : Int32) <<< (i7 &&& 31)))), (0, .ref a0), (1, .int i1), (2, .int i2), (3, .int i3), (4, .int i4), (5, .int i5), (7, .int i7)] [.int (cm_b v6)] _ _
      refine sm_if (pc1 := 110) (lv1 := [(0, .ref a0), (1, .int i1), (2, .int i2), (3, .int i3), (4, .int i4), (5, .int i5), (6, .int (i6 ||| ((1 : Int32) <<< (i7 &&& 31))))]) (pc2 := 106) (lv2 := [(6, .int (i6 ||| ((1 : Int32) <<< (i7 &&& 31)))), (0, .ref a0), (1, .int i1), (2, .int i2), (3, .int i3), (4, .int i4), (5, .int i5), (7, .int i7)]) (st1 := []) rfl rfl rfl (fun h8 => ?_) (fun h8 => ?_)
      · exact jt_289_110 w (fn_289_77 w n) ih a0 i1 i2 i3 i4 i5 (i6 ||| ((1 : Int32) <<< (i7 &&& 31)))
      · refine sm_seg 2 110 [(0, .ref a0), (1, .int i1), (2, .int i2), (3, .int i3), (4, .int i4), (5, .int (i6 ||| ((1 : Int32) <<< (i7 &&& 31)))), (6, .int (i6 ||| ((1 : Int32) <<< (i7 &&& 31))))] [] rfl ?_
        exact jt_289_110 w (fn_289_77 w n) ih a0 i1 i2 i3 i4 (i6 ||| ((1 : Int32) <<< (i7 &&& 31))) (i6 ||| ((1 : Int32) <<< (i7 &&& 31)))
def fn_289_60 (w : cm_W) (a0 : Nat) (i1 : Int32) (i2 : Int32) (i3 : Int32) (i4 : Int32) : Option Int32 := (if cm_sh w a0 = some (.inl 11) then (fn_287 w a0 i1 i2 i4 (0 : Int32)).bind fun v10 => fn_289_77 w cm_N a0 i1 i2 i3 i4 (-1 : Int32) (0 : Int32) v10 else none)
theorem jt_289_60 (w : cm_W) (a0 : Nat) (i1 : Int32) (i2 : Int32) (i3 : Int32) (i4 : Int32) : sm cm_g 289 ck_289 kq_289 60 [(0, .ref a0), (1, .int i1), (2, .int i2), (3, .int i3), (4, .int i4)] [] w ((fn_289_60 w a0 i1 i2 i3 i4).map (cm_fI w)) := by
  unfold fn_289_60
  refine sm_seg 9 72 [(6, .int (0 : Int32)), (5, .int (-1 : Int32)), (0, .ref a0), (1, .int i1), (2, .int i2), (3, .int i3), (4, .int i4)] [.int (0 : Int32), .int i4, .int i2, .int i1, .ref a0] rfl ?_
  refine sm_gd fun h9 => ?_
  refine sm_cV (as := [.int i1, .int i2, .int i4, .int (0 : Int32)]) (rest := []) rfl rfl rfl rfl h9 (Nat.le_of_ble_eq_true rfl) (ca_287 w a0 i1 i2 i4 (0 : Int32)) fun v10 h11 => ?_
  show sm _ _ _ _ 75 [(6, .int (0 : Int32)), (5, .int (-1 : Int32)), (0, .ref a0), (1, .int i1), (2, .int i2), (3, .int i3), (4, .int i4)] [.int v10] _ _
  refine sm_seg 1 77 [(0, .ref a0), (1, .int i1), (2, .int i2), (3, .int i3), (4, .int i4), (5, .int (-1 : Int32)), (6, .int (0 : Int32)), (7, .int v10)] [] rfl ?_
  exact jt_289_77 w cm_N a0 i1 i2 i3 i4 (-1 : Int32) (0 : Int32) v10
def fn_289_35 (w : cm_W) (a0 : Nat) (i1 : Int32) (i2 : Int32) (i3 : Int32) : Option Int32 := (if cm_sh w a0 = some (.inl 11) then (fn_286 w a0 i1 i2).bind fun v13 => (fn_288 w a0 i1 i2 v13 (0 : Int32) i3).bind fun v15 => (if (cm_b v15) = 0 then fn_289_60 w a0 i1 i2 i3 v13 else (fn_287 w a0 i1 i2 v13 (0 : Int32)).bind fun v18 => fn_289_77 w cm_N a0 i1 i2 i3 v13 (0 : Int32) (0 : Int32) v18) else none)
theorem jt_289_35 (w : cm_W) (a0 : Nat) (i1 : Int32) (i2 : Int32) (i3 : Int32) : sm cm_g 289 ck_289 kq_289 35 [(0, .ref a0), (1, .int i1), (2, .int i2), (3, .int i3)] [] w ((fn_289_35 w a0 i1 i2 i3).map (cm_fI w)) := by
  unfold fn_289_35
  refine sm_seg 3 38 [(0, .ref a0), (1, .int i1), (2, .int i2), (3, .int i3)] [.int i2, .int i1, .ref a0] rfl ?_
  refine sm_gd fun h12 => ?_
  refine sm_cV (as := [.int i1, .int i2]) (rest := []) rfl rfl rfl rfl h12 (Nat.le_of_ble_eq_true rfl) (ca_286 w a0 i1 i2) fun v13 h14 => ?_
  show sm _ _ _ _ 41 [(0, .ref a0), (1, .int i1), (2, .int i2), (3, .int i3)] [.int v13] _ _
  refine sm_seg 7 50 [(4, .int v13), (0, .ref a0), (1, .int i1), (2, .int i2), (3, .int i3)] [.int i3, .int (0 : Int32), .int v13, .int i2, .int i1, .ref a0] rfl ?_
  refine sm_cV (as := [.int i1, .int i2, .int v13, .int (0 : Int32), .int i3]) (rest := []) rfl rfl rfl rfl h12 (Nat.le_of_ble_eq_true rfl) (ca_288 w a0 i1 i2 v13 (0 : Int32) i3) fun v15 h16 => ?_
  show sm _ _ _ _ 53 [(4, .int v13), (0, .ref a0), (1, .int i1), (2, .int i2), (3, .int i3)] [.int (cm_b v15)] _ _
  refine sm_if (pc1 := 60) (lv1 := [(0, .ref a0), (1, .int i1), (2, .int i2), (3, .int i3), (4, .int v13)]) (pc2 := 56) (lv2 := [(4, .int v13), (0, .ref a0), (1, .int i1), (2, .int i2), (3, .int i3)]) (st1 := []) rfl rfl rfl (fun h17 => ?_) (fun h17 => ?_)
  · exact jt_289_60 w a0 i1 i2 i3 v13
  · refine sm_seg 10 72 [(6, .int (0 : Int32)), (5, .int (0 : Int32)), (0, .ref a0), (1, .int i1), (2, .int i2), (3, .int i3), (4, .int v13)] [.int (0 : Int32), .int v13, .int i2, .int i1, .ref a0] rfl ?_
    refine sm_cV (as := [.int i1, .int i2, .int v13, .int (0 : Int32)]) (rest := []) rfl rfl rfl rfl h12 (Nat.le_of_ble_eq_true rfl) (ca_287 w a0 i1 i2 v13 (0 : Int32)) fun v18 h19 => ?_
    show sm _ _ _ _ 75 [(6, .int (0 : Int32)), (5, .int (0 : Int32)), (0, .ref a0), (1, .int i1), (2, .int i2), (3, .int i3), (4, .int v13)] [.int v18] _ _
    refine sm_seg 1 77 [(0, .ref a0), (1, .int i1), (2, .int i2), (3, .int i3), (4, .int v13), (5, .int (0 : Int32)), (6, .int (0 : Int32)), (7, .int v18)] [] rfl ?_
    exact jt_289_77 w cm_N a0 i1 i2 i3 v13 (0 : Int32) (0 : Int32) v18
def fn_289 (w : cm_W) (a0 : Nat) (i1 : Int32) (i2 : Int32) (i3 : Int32) : Option Int32 := (if cm_sh w a0 = some (.inl 11) then (fn_225 w a0 i1).bind fun v21 => (if (cm_b v21) = 0 then some (-1 : Int32) else (fn_226 w i2).bind fun v24 => (if (cm_b v24) = 0 then some (-1 : Int32) else (fn_194 w i3 (0 : Int32) (999 : Int32)).bind fun v27 => (if (cm_b v27) = 0 then some (-1 : Int32) else (if ¬ (cm_I w a0 1) = 0 then fn_289_35 w a0 i1 i2 i3 else some (-1 : Int32))))) else none)
theorem jt_289_0 (w : cm_W) (a0 : Nat) (i1 : Int32) (i2 : Int32) (i3 : Int32) : sm cm_g 289 ck_289 kq_289 0 [(0, .ref a0), (1, .int i1), (2, .int i2), (3, .int i3)] [] w ((fn_289 w a0 i1 i2 i3).map (cm_fI w)) := by
  unfold fn_289
  refine sm_seg 2 2 [(0, .ref a0), (1, .int i1), (2, .int i2), (3, .int i3)] [.int i1, .ref a0] rfl ?_
  refine sm_gd fun h20 => ?_
  refine sm_cV (as := [.int i1]) (rest := []) rfl rfl rfl rfl h20 (Nat.le_of_ble_eq_true rfl) (ca_225 w a0 i1) fun v21 h22 => ?_
  show sm _ _ _ _ 5 [(0, .ref a0), (1, .int i1), (2, .int i2), (3, .int i3)] [.int (cm_b v21)] _ _
  refine sm_if (pc1 := 33) (lv1 := []) (pc2 := 8) (lv2 := [(0, .ref a0), (1, .int i1), (2, .int i2), (3, .int i3)]) (st1 := []) rfl rfl rfl (fun h23 => ?_) (fun h23 => ?_)
  · refine sm_seg 1 34 [] [.int (-1 : Int32)] rfl ?_
    exact sm_rI rfl rfl
  · refine sm_seg 1 9 [(0, .ref a0), (1, .int i1), (2, .int i2), (3, .int i3)] [.int i2] rfl ?_
    refine sm_cS (av := [.int i2]) (rest := []) rfl rfl rfl rfl (Nat.le_of_ble_eq_true rfl) (ca_226 w i2) fun v24 h25 => ?_
    show sm _ _ _ _ 12 [(0, .ref a0), (1, .int i1), (2, .int i2), (3, .int i3)] [.int (cm_b v24)] _ _
    refine sm_if (pc1 := 33) (lv1 := []) (pc2 := 15) (lv2 := [(0, .ref a0), (1, .int i1), (2, .int i2), (3, .int i3)]) (st1 := []) rfl rfl rfl (fun h26 => ?_) (fun h26 => ?_)
    · refine sm_seg 1 34 [] [.int (-1 : Int32)] rfl ?_
      exact sm_rI rfl rfl
    · refine sm_seg 3 20 [(0, .ref a0), (1, .int i1), (2, .int i2), (3, .int i3)] [.int (999 : Int32), .int (0 : Int32), .int i3] rfl ?_
      refine sm_cS (av := [.int i3, .int (0 : Int32), .int (999 : Int32)]) (rest := []) rfl rfl rfl rfl (Nat.le_of_ble_eq_true rfl) (ca_194 w i3 (0 : Int32) (999 : Int32)) fun v27 h28 => ?_
      show sm _ _ _ _ 23 [(0, .ref a0), (1, .int i1), (2, .int i2), (3, .int i3)] [.int (cm_b v27)] _ _
      refine sm_if (pc1 := 33) (lv1 := []) (pc2 := 26) (lv2 := [(0, .ref a0), (1, .int i1), (2, .int i2), (3, .int i3)]) (st1 := []) rfl rfl rfl (fun h29 => ?_) (fun h29 => ?_)
      · refine sm_seg 1 34 [] [.int (-1 : Int32)] rfl ?_
        exact sm_rI rfl rfl
      · refine sm_seg 1 27 [(0, .ref a0), (1, .int i1), (2, .int i2), (3, .int i3)] [.ref a0] rfl ?_
        refine sm_gI rfl h20 rfl ?_
        show sm _ _ _ _ 30 [(0, .ref a0), (1, .int i1), (2, .int i2), (3, .int i3)] [.int (cm_I w a0 1)] _ _
        refine sm_if (pc1 := 35) (lv1 := [(0, .ref a0), (1, .int i1), (2, .int i2), (3, .int i3)]) (pc2 := 33) (lv2 := []) (st1 := []) rfl rfl rfl (fun h30 => ?_) (fun h30 => ?_)
        · exact jt_289_35 w a0 i1 i2 i3
        · refine sm_seg 1 34 [] [.int (-1 : Int32)] rfl ?_
          exact sm_rI rfl rfl
theorem ca_289 (w : cm_W) (a0 : Nat) (i1 : Int32) (i2 : Int32) (i3 : Int32) : cm_ca cm_g 289 [.ref a0, .int i1, .int i2, .int i3] w ((fn_289 w a0 i1 i2 i3).map (cm_fI w)) := cm_ca_of (cm_me_of rfl rfl) rfl (jt_289_0 w a0 i1 i2 i3)
-- NailedBoxesModel.honest(III)I
def fn_290_51 (w : cm_W) (a0 : Nat) (i1 : Int32) (i2 : Int32) (i4 : Int32) : Option Int32 := (if cm_sh w a0 = some (.inl 11) then (fn_222 w a0 i4 i2).bind fun v2 => (fn_287 w a0 i1 i2 (-1 : Int32) (0 : Int32)).bind fun v4 => (fn_222 w a0 v4 i2).bind fun v6 => some (v2 - v6) else none)
theorem jt_290_51 (w : cm_W) (a0 : Nat) (i1 : Int32) (i2 : Int32) (i4 : Int32) : sm cm_g 290 ck_290 kq_290 51 [(0, .ref a0), (1, .int i1), (2, .int i2), (4, .int i4)] [] w ((fn_290_51 w a0 i1 i2 i4).map (cm_fI w)) := by
  unfold fn_290_51
  refine sm_seg 3 55 [(0, .ref a0), (1, .int i1), (2, .int i2), (4, .int i4)] [.int i2, .int i4, .ref a0] rfl ?_
  refine sm_gd fun h1 => ?_
  refine sm_cV (as := [.int i4, .int i2]) (rest := []) rfl rfl rfl rfl h1 (Nat.le_of_ble_eq_true rfl) (ca_222 w a0 i4 i2) fun v2 h3 => ?_
  show sm _ _ _ _ 58 [(0, .ref a0), (1, .int i1), (2, .int i2), (4, .int i4)] [.int v2] _ _
  refine sm_seg 6 64 [(0, .ref a0), (1, .int i1), (2, .int i2), (4, .int i4)] [.int (0 : Int32), .int (-1 : Int32), .int i2, .int i1, .ref a0, .ref a0, .int v2] rfl ?_
  refine sm_cV (as := [.int i1, .int i2, .int (-1 : Int32), .int (0 : Int32)]) (rest := [.ref a0, .int v2]) rfl rfl rfl rfl h1 (Nat.le_of_ble_eq_true rfl) (ca_287 w a0 i1 i2 (-1 : Int32) (0 : Int32)) fun v4 h5 => ?_
  show sm _ _ _ _ 67 [(0, .ref a0), (1, .int i1), (2, .int i2), (4, .int i4)] [.int v4, .ref a0, .int v2] _ _
  refine sm_seg 1 68 [(0, .ref a0), (1, .int i1), (2, .int i2), (4, .int i4)] [.int i2, .int v4, .ref a0, .int v2] rfl ?_
  refine sm_cV (as := [.int v4, .int i2]) (rest := [.int v2]) rfl rfl rfl rfl h1 (Nat.le_of_ble_eq_true rfl) (ca_222 w a0 v4 i2) fun v6 h7 => ?_
  show sm _ _ _ _ 71 [(0, .ref a0), (1, .int i1), (2, .int i2), (4, .int i4)] [.int v6, .int v2] _ _
  refine sm_seg 1 72 [] [.int (v2 - v6)] rfl ?_
  exact sm_rI rfl rfl
def fn_290_33 (w : cm_W) (a0 : Nat) (i1 : Int32) (i2 : Int32) (i3 : Int32) : Option Int32 := (if cm_sh w a0 = some (.inl 11) then (fn_286 w a0 i1 i2).bind fun v9 => (if ¬ i3 = (1 : Int32) then fn_290_51 w a0 i1 i2 v9 else some v9) else none)
theorem jt_290_33 (w : cm_W) (a0 : Nat) (i1 : Int32) (i2 : Int32) (i3 : Int32) : sm cm_g 290 ck_290 kq_290 33 [(0, .ref a0), (1, .int i1), (2, .int i2), (3, .int i3)] [] w ((fn_290_33 w a0 i1 i2 i3).map (cm_fI w)) := by
  unfold fn_290_33
  refine sm_seg 3 36 [(0, .ref a0), (1, .int i1), (2, .int i2), (3, .int i3)] [.int i2, .int i1, .ref a0] rfl ?_
  refine sm_gd fun h8 => ?_
  refine sm_cV (as := [.int i1, .int i2]) (rest := []) rfl rfl rfl rfl h8 (Nat.le_of_ble_eq_true rfl) (ca_286 w a0 i1 i2) fun v9 h10 => ?_
  show sm _ _ _ _ 39 [(0, .ref a0), (1, .int i1), (2, .int i2), (3, .int i3)] [.int v9] _ _
  refine sm_seg 3 43 [(4, .int v9), (0, .ref a0), (1, .int i1), (2, .int i2), (3, .int i3)] [.int (1 : Int32), .int i3] rfl ?_
  refine sm_if (pc1 := 51) (lv1 := [(0, .ref a0), (1, .int i1), (2, .int i2), (4, .int v9)]) (pc2 := 46) (lv2 := [(4, .int v9), (0, .ref a0), (1, .int i1), (2, .int i2), (3, .int i3)]) (st1 := []) rfl rfl rfl (fun h11 => ?_) (fun h11 => ?_)
  · exact jt_290_51 w a0 i1 i2 v9
  · refine sm_seg 2 72 [] [.int v9] rfl ?_
    exact sm_rI rfl rfl
def fn_290 (w : cm_W) (a0 : Nat) (i1 : Int32) (i2 : Int32) (i3 : Int32) : Option Int32 := (if cm_sh w a0 = some (.inl 11) then (fn_225 w a0 i1).bind fun v13 => (if (cm_b v13) = 0 then some (-1 : Int32) else (fn_226 w i2).bind fun v16 => (if (cm_b v16) = 0 then some (-1 : Int32) else (fn_194 w i3 (0 : Int32) (1 : Int32)).bind fun v19 => (if (cm_b v19) = 0 then some (-1 : Int32) else (if ¬ (cm_I w a0 1) = 0 then fn_290_33 w a0 i1 i2 i3 else some (-1 : Int32))))) else none)
theorem jt_290_0 (w : cm_W) (a0 : Nat) (i1 : Int32) (i2 : Int32) (i3 : Int32) : sm cm_g 290 ck_290 kq_290 0 [(0, .ref a0), (1, .int i1), (2, .int i2), (3, .int i3)] [] w ((fn_290 w a0 i1 i2 i3).map (cm_fI w)) := by
  unfold fn_290
  refine sm_seg 2 2 [(0, .ref a0), (1, .int i1), (2, .int i2), (3, .int i3)] [.int i1, .ref a0] rfl ?_
  refine sm_gd fun h12 => ?_
  refine sm_cV (as := [.int i1]) (rest := []) rfl rfl rfl rfl h12 (Nat.le_of_ble_eq_true rfl) (ca_225 w a0 i1) fun v13 h14 => ?_
  show sm _ _ _ _ 5 [(0, .ref a0), (1, .int i1), (2, .int i2), (3, .int i3)] [.int (cm_b v13)] _ _
  refine sm_if (pc1 := 31) (lv1 := []) (pc2 := 8) (lv2 := [(0, .ref a0), (1, .int i1), (2, .int i2), (3, .int i3)]) (st1 := []) rfl rfl rfl (fun h15 => ?_) (fun h15 => ?_)
  · refine sm_seg 1 32 [] [.int (-1 : Int32)] rfl ?_
    exact sm_rI rfl rfl
  · refine sm_seg 1 9 [(0, .ref a0), (1, .int i1), (2, .int i2), (3, .int i3)] [.int i2] rfl ?_
    refine sm_cS (av := [.int i2]) (rest := []) rfl rfl rfl rfl (Nat.le_of_ble_eq_true rfl) (ca_226 w i2) fun v16 h17 => ?_
    show sm _ _ _ _ 12 [(0, .ref a0), (1, .int i1), (2, .int i2), (3, .int i3)] [.int (cm_b v16)] _ _
    refine sm_if (pc1 := 31) (lv1 := []) (pc2 := 15) (lv2 := [(0, .ref a0), (1, .int i1), (2, .int i2), (3, .int i3)]) (st1 := []) rfl rfl rfl (fun h18 => ?_) (fun h18 => ?_)
    · refine sm_seg 1 32 [] [.int (-1 : Int32)] rfl ?_
      exact sm_rI rfl rfl
    · refine sm_seg 3 18 [(0, .ref a0), (1, .int i1), (2, .int i2), (3, .int i3)] [.int (1 : Int32), .int (0 : Int32), .int i3] rfl ?_
      refine sm_cS (av := [.int i3, .int (0 : Int32), .int (1 : Int32)]) (rest := []) rfl rfl rfl rfl (Nat.le_of_ble_eq_true rfl) (ca_194 w i3 (0 : Int32) (1 : Int32)) fun v19 h20 => ?_
      show sm _ _ _ _ 21 [(0, .ref a0), (1, .int i1), (2, .int i2), (3, .int i3)] [.int (cm_b v19)] _ _
      refine sm_if (pc1 := 31) (lv1 := []) (pc2 := 24) (lv2 := [(0, .ref a0), (1, .int i1), (2, .int i2), (3, .int i3)]) (st1 := []) rfl rfl rfl (fun h21 => ?_) (fun h21 => ?_)
      · refine sm_seg 1 32 [] [.int (-1 : Int32)] rfl ?_
        exact sm_rI rfl rfl
      · refine sm_seg 1 25 [(0, .ref a0), (1, .int i1), (2, .int i2), (3, .int i3)] [.ref a0] rfl ?_
        refine sm_gI rfl h12 rfl ?_
        show sm _ _ _ _ 28 [(0, .ref a0), (1, .int i1), (2, .int i2), (3, .int i3)] [.int (cm_I w a0 1)] _ _
        refine sm_if (pc1 := 33) (lv1 := [(0, .ref a0), (1, .int i1), (2, .int i2), (3, .int i3)]) (pc2 := 31) (lv2 := []) (st1 := []) rfl rfl rfl (fun h22 => ?_) (fun h22 => ?_)
        · exact jt_290_33 w a0 i1 i2 i3
        · refine sm_seg 1 32 [] [.int (-1 : Int32)] rfl ?_
          exact sm_rI rfl rfl
theorem ca_290 (w : cm_W) (a0 : Nat) (i1 : Int32) (i2 : Int32) (i3 : Int32) : cm_ca cm_g 290 [.ref a0, .int i1, .int i2, .int i3] w ((fn_290 w a0 i1 i2 i3).map (cm_fI w)) := cm_ca_of (cm_me_of rfl rfl) rfl (jt_290_0 w a0 i1 i2 i3)
-- NailedBoxesModel.name(III)I
def fn_291_117 (i6 : Int32) (i7 : Int32) (w : cm_W) : Option (Int32 × cm_W) := (if ¬ i7 = 0 then some ((i6 / i7), w) else none)
theorem jt_291_117 (i6 : Int32) (i7 : Int32) (w : cm_W) : sm cm_g 291 ck_291 kq_291 117 [(6, .int i6), (7, .int i7)] [] w ((fn_291_117 i6 i7 w).map cm_gI) := by
  unfold fn_291_117
  refine sm_seg 2 121 [(6, .int i6), (7, .int i7)] [.int i7, .int i6] rfl ?_
  refine sm_gd fun h1 => ?_
  refine sm_idiv rfl h1 rfl ?_
  show sm _ _ _ _ 122 [] [.int (i6 / i7)] _ _
  exact sm_rIW rfl rfl
def fn_291_105 (i3 : Int32) (i5 : Int32) (i6 : Int32) (i7 : Int32) (w : cm_W) : Option (Int32 × cm_W) := (if ¬ i3 = 0 then fn_291_117  i6 i7 w else (if ¬ i7 = 0 then some ((i5 / i7), w) else none))
theorem jt_291_105 (i3 : Int32) (i5 : Int32) (i6 : Int32) (i7 : Int32) (w : cm_W) : sm cm_g 291 ck_291 kq_291 105 [(3, .int i3), (5, .int i5), (6, .int i6), (7, .int i7)] [] w ((fn_291_105 i3 i5 i6 i7 w).map cm_gI) := by
  unfold fn_291_105
  refine sm_seg 1 106 [(3, .int i3), (5, .int i5), (6, .int i6), (7, .int i7)] [.int i3] rfl ?_
  refine sm_if (pc1 := 117) (lv1 := [(6, .int i6), (7, .int i7)]) (pc2 := 109) (lv2 := [(3, .int i3), (5, .int i5), (6, .int i6), (7, .int i7)]) (st1 := []) rfl rfl rfl (fun h2 => ?_) (fun h2 => ?_)
  · exact jt_291_117  i6 i7 w
  · refine sm_seg 2 113 [(3, .int i3), (5, .int i5), (6, .int i6), (7, .int i7)] [.int i7, .int i5] rfl ?_
    refine sm_gd fun h3 => ?_
    refine sm_idiv rfl h3 rfl ?_
    show sm _ _ _ _ 114 [(3, .int i3), (5, .int i5), (6, .int i6), (7, .int i7)] [.int (i5 / i7)] _ _
    refine sm_seg 1 122 [] [.int (i5 / i7)] rfl ?_
    exact sm_rIW rfl rfl
def fn_291_82 : Nat → Int32 → Int32 → Int32 → Int32 → Int32 → cm_W → Option (Int32 × cm_W)
  | 0, _, _, _, _, _, _ => none
  | n + 1, i3, i5, i6, i7, i8, w => (if i8 ≤ 0 then fn_291_105  i3 i5 i6 i7 w else (if ¬ i8 = 0 then fn_291_82 n i3 i5 i6 i8 (i7 - i7 / i8 * i8) w else none))
theorem jt_291_82 : ∀ (n : Nat) (i3 : Int32) (i5 : Int32) (i6 : Int32) (i7 : Int32) (i8 : Int32) (w : cm_W), sm cm_g 291 ck_291 kq_291 82 [(3, .int i3), (5, .int i5), (6, .int i6), (7, .int i7), (8, .int i8)] [] w ((fn_291_82 n i3 i5 i6 i7 i8 w).map cm_gI) := by
  intro n
  induction n with
  | zero => intro i3 i5 i6 i7 i8 w; exact sm_no
  | succ n ih =>
    intro i3 i5 i6 i7 i8 w
    rw [fn_291_82]
    refine sm_seg 1 84 [(3, .int i3), (5, .int i5), (6, .int i6), (7, .int i7), (8, .int i8)] [.int i8] rfl ?_
    refine sm_if (pc1 := 105) (lv1 := [(3, .int i3), (5, .int i5), (6, .int i6), (7, .int i7)]) (pc2 := 87) (lv2 := [(3, .int i3), (5, .int i5), (6, .int i6), (7, .int i7), (8, .int i8)]) (st1 := []) rfl rfl rfl (fun h4 => ?_) (fun h4 => ?_)
    · exact jt_291_105  i3 i5 i6 i7 w
    · refine sm_seg 2 91 [(3, .int i3), (5, .int i5), (6, .int i6), (7, .int i7), (8, .int i8)] [.int i8, .int i7] rfl ?_
      refine sm_gd fun h5 => ?_
      refine sm_irem rfl h5 rfl ?_
      show sm _ _ _ _ 92 [(3, .int i3), (5, .int i5), (6, .int i6), (7, .int i7), (8, .int i8)] [.int (i7 - i7 / i8 * i8)] _ _
      refine sm_seg 6 82 [(3, .int i3), (5, .int i5), (6, .int i6), (7, .int i8), (8, .int (i7 - i7 / i8 * i8))] [] rfl ?_
      exact ih i3 i5 i6 i8 (i7 - i7 / i8 * i8) w
def fn_291_36 (a0 : Nat) (i1 : Int32) (i2 : Int32) (i3 : Int32) (w : cm_W) : Option (Int32 × cm_W) := (if cm_sh w a0 = some (.inl 11) then (fn_280 a0 i1 (0 : Int32) w).bind fun v7 => (if cm_sh v7.2 a0 = some (.inl 11) then (fn_269 a0 (0 : Int32) (0 : Int32) (0 : Int32) v7.2).bind fun w10 => (if cm_sh w10 a0 = some (.inl 11) then (fn_272 a0 (0 : Int32) w10).bind fun v13 => fn_291_82  cm_N i3 ((10 : Int32) * (if (0 : Int32) < (v7.1 - v13.1) then (v7.1 - v13.1) else (0 : Int32))) ((10 : Int32) - i2) ((10 : Int32) * (if (0 : Int32) < (v7.1 - v13.1) then (v7.1 - v13.1) else (0 : Int32))) ((10 : Int32) - i2) v13.2 else none) else none) else none)
theorem jt_291_36 (a0 : Nat) (i1 : Int32) (i2 : Int32) (i3 : Int32) (w : cm_W) : sm cm_g 291 ck_291 kq_291 36 [(0, .ref a0), (1, .int i1), (2, .int i2), (3, .int i3)] [] w ((fn_291_36 a0 i1 i2 i3 w).map cm_gI) := by
  unfold fn_291_36
  refine sm_seg 3 39 [(0, .ref a0), (1, .int i1), (2, .int i2), (3, .int i3)] [.int (0 : Int32), .int i1, .ref a0] rfl ?_
  refine sm_gd fun h6 => ?_
  refine sm_cV (as := [.int i1, .int (0 : Int32)]) (rest := []) rfl rfl rfl rfl h6 (Nat.le_of_ble_eq_true rfl) (ca_280  a0 i1 (0 : Int32) w) fun v7 h8 => ?_
  show sm _ _ _ _ 42 [(0, .ref a0), (1, .int i1), (2, .int i2), (3, .int i3)] [.int v7.1] _ _
  refine sm_seg 5 48 [(4, .int v7.1), (0, .ref a0), (1, .int i1), (2, .int i2), (3, .int i3)] [.int (0 : Int32), .int (0 : Int32), .int (0 : Int32), .ref a0] rfl ?_
  refine sm_gd fun h9 => ?_
  refine sm_cV (as := [.int (0 : Int32), .int (0 : Int32), .int (0 : Int32)]) (rest := []) rfl rfl rfl rfl h9 (Nat.le_of_ble_eq_true rfl) (ca_269  a0 (0 : Int32) (0 : Int32) (0 : Int32) v7.2) fun w10 h11 => ?_
  show sm _ _ _ _ 51 [(4, .int v7.1), (0, .ref a0), (1, .int i1), (2, .int i2), (3, .int i3)] [] _ _
  refine sm_seg 5 58 [(4, .int v7.1), (0, .ref a0), (1, .int i1), (2, .int i2), (3, .int i3)] [.int (0 : Int32), .ref a0, .int v7.1, .int (0 : Int32), .int (10 : Int32)] rfl ?_
  refine sm_gd fun h12 => ?_
  refine sm_cV (as := [.int (0 : Int32)]) (rest := [.int v7.1, .int (0 : Int32), .int (10 : Int32)]) rfl rfl rfl rfl h12 (Nat.le_of_ble_eq_true rfl) (ca_272  a0 (0 : Int32) w10) fun v13 h14 => ?_
  show sm _ _ _ _ 61 [(4, .int v7.1), (0, .ref a0), (1, .int i1), (2, .int i2), (3, .int i3)] [.int v13.1, .int v7.1, .int (0 : Int32), .int (10 : Int32)] _ _
  refine sm_seg 1 62 [(4, .int v7.1), (0, .ref a0), (1, .int i1), (2, .int i2), (3, .int i3)] [.int (v7.1 - v13.1), .int (0 : Int32), .int (10 : Int32)] rfl ?_
  refine sm_at rfl rfl rfl ?_
  show sm _ _ _ _ 65 [(4, .int v7.1), (0, .ref a0), (1, .int i1), (2, .int i2), (3, .int i3)] [.int (if (0 : Int32) < (v7.1 - v13.1) then (v7.1 - v13.1) else (0 : Int32)), .int (10 : Int32)] _ _
  refine sm_seg 10 82 [(3, .int i3), (5, .int ((10 : Int32) * (if (0 : Int32) < (v7.1 - v13.1) then (v7.1 - v13.1) else (0 : Int32)))), (6, .int ((10 : Int32) - i2)), (7, .int ((10 : Int32) * (if (0 : Int32) < (v7.1 - v13.1) then (v7.1 - v13.1) else (0 : Int32)))), (8, .int ((10 : Int32) - i2))] [] rfl ?_
  exact jt_291_82  cm_N i3 ((10 : Int32) * (if (0 : Int32) < (v7.1 - v13.1) then (v7.1 - v13.1) else (0 : Int32))) ((10 : Int32) - i2) ((10 : Int32) * (if (0 : Int32) < (v7.1 - v13.1) then (v7.1 - v13.1) else (0 : Int32))) ((10 : Int32) - i2) v13.2
def fn_291 (a0 : Nat) (i1 : Int32) (i2 : Int32) (i3 : Int32) (w : cm_W) : Option (Int32 × cm_W) := (if cm_sh w a0 = some (.inl 11) then (fn_225 w a0 i1).bind fun v16 => (if (cm_b v16) = 0 then some ((-1 : Int32), w) else (fn_194 w i2 (0 : Int32) (9 : Int32)).bind fun v19 => (if (cm_b v19) = 0 then some ((-1 : Int32), w) else (fn_194 w i3 (0 : Int32) (1 : Int32)).bind fun v22 => (if (cm_b v22) = 0 then some ((-1 : Int32), w) else (if ¬ (cm_I w a0 1) = 0 then fn_291_36  a0 i1 i2 i3 w else some ((-1 : Int32), w))))) else none)
theorem jt_291_0 (a0 : Nat) (i1 : Int32) (i2 : Int32) (i3 : Int32) (w : cm_W) : sm cm_g 291 ck_291 kq_291 0 [(0, .ref a0), (1, .int i1), (2, .int i2), (3, .int i3)] [] w ((fn_291 a0 i1 i2 i3 w).map cm_gI) := by
  unfold fn_291
  refine sm_seg 2 2 [(0, .ref a0), (1, .int i1), (2, .int i2), (3, .int i3)] [.int i1, .ref a0] rfl ?_
  refine sm_gd fun h15 => ?_
  refine sm_cV (as := [.int i1]) (rest := []) rfl rfl rfl rfl h15 (Nat.le_of_ble_eq_true rfl) (ca_225 w a0 i1) fun v16 h17 => ?_
  show sm _ _ _ _ 5 [(0, .ref a0), (1, .int i1), (2, .int i2), (3, .int i3)] [.int (cm_b v16)] _ _
  refine sm_if (pc1 := 34) (lv1 := []) (pc2 := 8) (lv2 := [(0, .ref a0), (1, .int i1), (2, .int i2), (3, .int i3)]) (st1 := []) rfl rfl rfl (fun h18 => ?_) (fun h18 => ?_)
  · refine sm_seg 1 35 [] [.int (-1 : Int32)] rfl ?_
    exact sm_rIW rfl rfl
  · refine sm_seg 3 12 [(0, .ref a0), (1, .int i1), (2, .int i2), (3, .int i3)] [.int (9 : Int32), .int (0 : Int32), .int i2] rfl ?_
    refine sm_cS (av := [.int i2, .int (0 : Int32), .int (9 : Int32)]) (rest := []) rfl rfl rfl rfl (Nat.le_of_ble_eq_true rfl) (ca_194 w i2 (0 : Int32) (9 : Int32)) fun v19 h20 => ?_
    show sm _ _ _ _ 15 [(0, .ref a0), (1, .int i1), (2, .int i2), (3, .int i3)] [.int (cm_b v19)] _ _
    refine sm_if (pc1 := 34) (lv1 := []) (pc2 := 18) (lv2 := [(0, .ref a0), (1, .int i1), (2, .int i2), (3, .int i3)]) (st1 := []) rfl rfl rfl (fun h21 => ?_) (fun h21 => ?_)
    · refine sm_seg 1 35 [] [.int (-1 : Int32)] rfl ?_
      exact sm_rIW rfl rfl
    · refine sm_seg 3 21 [(0, .ref a0), (1, .int i1), (2, .int i2), (3, .int i3)] [.int (1 : Int32), .int (0 : Int32), .int i3] rfl ?_
      refine sm_cS (av := [.int i3, .int (0 : Int32), .int (1 : Int32)]) (rest := []) rfl rfl rfl rfl (Nat.le_of_ble_eq_true rfl) (ca_194 w i3 (0 : Int32) (1 : Int32)) fun v22 h23 => ?_
      show sm _ _ _ _ 24 [(0, .ref a0), (1, .int i1), (2, .int i2), (3, .int i3)] [.int (cm_b v22)] _ _
      refine sm_if (pc1 := 34) (lv1 := []) (pc2 := 27) (lv2 := [(0, .ref a0), (1, .int i1), (2, .int i2), (3, .int i3)]) (st1 := []) rfl rfl rfl (fun h24 => ?_) (fun h24 => ?_)
      · refine sm_seg 1 35 [] [.int (-1 : Int32)] rfl ?_
        exact sm_rIW rfl rfl
      · refine sm_seg 1 28 [(0, .ref a0), (1, .int i1), (2, .int i2), (3, .int i3)] [.ref a0] rfl ?_
        refine sm_gI rfl h15 rfl ?_
        show sm _ _ _ _ 31 [(0, .ref a0), (1, .int i1), (2, .int i2), (3, .int i3)] [.int (cm_I w a0 1)] _ _
        refine sm_if (pc1 := 36) (lv1 := [(0, .ref a0), (1, .int i1), (2, .int i2), (3, .int i3)]) (pc2 := 34) (lv2 := []) (st1 := []) rfl rfl rfl (fun h25 => ?_) (fun h25 => ?_)
        · exact jt_291_36  a0 i1 i2 i3 w
        · refine sm_seg 1 35 [] [.int (-1 : Int32)] rfl ?_
          exact sm_rIW rfl rfl
theorem ca_291 (a0 : Nat) (i1 : Int32) (i2 : Int32) (i3 : Int32) (w : cm_W) : cm_ca cm_g 291 [.ref a0, .int i1, .int i2, .int i3] w ((fn_291 a0 i1 i2 i3 w).map cm_gI) := cm_ca_of (cm_me_of rfl rfl) rfl (jt_291_0 a0 i1 i2 i3 w)
-- NailedBoxesModel.fill(IIII)I
def fn_292_138 (k_43 : Nat → Int32 → Int32 → Int32 → Int32 → Int32 → Int32 → Int32 → cm_W → Option (Int32 × cm_W)) (a0 : Nat) (i1 : Int32) (i2 : Int32) (i3 : Int32) (i4 : Int32) (i5 : Int32) (i6 : Int32) (i7 : Int32) (w : cm_W) : Option (Int32 × cm_W) := k_43 a0 i1 i2 i3 i4 i5 i6 (i7 + (1 : Int32)) w
theorem jt_292_138 (k_43 : Nat → Int32 → Int32 → Int32 → Int32 → Int32 → Int32 → Int32 → cm_W → Option (Int32 × cm_W)) (hk_43 : ∀ (a0 : Nat) (i1 : Int32) (i2 : Int32) (i3 : Int32) (i4 : Int32) (i5 : Int32) (i6 : Int32) (i7 : Int32) (w : cm_W), sm cm_g 292 ck_292 kq_292 43 [(0, .ref a0), (1, .int i1), (2, .int i2), (3, .int i3), (4, .int i4), (5, .int i5), (6, .int i6), (7, .int i7)] [] w ((k_43 a0 i1 i2 i3 i4 i5 i6 i7 w).map cm_gI)) (a0 : Nat) (i1 : Int32) (i2 : Int32) (i3 : Int32) (i4 : Int32) (i5 : Int32) (i6 : Int32) (i7 : Int32) (w : cm_W) : sm cm_g 292 ck_292 kq_292 138 [(0, .ref a0), (1, .int i1), (2, .int i2), (3, .int i3), (4, .int i4), (5, .int i5), (6, .int i6), (7, .int i7)] [] w ((fn_292_138 k_43 a0 i1 i2 i3 i4 i5 i6 i7 w).map cm_gI) := by
  unfold fn_292_138
  refine sm_seg 2 43 [(0, .ref a0), (1, .int i1), (2, .int i2), (3, .int i3), (4, .int i4), (5, .int i5), (6, .int i6), (7, .int (i7 + (1 : Int32)))] [] rfl ?_
  exact hk_43 a0 i1 i2 i3 i4 i5 i6 (i7 + (1 : Int32)) w
def fn_292_130 (k_43 : Nat → Int32 → Int32 → Int32 → Int32 → Int32 → Int32 → Int32 → cm_W → Option (Int32 × cm_W)) (a0 : Nat) (i1 : Int32) (i2 : Int32) (i3 : Int32) (i4 : Int32) (i7 : Int32) (i9 : Int32) (w : cm_W) : Option (Int32 × cm_W) := fn_292_138  k_43 a0 i1 i2 i3 i4 i7 i9 i7 w
theorem jt_292_130 (k_43 : Nat → Int32 → Int32 → Int32 → Int32 → Int32 → Int32 → Int32 → cm_W → Option (Int32 × cm_W)) (hk_43 : ∀ (a0 : Nat) (i1 : Int32) (i2 : Int32) (i3 : Int32) (i4 : Int32) (i5 : Int32) (i6 : Int32) (i7 : Int32) (w : cm_W), sm cm_g 292 ck_292 kq_292 43 [(0, .ref a0), (1, .int i1), (2, .int i2), (3, .int i3), (4, .int i4), (5, .int i5), (6, .int i6), (7, .int i7)] [] w ((k_43 a0 i1 i2 i3 i4 i5 i6 i7 w).map cm_gI)) (a0 : Nat) (i1 : Int32) (i2 : Int32) (i3 : Int32) (i4 : Int32) (i7 : Int32) (i9 : Int32) (w : cm_W) : sm cm_g 292 ck_292 kq_292 130 [(0, .ref a0), (1, .int i1), (2, .int i2), (3, .int i3), (4, .int i4), (7, .int i7), (9, .int i9)] [] w ((fn_292_130 k_43 a0 i1 i2 i3 i4 i7 i9 w).map cm_gI) := by
  unfold fn_292_130
  refine sm_seg 4 138 [(0, .ref a0), (1, .int i1), (2, .int i2), (3, .int i3), (4, .int i4), (5, .int i7), (6, .int i9), (7, .int i7)] [] rfl ?_
  exact jt_292_138  k_43 hk_43 a0 i1 i2 i3 i4 i7 i9 i7 w
def fn_292_111 (k_43 : Nat → Int32 → Int32 → Int32 → Int32 → Int32 → Int32 → Int32 → cm_W → Option (Int32 × cm_W)) (a0 : Nat) (i1 : Int32) (i2 : Int32) (i3 : Int32) (i4 : Int32) (i5 : Int32) (i6 : Int32) (i7 : Int32) (w : cm_W) : Option (Int32 × cm_W) := (if i5 = (-1 : Int32) then fn_292_130  k_43 a0 i1 i2 i3 i4 i7 (0 : Int32) w else (if i6 < (0 : Int32) then fn_292_130  k_43 a0 i1 i2 i3 i4 i7 (0 : Int32) w else fn_292_138  k_43 a0 i1 i2 i3 i4 i5 i6 i7 w))
theorem jt_292_111 (k_43 : Nat → Int32 → Int32 → Int32 → Int32 → Int32 → Int32 → Int32 → cm_W → Option (Int32 × cm_W)) (hk_43 : ∀ (a0 : Nat) (i1 : Int32) (i2 : Int32) (i3 : Int32) (i4 : Int32) (i5 : Int32) (i6 : Int32) (i7 : Int32) (w : cm_W), sm cm_g 292 ck_292 kq_292 43 [(0, .ref a0), (1, .int i1), (2, .int i2), (3, .int i3), (4, .int i4), (5, .int i5), (6, .int i6), (7, .int i7)] [] w ((k_43 a0 i1 i2 i3 i4 i5 i6 i7 w).map cm_gI)) (a0 : Nat) (i1 : Int32) (i2 : Int32) (i3 : Int32) (i4 : Int32) (i5 : Int32) (i6 : Int32) (i7 : Int32) (w : cm_W) : sm cm_g 292 ck_292 kq_292 111 [(0, .ref a0), (1, .int i1), (2, .int i2), (3, .int i3), (4, .int i4), (5, .int i5), (6, .int i6), (7, .int i7)] [] w ((fn_292_111 k_43 a0 i1 i2 i3 i4 i5 i6 i7 w).map cm_gI) := by
  unfold fn_292_111
  refine sm_seg 4 117 [(9, .int (0 : Int32)), (0, .ref a0), (1, .int i1), (2, .int i2), (3, .int i3), (4, .int i4), (5, .int i5), (6, .int i6), (7, .int i7)] [.int (-1 : Int32), .int i5] rfl ?_
  refine sm_if (pc1 := 130) (lv1 := [(0, .ref a0), (1, .int i1), (2, .int i2), (3, .int i3), (4, .int i4), (7, .int i7), (9, .int (0 : Int32))]) (pc2 := 120) (lv2 := [(9, .int (0 : Int32)), (0, .ref a0), (1, .int i1), (2, .int i2), (3, .int i3), (4, .int i4), (5, .int i5), (6, .int i6), (7, .int i7)]) (st1 := []) rfl rfl rfl (fun h1 => ?_) (fun h1 => ?_)
  · exact jt_292_130  k_43 hk_43 a0 i1 i2 i3 i4 i7 (0 : Int32) w
  · refine sm_seg 2 124 [(9, .int (0 : Int32)), (0, .ref a0), (1, .int i1), (2, .int i2), (3, .int i3), (4, .int i4), (5, .int i5), (6, .int i6), (7, .int i7)] [.int i6, .int (0 : Int32)] rfl ?_
    refine sm_if (pc1 := 130) (lv1 := [(0, .ref a0), (1, .int i1), (2, .int i2), (3, .int i3), (4, .int i4), (7, .int i7), (9, .int (0 : Int32))]) (pc2 := 127) (lv2 := [(9, .int (0 : Int32)), (0, .ref a0), (1, .int i1), (2, .int i2), (3, .int i3), (4, .int i4), (5, .int i5), (6, .int i6), (7, .int i7)]) (st1 := []) rfl rfl rfl (fun h2 => ?_) (fun h2 => ?_)
    · exact jt_292_130  k_43 hk_43 a0 i1 i2 i3 i4 i7 (0 : Int32) w
    · refine sm_seg 1 138 [(0, .ref a0), (1, .int i1), (2, .int i2), (3, .int i3), (4, .int i4), (5, .int i5), (6, .int i6), (7, .int i7)] [] rfl ?_
      exact jt_292_138  k_43 hk_43 a0 i1 i2 i3 i4 i5 i6 i7 w
def fn_292_65 (k_43 : Nat → Int32 → Int32 → Int32 → Int32 → Int32 → Int32 → Int32 → cm_W → Option (Int32 × cm_W)) (a0 : Nat) (i1 : Int32) (i2 : Int32) (i3 : Int32) (i4 : Int32) (i5 : Int32) (i6 : Int32) (i7 : Int32) (w : cm_W) : Option (Int32 × cm_W) := (if cm_sh w a0 = some (.inl 11) then (fn_269 a0 i2 i1 i7 w).bind fun w4 => (if cm_sh w4 a0 = some (.inl 11) then (fn_272 a0 i3 w4).bind fun v7 => (if v7.1 = (-1 : Int32) then fn_292_111  k_43 a0 i1 i2 i3 i4 i5 i6 i7 v7.2 else (if cm_sh v7.2 a0 = some (.inl 11) then (fn_196 v7.2 (cm_I v7.2 a0 66) i7).bind fun v11 => (if (cm_b v11) = 0 then fn_292_111  k_43 a0 i1 i2 i3 i4 i5 i6 i7 v7.2 else (fn_223 v7.2 a0 i7 i3).bind fun v14 => (if i5 = (-1 : Int32) then fn_292_130  k_43 a0 i1 i2 i3 i4 i7 (v7.1 - v14) v7.2 else (if i6 < (v7.1 - v14) then fn_292_130  k_43 a0 i1 i2 i3 i4 i7 (v7.1 - v14) v7.2 else fn_292_138  k_43 a0 i1 i2 i3 i4 i5 i6 i7 v7.2))) else none)) else none) else none)
theorem jt_292_65 (k_43 : Nat → Int32 → Int32 → Int32 → Int32 → Int32 → Int32 → Int32 → cm_W → Option (Int32 × cm_W)) (hk_43 : ∀ (a0 : Nat) (i1 : Int32) (i2 : Int32) (i3 : Int32) (i4 : Int32) (i5 : Int32) (i6 : Int32) (i7 : Int32) (w : cm_W), sm cm_g 292 ck_292 kq_292 43 [(0, .ref a0), (1, .int i1), (2, .int i2), (3, .int i3), (4, .int i4), (5, .int i5), (6, .int i6), (7, .int i7)] [] w ((k_43 a0 i1 i2 i3 i4 i5 i6 i7 w).map cm_gI)) (a0 : Nat) (i1 : Int32) (i2 : Int32) (i3 : Int32) (i4 : Int32) (i5 : Int32) (i6 : Int32) (i7 : Int32) (w : cm_W) : sm cm_g 292 ck_292 kq_292 65 [(0, .ref a0), (1, .int i1), (2, .int i2), (3, .int i3), (4, .int i4), (5, .int i5), (6, .int i6), (7, .int i7)] [] w ((fn_292_65 k_43 a0 i1 i2 i3 i4 i5 i6 i7 w).map cm_gI) := by
  unfold fn_292_65
  refine sm_seg 4 70 [(0, .ref a0), (1, .int i1), (2, .int i2), (3, .int i3), (4, .int i4), (5, .int i5), (6, .int i6), (7, .int i7)] [.int i7, .int i1, .int i2, .ref a0] rfl ?_
  refine sm_gd fun h3 => ?_
  refine sm_cV (as := [.int i2, .int i1, .int i7]) (rest := []) rfl rfl rfl rfl h3 (Nat.le_of_ble_eq_true rfl) (ca_269  a0 i2 i1 i7 w) fun w4 h5 => ?_
  show sm _ _ _ _ 73 [(0, .ref a0), (1, .int i1), (2, .int i2), (3, .int i3), (4, .int i4), (5, .int i5), (6, .int i6), (7, .int i7)] [] _ _
  refine sm_seg 2 75 [(0, .ref a0), (1, .int i1), (2, .int i2), (3, .int i3), (4, .int i4), (5, .int i5), (6, .int i6), (7, .int i7)] [.int i3, .ref a0] rfl ?_
  refine sm_gd fun h6 => ?_
  refine sm_cV (as := [.int i3]) (rest := []) rfl rfl rfl rfl h6 (Nat.le_of_ble_eq_true rfl) (ca_272  a0 i3 w4) fun v7 h8 => ?_
  show sm _ _ _ _ 78 [(0, .ref a0), (1, .int i1), (2, .int i2), (3, .int i3), (4, .int i4), (5, .int i5), (6, .int i6), (7, .int i7)] [.int v7.1] _ _
  refine sm_seg 3 83 [(8, .int v7.1), (0, .ref a0), (1, .int i1), (2, .int i2), (3, .int i3), (4, .int i4), (5, .int i5), (6, .int i6), (7, .int i7)] [.int (-1 : Int32), .int v7.1] rfl ?_
  refine sm_if (pc1 := 111) (lv1 := [(0, .ref a0), (1, .int i1), (2, .int i2), (3, .int i3), (4, .int i4), (5, .int i5), (6, .int i6), (7, .int i7)]) (pc2 := 86) (lv2 := [(8, .int v7.1), (0, .ref a0), (1, .int i1), (2, .int i2), (3, .int i3), (4, .int i4), (5, .int i5), (6, .int i6), (7, .int i7)]) (st1 := []) rfl rfl rfl (fun h9 => ?_) (fun h9 => ?_)
  · exact jt_292_111  k_43 hk_43 a0 i1 i2 i3 i4 i5 i6 i7 v7.2
  · refine sm_seg 1 87 [(8, .int v7.1), (0, .ref a0), (1, .int i1), (2, .int i2), (3, .int i3), (4, .int i4), (5, .int i5), (6, .int i6), (7, .int i7)] [.ref a0] rfl ?_
    refine sm_gd fun h10 => ?_
    refine sm_gI rfl h10 rfl ?_
    show sm _ _ _ _ 90 [(8, .int v7.1), (0, .ref a0), (1, .int i1), (2, .int i2), (3, .int i3), (4, .int i4), (5, .int i5), (6, .int i6), (7, .int i7)] [.int (cm_I v7.2 a0 66)] _ _
    refine sm_seg 1 92 [(8, .int v7.1), (0, .ref a0), (1, .int i1), (2, .int i2), (3, .int i3), (4, .int i4), (5, .int i5), (6, .int i6), (7, .int i7)] [.int i7, .int (cm_I v7.2 a0 66)] rfl ?_
    refine sm_cS (av := [.int (cm_I v7.2 a0 66), .int i7]) (rest := []) rfl rfl rfl rfl (Nat.le_of_ble_eq_true rfl) (ca_196 v7.2 (cm_I v7.2 a0 66) i7) fun v11 h12 => ?_
    show sm _ _ _ _ 95 [(8, .int v7.1), (0, .ref a0), (1, .int i1), (2, .int i2), (3, .int i3), (4, .int i4), (5, .int i5), (6, .int i6), (7, .int i7)] [.int (cm_b v11)] _ _
    refine sm_if (pc1 := 111) (lv1 := [(0, .ref a0), (1, .int i1), (2, .int i2), (3, .int i3), (4, .int i4), (5, .int i5), (6, .int i6), (7, .int i7)]) (pc2 := 98) (lv2 := [(8, .int v7.1), (0, .ref a0), (1, .int i1), (2, .int i2), (3, .int i3), (4, .int i4), (5, .int i5), (6, .int i6), (7, .int i7)]) (st1 := []) rfl rfl rfl (fun h13 => ?_) (fun h13 => ?_)
    · exact jt_292_111  k_43 hk_43 a0 i1 i2 i3 i4 i5 i6 i7 v7.2
    · refine sm_seg 4 104 [(8, .int v7.1), (0, .ref a0), (1, .int i1), (2, .int i2), (3, .int i3), (4, .int i4), (5, .int i5), (6, .int i6), (7, .int i7)] [.int i3, .int i7, .ref a0, .int v7.1] rfl ?_
      refine sm_cV (as := [.int i7, .int i3]) (rest := [.int v7.1]) rfl rfl rfl rfl h10 (Nat.le_of_ble_eq_true rfl) (ca_223 v7.2 a0 i7 i3) fun v14 h15 => ?_
      show sm _ _ _ _ 107 [(8, .int v7.1), (0, .ref a0), (1, .int i1), (2, .int i2), (3, .int i3), (4, .int i4), (5, .int i5), (6, .int i6), (7, .int i7)] [.int v14, .int v7.1] _ _
      refine sm_seg 5 117 [(9, .int (v7.1 - v14)), (0, .ref a0), (1, .int i1), (2, .int i2), (3, .int i3), (4, .int i4), (5, .int i5), (6, .int i6), (7, .int i7)] [.int (-1 : Int32), .int i5] rfl ?_
      refine sm_if (pc1 := 130) (lv1 := [(0, .ref a0), (1, .int i1), (2, .int i2), (3, .int i3), (4, .int i4), (7, .int i7), (9, .int (v7.1 - v14))]) (pc2 := 120) (lv2 := [(9, .int (v7.1 - v14)), (0, .ref a0), (1, .int i1), (2, .int i2), (3, .int i3), (4, .int i4), (5, .int i5), (6, .int i6), (7, .int i7)]) (st1 := []) rfl rfl rfl (fun h16 => ?_) (fun h16 => ?_)
      · exact jt_292_130  k_43 hk_43 a0 i1 i2 i3 i4 i7 (v7.1 - v14) v7.2
      · refine sm_seg 2 124 [(9, .int (v7.1 - v14)), (0, .ref a0), (1, .int i1), (2, .int i2), (3, .int i3), (4, .int i4), (5, .int i5), (6, .int i6), (7, .int i7)] [.int i6, .int (v7.1 - v14)] rfl ?_
        refine sm_if (pc1 := 130) (lv1 := [(0, .ref a0), (1, .int i1), (2, .int i2), (3, .int i3), (4, .int i4), (7, .int i7), (9, .int (v7.1 - v14))]) (pc2 := 127) (lv2 := [(9, .int (v7.1 - v14)), (0, .ref a0), (1, .int i1), (2, .int i2), (3, .int i3), (4, .int i4), (5, .int i5), (6, .int i6), (7, .int i7)]) (st1 := []) rfl rfl rfl (fun h17 => ?_) (fun h17 => ?_)
        · exact jt_292_130  k_43 hk_43 a0 i1 i2 i3 i4 i7 (v7.1 - v14) v7.2
        · refine sm_seg 1 138 [(0, .ref a0), (1, .int i1), (2, .int i2), (3, .int i3), (4, .int i4), (5, .int i5), (6, .int i6), (7, .int i7)] [] rfl ?_
          exact jt_292_138  k_43 hk_43 a0 i1 i2 i3 i4 i5 i6 i7 v7.2
def fn_292_144 (i4 : Int32) (i5 : Int32) (i6 : Int32) (w : cm_W) : Option (Int32 × cm_W) := (if i5 = (-1 : Int32) then some (i5, w) else (if ¬ i4 = 0 then some (i6, w) else some (i5, w)))
theorem jt_292_144 (i4 : Int32) (i5 : Int32) (i6 : Int32) (w : cm_W) : sm cm_g 292 ck_292 kq_292 144 [(4, .int i4), (5, .int i5), (6, .int i6)] [] w ((fn_292_144 i4 i5 i6 w).map cm_gI) := by
  unfold fn_292_144
  refine sm_seg 2 147 [(4, .int i4), (5, .int i5), (6, .int i6)] [.int (-1 : Int32), .int i5] rfl ?_
  refine sm_if (pc1 := 155) (lv1 := [(5, .int i5)]) (pc2 := 150) (lv2 := [(4, .int i4), (5, .int i5), (6, .int i6)]) (st1 := []) rfl rfl rfl (fun h18 => ?_) (fun h18 => ?_)
  · refine sm_seg 2 162 [] [.int i5] rfl ?_
    exact sm_rIW rfl rfl
  · refine sm_seg 1 152 [(4, .int i4), (5, .int i5), (6, .int i6)] [.int i4] rfl ?_
    refine sm_if (pc1 := 160) (lv1 := [(6, .int i6)]) (pc2 := 155) (lv2 := [(5, .int i5)]) (st1 := []) rfl rfl rfl (fun h19 => ?_) (fun h19 => ?_)
    · refine sm_seg 1 162 [] [.int i6] rfl ?_
      exact sm_rIW rfl rfl
    · refine sm_seg 2 162 [] [.int i5] rfl ?_
      exact sm_rIW rfl rfl
def fn_292_43 : Nat → Nat → Int32 → Int32 → Int32 → Int32 → Int32 → Int32 → Int32 → cm_W → Option (Int32 × cm_W)
  | 0, _, _, _, _, _, _, _, _, _ => none
  | n + 1, a0, i1, i2, i3, i4, i5, i6, i7, w => (if cm_sh w a0 = some (.inl 11) then (if (cm_I w a0 1) ≤ i7 then fn_292_144  i4 i5 i6 w else (fn_228 w a0 i1 i7).bind fun v22 => (if ¬ v22 = 0 then fn_292_65  (fn_292_43 n) a0 i1 i2 i3 i4 i5 i6 i7 w else fn_292_138  (fn_292_43 n) a0 i1 i2 i3 i4 i5 i6 i7 w)) else none)
theorem jt_292_43 : ∀ (n : Nat) (a0 : Nat) (i1 : Int32) (i2 : Int32) (i3 : Int32) (i4 : Int32) (i5 : Int32) (i6 : Int32) (i7 : Int32) (w : cm_W), sm cm_g 292 ck_292 kq_292 43 [(0, .ref a0), (1, .int i1), (2, .int i2), (3, .int i3), (4, .int i4), (5, .int i5), (6, .int i6), (7, .int i7)] [] w ((fn_292_43 n a0 i1 i2 i3 i4 i5 i6 i7 w).map cm_gI) := by
  intro n
  induction n with
  | zero => intro a0 i1 i2 i3 i4 i5 i6 i7 w; exact sm_no
  | succ n ih =>
    intro a0 i1 i2 i3 i4 i5 i6 i7 w
    rw [fn_292_43]
    refine sm_seg 2 46 [(0, .ref a0), (1, .int i1), (2, .int i2), (3, .int i3), (4, .int i4), (5, .int i5), (6, .int i6), (7, .int i7)] [.ref a0, .int i7] rfl ?_
    refine sm_gd fun h20 => ?_
    refine sm_gI rfl h20 rfl ?_
    show sm _ _ _ _ 49 [(0, .ref a0), (1, .int i1), (2, .int i2), (3, .int i3), (4, .int i4), (5, .int i5), (6, .int i6), (7, .int i7)] [.int (cm_I w a0 1), .int i7] _ _
    refine sm_if (pc1 := 144) (lv1 := [(4, .int i4), (5, .int i5), (6, .int i6)]) (pc2 := 52) (lv2 := [(0, .ref a0), (1, .int i1), (2, .int i2), (3, .int i3), (4, .int i4), (5, .int i5), (6, .int i6), (7, .int i7)]) (st1 := []) rfl rfl rfl (fun h21 => ?_) (fun h21 => ?_)
    · exact jt_292_144  i4 i5 i6 w
    · refine sm_seg 3 56 [(0, .ref a0), (1, .int i1), (2, .int i2), (3, .int i3), (4, .int i4), (5, .int i5), (6, .int i6), (7, .int i7)] [.int i7, .int i1, .ref a0] rfl ?_
      refine sm_cV (as := [.int i1, .int i7]) (rest := []) rfl rfl rfl rfl h20 (Nat.le_of_ble_eq_true rfl) (ca_228 w a0 i1 i7) fun v22 h23 => ?_
      show sm _ _ _ _ 59 [(0, .ref a0), (1, .int i1), (2, .int i2), (3, .int i3), (4, .int i4), (5, .int i5), (6, .int i6), (7, .int i7)] [.int v22] _ _
      refine sm_if (pc1 := 65) (lv1 := [(0, .ref a0), (1, .int i1), (2, .int i2), (3, .int i3), (4, .int i4), (5, .int i5), (6, .int i6), (7, .int i7)]) (pc2 := 62) (lv2 := [(0, .ref a0), (1, .int i1), (2, .int i2), (3, .int i3), (4, .int i4), (5, .int i5), (6, .int i6), (7, .int i7)]) (st1 := []) rfl rfl rfl (fun h24 => ?_) (fun h24 => ?_)
      · exact jt_292_65  (fn_292_43 n) ih a0 i1 i2 i3 i4 i5 i6 i7 w
      · refine sm_seg 1 138 [(0, .ref a0), (1, .int i1), (2, .int i2), (3, .int i3), (4, .int i4), (5, .int i5), (6, .int i6), (7, .int i7)] [] rfl ?_
        exact jt_292_138  (fn_292_43 n) ih a0 i1 i2 i3 i4 i5 i6 i7 w
def fn_292_34 (a0 : Nat) (i1 : Int32) (i2 : Int32) (i3 : Int32) (i4 : Int32) (w : cm_W) : Option (Int32 × cm_W) := fn_292_43  cm_N a0 i1 i2 i3 i4 (-1 : Int32) (0 : Int32) (0 : Int32) w
theorem jt_292_34 (a0 : Nat) (i1 : Int32) (i2 : Int32) (i3 : Int32) (i4 : Int32) (w : cm_W) : sm cm_g 292 ck_292 kq_292 34 [(0, .ref a0), (1, .int i1), (2, .int i2), (3, .int i3), (4, .int i4)] [] w ((fn_292_34 a0 i1 i2 i3 i4 w).map cm_gI) := by
  unfold fn_292_34
  refine sm_seg 6 43 [(0, .ref a0), (1, .int i1), (2, .int i2), (3, .int i3), (4, .int i4), (5, .int (-1 : Int32)), (6, .int (0 : Int32)), (7, .int (0 : Int32))] [] rfl ?_
  exact jt_292_43  cm_N a0 i1 i2 i3 i4 (-1 : Int32) (0 : Int32) (0 : Int32) w
def fn_292 (a0 : Nat) (i1 : Int32) (i2 : Int32) (i3 : Int32) (i4 : Int32) (w : cm_W) : Option (Int32 × cm_W) := (if cm_sh w a0 = some (.inl 11) then (fn_225 w a0 i1).bind fun v26 => (if (cm_b v26) = 0 then some ((-1 : Int32), w) else (fn_267 w i2).bind fun v29 => (if (cm_b v29) = 0 then some ((-1 : Int32), w) else (fn_226 w i3).bind fun v32 => (if (cm_b v32) = 0 then some ((-1 : Int32), w) else (fn_194 w i4 (0 : Int32) (1 : Int32)).bind fun v35 => (if ¬ (cm_b v35) = 0 then fn_292_34  a0 i1 i2 i3 i4 w else some ((-1 : Int32), w))))) else none)
theorem jt_292_0 (a0 : Nat) (i1 : Int32) (i2 : Int32) (i3 : Int32) (i4 : Int32) (w : cm_W) : sm cm_g 292 ck_292 kq_292 0 [(0, .ref a0), (1, .int i1), (2, .int i2), (3, .int i3), (4, .int i4)] [] w ((fn_292 a0 i1 i2 i3 i4 w).map cm_gI) := by
  unfold fn_292
  refine sm_seg 2 2 [(0, .ref a0), (1, .int i1), (2, .int i2), (3, .int i3), (4, .int i4)] [.int i1, .ref a0] rfl ?_
  refine sm_gd fun h25 => ?_
  refine sm_cV (as := [.int i1]) (rest := []) rfl rfl rfl rfl h25 (Nat.le_of_ble_eq_true rfl) (ca_225 w a0 i1) fun v26 h27 => ?_
  show sm _ _ _ _ 5 [(0, .ref a0), (1, .int i1), (2, .int i2), (3, .int i3), (4, .int i4)] [.int (cm_b v26)] _ _
  refine sm_if (pc1 := 32) (lv1 := []) (pc2 := 8) (lv2 := [(0, .ref a0), (1, .int i1), (2, .int i2), (3, .int i3), (4, .int i4)]) (st1 := []) rfl rfl rfl (fun h28 => ?_) (fun h28 => ?_)
  · refine sm_seg 1 33 [] [.int (-1 : Int32)] rfl ?_
    exact sm_rIW rfl rfl
  · refine sm_seg 1 9 [(0, .ref a0), (1, .int i1), (2, .int i2), (3, .int i3), (4, .int i4)] [.int i2] rfl ?_
    refine sm_cS (av := [.int i2]) (rest := []) rfl rfl rfl rfl (Nat.le_of_ble_eq_true rfl) (ca_267 w i2) fun v29 h30 => ?_
    show sm _ _ _ _ 12 [(0, .ref a0), (1, .int i1), (2, .int i2), (3, .int i3), (4, .int i4)] [.int (cm_b v29)] _ _
    refine sm_if (pc1 := 32) (lv1 := []) (pc2 := 15) (lv2 := [(0, .ref a0), (1, .int i1), (2, .int i2), (3, .int i3), (4, .int i4)]) (st1 := []) rfl rfl rfl (fun h31 => ?_) (fun h31 => ?_)
    · refine sm_seg 1 33 [] [.int (-1 : Int32)] rfl ?_
      exact sm_rIW rfl rfl
    · refine sm_seg 1 16 [(0, .ref a0), (1, .int i1), (2, .int i2), (3, .int i3), (4, .int i4)] [.int i3] rfl ?_
      refine sm_cS (av := [.int i3]) (rest := []) rfl rfl rfl rfl (Nat.le_of_ble_eq_true rfl) (ca_226 w i3) fun v32 h33 => ?_
      show sm _ _ _ _ 19 [(0, .ref a0), (1, .int i1), (2, .int i2), (3, .int i3), (4, .int i4)] [.int (cm_b v32)] _ _
      refine sm_if (pc1 := 32) (lv1 := []) (pc2 := 22) (lv2 := [(0, .ref a0), (1, .int i1), (2, .int i2), (3, .int i3), (4, .int i4)]) (st1 := []) rfl rfl rfl (fun h34 => ?_) (fun h34 => ?_)
      · refine sm_seg 1 33 [] [.int (-1 : Int32)] rfl ?_
        exact sm_rIW rfl rfl
      · refine sm_seg 3 26 [(0, .ref a0), (1, .int i1), (2, .int i2), (3, .int i3), (4, .int i4)] [.int (1 : Int32), .int (0 : Int32), .int i4] rfl ?_
        refine sm_cS (av := [.int i4, .int (0 : Int32), .int (1 : Int32)]) (rest := []) rfl rfl rfl rfl (Nat.le_of_ble_eq_true rfl) (ca_194 w i4 (0 : Int32) (1 : Int32)) fun v35 h36 => ?_
        show sm _ _ _ _ 29 [(0, .ref a0), (1, .int i1), (2, .int i2), (3, .int i3), (4, .int i4)] [.int (cm_b v35)] _ _
        refine sm_if (pc1 := 34) (lv1 := [(0, .ref a0), (1, .int i1), (2, .int i2), (3, .int i3), (4, .int i4)]) (pc2 := 32) (lv2 := []) (st1 := []) rfl rfl rfl (fun h37 => ?_) (fun h37 => ?_)
        · exact jt_292_34  a0 i1 i2 i3 i4 w
        · refine sm_seg 1 33 [] [.int (-1 : Int32)] rfl ?_
          exact sm_rIW rfl rfl
theorem ca_292 (a0 : Nat) (i1 : Int32) (i2 : Int32) (i3 : Int32) (i4 : Int32) (w : cm_W) : cm_ca cm_g 292 [.ref a0, .int i1, .int i2, .int i3, .int i4] w ((fn_292 a0 i1 i2 i3 i4 w).map cm_gI) := cm_ca_of (cm_me_of rfl rfl) rfl (jt_292_0 a0 i1 i2 i3 i4 w)
-- NailedBoxesModel.seed(I)Z
def fn_293_17 (a0 : Nat) (i1 : Int32) (w : cm_W) : Option (Bool × cm_W) := (if cm_sh w a0 = some (.inl 11) then (if cm_w2 96 143 a0 = true then some (true, (cm_sL w a0 71 (Int32.toInt64 i1))) else none) else none)
theorem jt_293_17 (a0 : Nat) (i1 : Int32) (w : cm_W) : sm cm_g 293 ck_293 kq_293 17 [(0, .ref a0), (1, .int i1)] [] w ((fn_293_17 a0 i1 w).map cm_gB) := by
  unfold fn_293_17
  refine sm_seg 3 20 [(0, .ref a0), (1, .int i1)] [.long (Int32.toInt64 i1), .ref a0] rfl ?_
  refine sm_gd fun h1 => ?_
  refine sm_gd fun h2 => ?_
  refine sm_pL rfl h1 rfl h2 rfl ?_
  show sm _ _ _ _ 23 [(0, .ref a0), (1, .int i1)] [] _ _
  refine sm_seg 1 24 [(0, .ref a0), (1, .int i1)] [.int (1 : Int32)] rfl ?_
  exact sm_rBW (b := true) rfl rfl
def fn_293 (a0 : Nat) (i1 : Int32) (w : cm_W) : Option (Bool × cm_W) := (fn_194 w i1 (0 : Int32) (999999999 : Int32)).bind fun v3 => (if ¬ (cm_b v3) = 0 then fn_293_17  a0 i1 w else (if cm_sh w a0 = some (.inl 11) then (fn_198 a0 (0 : Int32) w).bind fun v7 => some (v7.1, v7.2) else none))
theorem jt_293_0 (a0 : Nat) (i1 : Int32) (w : cm_W) : sm cm_g 293 ck_293 kq_293 0 [(0, .ref a0), (1, .int i1)] [] w ((fn_293 a0 i1 w).map cm_gB) := by
  unfold fn_293
  refine sm_seg 3 5 [(0, .ref a0), (1, .int i1)] [.int (999999999 : Int32), .int (0 : Int32), .int i1] rfl ?_
  refine sm_cS (av := [.int i1, .int (0 : Int32), .int (999999999 : Int32)]) (rest := []) rfl rfl rfl rfl (Nat.le_of_ble_eq_true rfl) (ca_194 w i1 (0 : Int32) (999999999 : Int32)) fun v3 h4 => ?_
  show sm _ _ _ _ 8 [(0, .ref a0), (1, .int i1)] [.int (cm_b v3)] _ _
  refine sm_if (pc1 := 17) (lv1 := [(0, .ref a0), (1, .int i1)]) (pc2 := 11) (lv2 := [(0, .ref a0), (1, .int i1)]) (st1 := []) rfl rfl rfl (fun h5 => ?_) (fun h5 => ?_)
  · exact jt_293_17  a0 i1 w
  · refine sm_seg 2 13 [(0, .ref a0), (1, .int i1)] [.int (0 : Int32), .ref a0] rfl ?_
    refine sm_gd fun h6 => ?_
    refine sm_cV (as := [.int (0 : Int32)]) (rest := []) rfl rfl rfl rfl h6 (Nat.le_of_ble_eq_true rfl) (ca_198  a0 (0 : Int32) w) fun v7 h8 => ?_
    show sm _ _ _ _ 16 [(0, .ref a0), (1, .int i1)] [.int (cm_b v7.1)] _ _
    exact sm_rBW (b := v7.1) rfl rfl
theorem ca_293 (a0 : Nat) (i1 : Int32) (w : cm_W) : cm_ca cm_g 293 [.ref a0, .int i1] w ((fn_293 a0 i1 w).map cm_gB) := cm_ca_of (cm_me_of rfl rfl) rfl (jt_293_0 a0 i1 w)
-- NailedBoxesModel.years(III)I
def fn_294_153 (k_90 : Nat → Int32 → Int32 → Int32 → Int64 → Int32 → Int32 → cm_W → Option (Int32 × cm_W)) (a0 : Nat) (i1 : Int32) (i2 : Int32) (i3 : Int32) (j4 : Int64) (i6 : Int32) (i7 : Int32) (i9 : Int32) (w : cm_W) : Option (Int32 × cm_W) := (if cm_sh w a0 = some (.inl 11) then (cm_R w a0 72).bind fun r2 => (if cm_ga w .int r2 i9 = true then (if cm_w2 96 143 r2 = true then k_90 a0 i1 i2 i3 j4 i6 (i7 + (1 : Int32)) (cm_sI w r2 i9.toNatClampNeg ((cm_I w r2 i9.toNatClampNeg) + (1 : Int32))) else none) else none) else none)
theorem jt_294_153 (k_90 : Nat → Int32 → Int32 → Int32 → Int64 → Int32 → Int32 → cm_W → Option (Int32 × cm_W)) (hk_90 : ∀ (a0 : Nat) (i1 : Int32) (i2 : Int32) (i3 : Int32) (j4 : Int64) (i6 : Int32) (i7 : Int32) (w : cm_W), sm cm_g 294 ck_294 kq_294 90 [(0, .ref a0), (1, .int i1), (2, .int i2), (3, .int i3), (4, .long j4), (6, .int i6), (7, .int i7)] [] w ((k_90 a0 i1 i2 i3 j4 i6 i7 w).map cm_gI)) (a0 : Nat) (i1 : Int32) (i2 : Int32) (i3 : Int32) (j4 : Int64) (i6 : Int32) (i7 : Int32) (i9 : Int32) (w : cm_W) : sm cm_g 294 ck_294 kq_294 153 [(0, .ref a0), (1, .int i1), (2, .int i2), (3, .int i3), (4, .long j4), (6, .int i6), (7, .int i7), (9, .int i9)] [] w ((fn_294_153 k_90 a0 i1 i2 i3 j4 i6 i7 i9 w).map cm_gI) := by
  unfold fn_294_153
  refine sm_seg 1 154 [(0, .ref a0), (1, .int i1), (2, .int i2), (3, .int i3), (4, .long j4), (6, .int i6), (7, .int i7), (9, .int i9)] [.ref a0] rfl ?_
  refine sm_gd fun h1 => ?_
  refine sm_gR rfl h1 rfl rfl fun r2 h3 => ?_
  show sm _ _ _ _ 157 [(0, .ref a0), (1, .int i1), (2, .int i2), (3, .int i3), (4, .long j4), (6, .int i6), (7, .int i7), (9, .int i9)] [.ref r2] _ _
  refine sm_seg 2 160 [(0, .ref a0), (1, .int i1), (2, .int i2), (3, .int i3), (4, .long j4), (6, .int i6), (7, .int i7), (9, .int i9)] [.int i9, .ref r2, .int i9, .ref r2] rfl ?_
  refine sm_gd fun h4 => ?_
  refine sm_ai rfl h4 rfl ?_
  show sm _ _ _ _ 161 [(0, .ref a0), (1, .int i1), (2, .int i2), (3, .int i3), (4, .long j4), (6, .int i6), (7, .int i7), (9, .int i9)] [.int (cm_I w r2 i9.toNatClampNeg), .int i9, .ref r2] _ _
  refine sm_seg 2 163 [(0, .ref a0), (1, .int i1), (2, .int i2), (3, .int i3), (4, .long j4), (6, .int i6), (7, .int i7), (9, .int i9)] [.int ((cm_I w r2 i9.toNatClampNeg) + (1 : Int32)), .int i9, .ref r2] rfl ?_
  refine sm_gd fun h5 => ?_
  refine sm_si rfl h4 h5 rfl rfl ?_
  show sm _ _ _ _ 164 [(0, .ref a0), (1, .int i1), (2, .int i2), (3, .int i3), (4, .long j4), (6, .int i6), (7, .int i7), (9, .int i9)] [] _ _
  refine sm_seg 2 90 [(0, .ref a0), (1, .int i1), (2, .int i2), (3, .int i3), (4, .long j4), (6, .int i6), (7, .int (i7 + (1 : Int32)))] [] rfl ?_
  exact hk_90 a0 i1 i2 i3 j4 i6 (i7 + (1 : Int32)) (cm_sI w r2 i9.toNatClampNeg ((cm_I w r2 i9.toNatClampNeg) + (1 : Int32)))
def fn_294_123 (k_90 : Nat → Int32 → Int32 → Int32 → Int64 → Int32 → Int32 → cm_W → Option (Int32 × cm_W)) : Nat → Nat → Int32 → Int32 → Int32 → Int64 → Int32 → Int32 → Int32 → Int32 → cm_W → Option (Int32 × cm_W)
  | 0, _, _, _, _, _, _, _, _, _, _ => none
  | n + 1, a0, i1, i2, i3, j4, i6, i7, i8, i9, w => (if cm_sh w a0 = some (.inl 11) then (fn_228 w a0 i1 i9).bind fun v7 => (if i8 < v7 then fn_294_153  k_90 a0 i1 i2 i3 j4 i6 i7 i9 w else (fn_228 w a0 i1 i9).bind fun v10 => fn_294_123 k_90 n a0 i1 i2 i3 j4 i6 i7 (i8 - v10) (i9 + (1 : Int32)) w) else none)
theorem jt_294_123 (k_90 : Nat → Int32 → Int32 → Int32 → Int64 → Int32 → Int32 → cm_W → Option (Int32 × cm_W)) (hk_90 : ∀ (a0 : Nat) (i1 : Int32) (i2 : Int32) (i3 : Int32) (j4 : Int64) (i6 : Int32) (i7 : Int32) (w : cm_W), sm cm_g 294 ck_294 kq_294 90 [(0, .ref a0), (1, .int i1), (2, .int i2), (3, .int i3), (4, .long j4), (6, .int i6), (7, .int i7)] [] w ((k_90 a0 i1 i2 i3 j4 i6 i7 w).map cm_gI)) : ∀ (n : Nat) (a0 : Nat) (i1 : Int32) (i2 : Int32) (i3 : Int32) (j4 : Int64) (i6 : Int32) (i7 : Int32) (i8 : Int32) (i9 : Int32) (w : cm_W), sm cm_g 294 ck_294 kq_294 123 [(0, .ref a0), (1, .int i1), (2, .int i2), (3, .int i3), (4, .long j4), (6, .int i6), (7, .int i7), (8, .int i8), (9, .int i9)] [] w ((fn_294_123 k_90 n a0 i1 i2 i3 j4 i6 i7 i8 i9 w).map cm_gI) := by
  intro n
  induction n with
  | zero => intro a0 i1 i2 i3 j4 i6 i7 i8 i9 w; exact sm_no
  | succ n ih =>
    intro a0 i1 i2 i3 j4 i6 i7 i8 i9 w
    rw [fn_294_123]
    refine sm_seg 4 129 [(0, .ref a0), (1, .int i1), (2, .int i2), (3, .int i3), (4, .long j4), (6, .int i6), (7, .int i7), (8, .int i8), (9, .int i9)] [.int i9, .int i1, .ref a0, .int i8] rfl ?_
    refine sm_gd fun h6 => ?_
    refine sm_cV (as := [.int i1, .int i9]) (rest := [.int i8]) rfl rfl rfl rfl h6 (Nat.le_of_ble_eq_true rfl) (ca_228 w a0 i1 i9) fun v7 h8 => ?_
    show sm _ _ _ _ 132 [(0, .ref a0), (1, .int i1), (2, .int i2), (3, .int i3), (4, .long j4), (6, .int i6), (7, .int i7), (8, .int i8), (9, .int i9)] [.int v7, .int i8] _ _
    refine sm_if (pc1 := 153) (lv1 := [(0, .ref a0), (1, .int i1), (2, .int i2), (3, .int i3), (4, .long j4), (6, .int i6), (7, .int i7), (9, .int i9)]) (pc2 := 135) (lv2 := [(0, .ref a0), (1, .int i1), (2, .int i2), (3, .int i3), (4, .long j4), (6, .int i6), (7, .int i7), (8, .int i8), (9, .int i9)]) (st1 := []) rfl rfl rfl (fun h9 => ?_) (fun h9 => ?_)
    · exact jt_294_153  k_90 hk_90 a0 i1 i2 i3 j4 i6 i7 i9 w
    · refine sm_seg 4 141 [(0, .ref a0), (1, .int i1), (2, .int i2), (3, .int i3), (4, .long j4), (6, .int i6), (7, .int i7), (8, .int i8), (9, .int i9)] [.int i9, .int i1, .ref a0, .int i8] rfl ?_
      refine sm_cV (as := [.int i1, .int i9]) (rest := [.int i8]) rfl rfl rfl rfl h6 (Nat.le_of_ble_eq_true rfl) (ca_228 w a0 i1 i9) fun v10 h11 => ?_
      show sm _ _ _ _ 144 [(0, .ref a0), (1, .int i1), (2, .int i2), (3, .int i3), (4, .long j4), (6, .int i6), (7, .int i7), (8, .int i8), (9, .int i9)] [.int v10, .int i8] _ _
      refine sm_seg 4 123 [(0, .ref a0), (1, .int i1), (2, .int i2), (3, .int i3), (4, .long j4), (6, .int i6), (7, .int i7), (8, .int (i8 - v10)), (9, .int (i9 + (1 : Int32)))] [] rfl ?_
      exact ih a0 i1 i2 i3 j4 i6 i7 (i8 - v10) (i9 + (1 : Int32)) w
def fn_294_198 : Nat → Nat → Int32 → Int32 → Int32 → cm_W → Option (Int32 × cm_W)
  | 0, _, _, _, _, _ => none
  | n + 1, a0, i7, i8, i9, w => (if cm_sh w a0 = some (.inl 11) then (if (cm_I w a0 1) ≤ i9 then some (i8, w) else (cm_R w a0 72).bind fun r14 => (if cm_ga w .int r14 i9 = true then (fn_196 w (cm_I w a0 66) i9).bind fun v17 => (if (cm_b v17) = 0 then (fn_223 w a0 i9 (0 : Int32)).bind fun v20 => fn_294_198 n a0 i7 (i8 + ((cm_I w r14 i9.toNatClampNeg) * v20)) (i9 + (1 : Int32)) w else fn_294_198 n a0 i7 (i8 + ((cm_I w r14 i9.toNatClampNeg) * i7)) (i9 + (1 : Int32)) w) else none)) else none)
theorem jt_294_198 : ∀ (n : Nat) (a0 : Nat) (i7 : Int32) (i8 : Int32) (i9 : Int32) (w : cm_W), sm cm_g 294 ck_294 kq_294 198 [(0, .ref a0), (7, .int i7), (8, .int i8), (9, .int i9)] [] w ((fn_294_198 n a0 i7 i8 i9 w).map cm_gI) := by
  intro n
  induction n with
  | zero => intro a0 i7 i8 i9 w; exact sm_no
  | succ n ih =>
    intro a0 i7 i8 i9 w
    rw [fn_294_198]
    refine sm_seg 2 201 [(0, .ref a0), (7, .int i7), (8, .int i8), (9, .int i9)] [.ref a0, .int i9] rfl ?_
    refine sm_gd fun h12 => ?_
    refine sm_gI rfl h12 rfl ?_
    show sm _ _ _ _ 204 [(0, .ref a0), (7, .int i7), (8, .int i8), (9, .int i9)] [.int (cm_I w a0 1), .int i9] _ _
    refine sm_if (pc1 := 250) (lv1 := [(8, .int i8)]) (pc2 := 207) (lv2 := [(0, .ref a0), (7, .int i7), (8, .int i8), (9, .int i9)]) (st1 := []) rfl rfl rfl (fun h13 => ?_) (fun h13 => ?_)
    · refine sm_seg 1 252 [(8, .int i8)] [.int i8] rfl ?_
      exact sm_rIW rfl rfl
    · refine sm_seg 2 210 [(0, .ref a0), (7, .int i7), (8, .int i8), (9, .int i9)] [.ref a0, .int i8] rfl ?_
      refine sm_gR rfl h12 rfl rfl fun r14 h15 => ?_
      show sm _ _ _ _ 213 [(0, .ref a0), (7, .int i7), (8, .int i8), (9, .int i9)] [.ref r14, .int i8] _ _
      refine sm_seg 1 215 [(0, .ref a0), (7, .int i7), (8, .int i8), (9, .int i9)] [.int i9, .ref r14, .int i8] rfl ?_
      refine sm_gd fun h16 => ?_
      refine sm_ai rfl h16 rfl ?_
      show sm _ _ _ _ 216 [(0, .ref a0), (7, .int i7), (8, .int i8), (9, .int i9)] [.int (cm_I w r14 i9.toNatClampNeg), .int i8] _ _
      refine sm_seg 1 217 [(0, .ref a0), (7, .int i7), (8, .int i8), (9, .int i9)] [.ref a0, .int (cm_I w r14 i9.toNatClampNeg), .int i8] rfl ?_
      refine sm_gI rfl h12 rfl ?_
      show sm _ _ _ _ 220 [(0, .ref a0), (7, .int i7), (8, .int i8), (9, .int i9)] [.int (cm_I w a0 66), .int (cm_I w r14 i9.toNatClampNeg), .int i8] _ _
      refine sm_seg 1 222 [(0, .ref a0), (7, .int i7), (8, .int i8), (9, .int i9)] [.int i9, .int (cm_I w a0 66), .int (cm_I w r14 i9.toNatClampNeg), .int i8] rfl ?_
      refine sm_cS (av := [.int (cm_I w a0 66), .int i9]) (rest := [.int (cm_I w r14 i9.toNatClampNeg), .int i8]) rfl rfl rfl rfl (Nat.le_of_ble_eq_true rfl) (ca_196 w (cm_I w a0 66) i9) fun v17 h18 => ?_
      show sm _ _ _ _ 225 [(0, .ref a0), (7, .int i7), (8, .int i8), (9, .int i9)] [.int (cm_b v17), .int (cm_I w r14 i9.toNatClampNeg), .int i8] _ _
      refine sm_if (pc1 := 233) (lv1 := [(0, .ref a0), (7, .int i7), (9, .int i9)]) (pc2 := 228) (lv2 := [(0, .ref a0), (7, .int i7), (8, .int i8), (9, .int i9)]) (st1 := [.int (cm_I w r14 i9.toNatClampNeg), .int i8]) rfl rfl rfl (fun h19 => ?_) (fun h19 => ?_)
      · refine sm_seg 3 237 [(0, .ref a0), (7, .int i7), (9, .int i9)] [.int (0 : Int32), .int i9, .ref a0, .int (cm_I w r14 i9.toNatClampNeg), .int i8] rfl ?_
        refine sm_cV (as := [.int i9, .int (0 : Int32)]) (rest := [.int (cm_I w r14 i9.toNatClampNeg), .int i8]) rfl rfl rfl rfl h12 (Nat.le_of_ble_eq_true rfl) (ca_223 w a0 i9 (0 : Int32)) fun v20 h21 => ?_
        show sm _ _ _ _ 240 [(0, .ref a0), (7, .int i7), (9, .int i9)] [.int v20, .int (cm_I w r14 i9.toNatClampNeg), .int i8] _ _
        refine sm_seg 5 198 [(0, .ref a0), (7, .int i7), (8, .int (i8 + ((cm_I w r14 i9.toNatClampNeg) * v20))), (9, .int (i9 + (1 : Int32)))] [] rfl ?_
        exact ih a0 i7 (i8 + ((cm_I w r14 i9.toNatClampNeg) * v20)) (i9 + (1 : Int32)) w
      · refine sm_seg 7 198 [(0, .ref a0), (7, .int i7), (8, .int (i8 + ((cm_I w r14 i9.toNatClampNeg) * i7))), (9, .int (i9 + (1 : Int32)))] [] rfl ?_
        exact ih a0 i7 (i8 + ((cm_I w r14 i9.toNatClampNeg) * i7)) (i9 + (1 : Int32)) w
def fn_294_184 (a0 : Nat) (i1 : Int32) (w : cm_W) : Option (Int32 × cm_W) := (if cm_sh w a0 = some (.inl 11) then (fn_280 a0 i1 (0 : Int32) w).bind fun v23 => fn_294_198  cm_N a0 v23.1 (0 : Int32) (0 : Int32) v23.2 else none)
theorem jt_294_184 (a0 : Nat) (i1 : Int32) (w : cm_W) : sm cm_g 294 ck_294 kq_294 184 [(0, .ref a0), (1, .int i1)] [] w ((fn_294_184 a0 i1 w).map cm_gI) := by
  unfold fn_294_184
  refine sm_seg 3 187 [(0, .ref a0), (1, .int i1)] [.int (0 : Int32), .int i1, .ref a0] rfl ?_
  refine sm_gd fun h22 => ?_
  refine sm_cV (as := [.int i1, .int (0 : Int32)]) (rest := []) rfl rfl rfl rfl h22 (Nat.le_of_ble_eq_true rfl) (ca_280  a0 i1 (0 : Int32) w) fun v23 h24 => ?_
  show sm _ _ _ _ 190 [(0, .ref a0), (1, .int i1)] [.int v23.1] _ _
  refine sm_seg 5 198 [(0, .ref a0), (7, .int v23.1), (8, .int (0 : Int32)), (9, .int (0 : Int32))] [] rfl ?_
  exact jt_294_198  cm_N a0 v23.1 (0 : Int32) (0 : Int32) v23.2
def fn_294_170 (a0 : Nat) (i1 : Int32) (i3 : Int32) (w : cm_W) : Option (Int32 × cm_W) := (if i3 ≤ 0 then fn_294_184  a0 i1 w else (if cm_sh w a0 = some (.inl 11) then (cm_R w a0 72).bind fun r27 => (if cm_ga w .int r27 (i3 - (10 : Int32)) = true then some ((cm_I w r27 (i3 - (10 : Int32)).toNatClampNeg), w) else none) else none))
theorem jt_294_170 (a0 : Nat) (i1 : Int32) (i3 : Int32) (w : cm_W) : sm cm_g 294 ck_294 kq_294 170 [(0, .ref a0), (1, .int i1), (3, .int i3)] [] w ((fn_294_170 a0 i1 i3 w).map cm_gI) := by
  unfold fn_294_170
  refine sm_seg 1 171 [(0, .ref a0), (1, .int i1), (3, .int i3)] [.int i3] rfl ?_
  refine sm_if (pc1 := 184) (lv1 := [(0, .ref a0), (1, .int i1)]) (pc2 := 174) (lv2 := [(0, .ref a0), (1, .int i1), (3, .int i3)]) (st1 := []) rfl rfl rfl (fun h25 => ?_) (fun h25 => ?_)
  · exact jt_294_184  a0 i1 w
  · refine sm_seg 1 175 [(0, .ref a0), (1, .int i1), (3, .int i3)] [.ref a0] rfl ?_
    refine sm_gd fun h26 => ?_
    refine sm_gR rfl h26 rfl rfl fun r27 h28 => ?_
    show sm _ _ _ _ 178 [(0, .ref a0), (1, .int i1), (3, .int i3)] [.ref r27] _ _
    refine sm_seg 3 182 [(0, .ref a0), (1, .int i1), (3, .int i3)] [.int (i3 - (10 : Int32)), .ref r27] rfl ?_
    refine sm_gd fun h29 => ?_
    refine sm_ai rfl h29 rfl ?_
    show sm _ _ _ _ 183 [(0, .ref a0), (1, .int i1), (3, .int i3)] [.int (cm_I w r27 (i3 - (10 : Int32)).toNatClampNeg)] _ _
    exact sm_rIW rfl rfl
def fn_294_90 : Nat → Nat → Int32 → Int32 → Int32 → Int64 → Int32 → Int32 → cm_W → Option (Int32 × cm_W)
  | 0, _, _, _, _, _, _, _, _ => none
  | n + 1, a0, i1, i2, i3, j4, i6, i7, w => (if i2 ≤ i7 then fn_294_170  a0 i1 i3 w else (if ¬ (Int32.toInt64 i6) = 0 then fn_294_123  (fn_294_90 n) cm_N a0 i1 i2 i3 ((j4 * (6364136223846793005 : Int64)) + (1442695040888963407 : Int64)) i6 i7 (Int64.toInt32 (((Int64.toUInt64 ((j4 * (6364136223846793005 : Int64)) + (1442695040888963407 : Int64))) >>> ((Int32.toInt64 (33 : Int32)).toUInt64 &&& Int64.toUInt64 63)).toInt64 - ((Int64.toUInt64 ((j4 * (6364136223846793005 : Int64)) + (1442695040888963407 : Int64))) >>> ((Int32.toInt64 (33 : Int32)).toUInt64 &&& Int64.toUInt64 63)).toInt64 / (Int32.toInt64 i6) * (Int32.toInt64 i6))) (0 : Int32) w else none))
theorem jt_294_90 : ∀ (n : Nat) (a0 : Nat) (i1 : Int32) (i2 : Int32) (i3 : Int32) (j4 : Int64) (i6 : Int32) (i7 : Int32) (w : cm_W), sm cm_g 294 ck_294 kq_294 90 [(0, .ref a0), (1, .int i1), (2, .int i2), (3, .int i3), (4, .long j4), (6, .int i6), (7, .int i7)] [] w ((fn_294_90 n a0 i1 i2 i3 j4 i6 i7 w).map cm_gI) := by
  intro n
  induction n with
  | zero => intro a0 i1 i2 i3 j4 i6 i7 w; exact sm_no
  | succ n ih =>
    intro a0 i1 i2 i3 j4 i6 i7 w
    rw [fn_294_90]
    refine sm_seg 2 93 [(0, .ref a0), (1, .int i1), (2, .int i2), (3, .int i3), (4, .long j4), (6, .int i6), (7, .int i7)] [.int i2, .int i7] rfl ?_
    refine sm_if (pc1 := 170) (lv1 := [(0, .ref a0), (1, .int i1), (3, .int i3)]) (pc2 := 96) (lv2 := [(0, .ref a0), (1, .int i1), (2, .int i2), (3, .int i3), (4, .long j4), (6, .int i6), (7, .int i7)]) (st1 := []) rfl rfl rfl (fun h30 => ?_) (fun h30 => ?_)
    · exact jt_294_170  a0 i1 i3 w
    · refine sm_seg 11 116 [(4, .long ((j4 * (6364136223846793005 : Int64)) + (1442695040888963407 : Int64))), (0, .ref a0), (1, .int i1), (2, .int i2), (3, .int i3), (6, .int i6), (7, .int i7)] [.long (Int32.toInt64 i6), .long ((Int64.toUInt64 ((j4 * (6364136223846793005 : Int64)) + (1442695040888963407 : Int64))) >>> ((Int32.toInt64 (33 : Int32)).toUInt64 &&& Int64.toUInt64 63)).toInt64] rfl ?_
      refine sm_gd fun h31 => ?_
      refine sm_lrem rfl h31 rfl ?_
      show sm _ _ _ _ 117 [(4, .long ((j4 * (6364136223846793005 : Int64)) + (1442695040888963407 : Int64))), (0, .ref a0), (1, .int i1), (2, .int i2), (3, .int i3), (6, .int i6), (7, .int i7)] [.long (((Int64.toUInt64 ((j4 * (6364136223846793005 : Int64)) + (1442695040888963407 : Int64))) >>> ((Int32.toInt64 (33 : Int32)).toUInt64 &&& Int64.toUInt64 63)).toInt64 - ((Int64.toUInt64 ((j4 * (6364136223846793005 : Int64)) + (1442695040888963407 : Int64))) >>> ((Int32.toInt64 (33 : Int32)).toUInt64 &&& Int64.toUInt64 63)).toInt64 / (Int32.toInt64 i6) * (Int32.toInt64 i6))] _ _
      refine sm_seg 4 123 [(0, .ref a0), (1, .int i1), (2, .int i2), (3, .int i3), (4, .long ((j4 * (6364136223846793005 : Int64)) + (1442695040888963407 : Int64))), (6, .int i6), (7, .int i7), (8, .int (Int64.toInt32 (((Int64.toUInt64 ((j4 * (6364136223846793005 : Int64)) + (1442695040888963407 : Int64))) >>> ((Int32.toInt64 (33 : Int32)).toUInt64 &&& Int64.toUInt64 63)).toInt64 - ((Int64.toUInt64 ((j4 * (6364136223846793005 : Int64)) + (1442695040888963407 : Int64))) >>> ((Int32.toInt64 (33 : Int32)).toUInt64 &&& Int64.toUInt64 63)).toInt64 / (Int32.toInt64 i6) * (Int32.toInt64 i6)))), (9, .int (0 : Int32))] [] rfl ?_
      exact jt_294_123  (fn_294_90 n) ih cm_N a0 i1 i2 i3 ((j4 * (6364136223846793005 : Int64)) + (1442695040888963407 : Int64)) i6 i7 (Int64.toInt32 (((Int64.toUInt64 ((j4 * (6364136223846793005 : Int64)) + (1442695040888963407 : Int64))) >>> ((Int32.toInt64 (33 : Int32)).toUInt64 &&& Int64.toUInt64 63)).toInt64 - ((Int64.toUInt64 ((j4 * (6364136223846793005 : Int64)) + (1442695040888963407 : Int64))) >>> ((Int32.toInt64 (33 : Int32)).toUInt64 &&& Int64.toUInt64 63)).toInt64 / (Int32.toInt64 i6) * (Int32.toInt64 i6))) (0 : Int32) w
def fn_294_87 (a0 : Nat) (i1 : Int32) (i2 : Int32) (i3 : Int32) (j4 : Int64) (i6 : Int32) (w : cm_W) : Option (Int32 × cm_W) := fn_294_90  cm_N a0 i1 i2 i3 j4 i6 (0 : Int32) w
theorem jt_294_87 (a0 : Nat) (i1 : Int32) (i2 : Int32) (i3 : Int32) (j4 : Int64) (i6 : Int32) (w : cm_W) : sm cm_g 294 ck_294 kq_294 87 [(0, .ref a0), (1, .int i1), (2, .int i2), (3, .int i3), (4, .long j4), (6, .int i6)] [] w ((fn_294_87 a0 i1 i2 i3 j4 i6 w).map cm_gI) := by
  unfold fn_294_87
  refine sm_seg 2 90 [(0, .ref a0), (1, .int i1), (2, .int i2), (3, .int i3), (4, .long j4), (6, .int i6), (7, .int (0 : Int32))] [] rfl ?_
  exact jt_294_90  cm_N a0 i1 i2 i3 j4 i6 (0 : Int32) w
def fn_294_64 : Nat → Nat → Int32 → Int32 → Int32 → Int64 → Int32 → Int32 → cm_W → Option (Int32 × cm_W)
  | 0, _, _, _, _, _, _, _, _ => none
  | n + 1, a0, i1, i2, i3, j4, i6, i7, w => (if cm_sh w a0 = some (.inl 11) then (if (cm_I w a0 1) ≤ i7 then fn_294_87  a0 i1 i2 i3 j4 i6 w else (cm_R w a0 72).bind fun r34 => (if cm_ga w .int r34 i7 = true then (if cm_w2 96 143 r34 = true then fn_294_64 n a0 i1 i2 i3 j4 i6 (i7 + (1 : Int32)) (cm_sI w r34 i7.toNatClampNeg (0 : Int32)) else none) else none)) else none)
theorem jt_294_64 : ∀ (n : Nat) (a0 : Nat) (i1 : Int32) (i2 : Int32) (i3 : Int32) (j4 : Int64) (i6 : Int32) (i7 : Int32) (w : cm_W), sm cm_g 294 ck_294 kq_294 64 [(0, .ref a0), (1, .int i1), (2, .int i2), (3, .int i3), (4, .long j4), (6, .int i6), (7, .int i7)] [] w ((fn_294_64 n a0 i1 i2 i3 j4 i6 i7 w).map cm_gI) := by
  intro n
  induction n with
  | zero => intro a0 i1 i2 i3 j4 i6 i7 w; exact sm_no
  | succ n ih =>
    intro a0 i1 i2 i3 j4 i6 i7 w
    rw [fn_294_64]
    refine sm_seg 2 67 [(0, .ref a0), (1, .int i1), (2, .int i2), (3, .int i3), (4, .long j4), (6, .int i6), (7, .int i7)] [.ref a0, .int i7] rfl ?_
    refine sm_gd fun h32 => ?_
    refine sm_gI rfl h32 rfl ?_
    show sm _ _ _ _ 70 [(0, .ref a0), (1, .int i1), (2, .int i2), (3, .int i3), (4, .long j4), (6, .int i6), (7, .int i7)] [.int (cm_I w a0 1), .int i7] _ _
    refine sm_if (pc1 := 87) (lv1 := [(0, .ref a0), (1, .int i1), (2, .int i2), (3, .int i3), (4, .long j4), (6, .int i6)]) (pc2 := 73) (lv2 := [(0, .ref a0), (1, .int i1), (2, .int i2), (3, .int i3), (4, .long j4), (6, .int i6), (7, .int i7)]) (st1 := []) rfl rfl rfl (fun h33 => ?_) (fun h33 => ?_)
    · exact jt_294_87  a0 i1 i2 i3 j4 i6 w
    · refine sm_seg 1 74 [(0, .ref a0), (1, .int i1), (2, .int i2), (3, .int i3), (4, .long j4), (6, .int i6), (7, .int i7)] [.ref a0] rfl ?_
      refine sm_gR rfl h32 rfl rfl fun r34 h35 => ?_
      show sm _ _ _ _ 77 [(0, .ref a0), (1, .int i1), (2, .int i2), (3, .int i3), (4, .long j4), (6, .int i6), (7, .int i7)] [.ref r34] _ _
      refine sm_seg 2 80 [(0, .ref a0), (1, .int i1), (2, .int i2), (3, .int i3), (4, .long j4), (6, .int i6), (7, .int i7)] [.int (0 : Int32), .int i7, .ref r34] rfl ?_
      refine sm_gd fun h36 => ?_
      refine sm_gd fun h37 => ?_
      refine sm_si rfl h36 h37 rfl rfl ?_
      show sm _ _ _ _ 81 [(0, .ref a0), (1, .int i1), (2, .int i2), (3, .int i3), (4, .long j4), (6, .int i6), (7, .int i7)] [] _ _
      refine sm_seg 2 64 [(0, .ref a0), (1, .int i1), (2, .int i2), (3, .int i3), (4, .long j4), (6, .int i6), (7, .int (i7 + (1 : Int32)))] [] rfl ?_
      exact ih a0 i1 i2 i3 j4 i6 (i7 + (1 : Int32)) (cm_sI w r34 i7.toNatClampNeg (0 : Int32))
def fn_294_48 (a0 : Nat) (i1 : Int32) (i2 : Int32) (i3 : Int32) (w : cm_W) : Option (Int32 × cm_W) := (if cm_sh w a0 = some (.inl 11) then (fn_229 w a0 i1).bind fun v39 => fn_294_64  cm_N a0 i1 i2 i3 (cm_L w a0 71) v39 (0 : Int32) w else none)
theorem jt_294_48 (a0 : Nat) (i1 : Int32) (i2 : Int32) (i3 : Int32) (w : cm_W) : sm cm_g 294 ck_294 kq_294 48 [(0, .ref a0), (1, .int i1), (2, .int i2), (3, .int i3)] [] w ((fn_294_48 a0 i1 i2 i3 w).map cm_gI) := by
  unfold fn_294_48
  refine sm_seg 1 49 [(0, .ref a0), (1, .int i1), (2, .int i2), (3, .int i3)] [.ref a0] rfl ?_
  refine sm_gd fun h38 => ?_
  refine sm_gL rfl h38 rfl ?_
  show sm _ _ _ _ 52 [(0, .ref a0), (1, .int i1), (2, .int i2), (3, .int i3)] [.long (cm_L w a0 71)] _ _
  refine sm_seg 3 56 [(4, .long (cm_L w a0 71)), (0, .ref a0), (1, .int i1), (2, .int i2), (3, .int i3)] [.int i1, .ref a0] rfl ?_
  refine sm_cV (as := [.int i1]) (rest := []) rfl rfl rfl rfl h38 (Nat.le_of_ble_eq_true rfl) (ca_229 w a0 i1) fun v39 h40 => ?_
  show sm _ _ _ _ 59 [(4, .long (cm_L w a0 71)), (0, .ref a0), (1, .int i1), (2, .int i2), (3, .int i3)] [.int v39] _ _
  refine sm_seg 3 64 [(0, .ref a0), (1, .int i1), (2, .int i2), (3, .int i3), (4, .long (cm_L w a0 71)), (6, .int v39), (7, .int (0 : Int32))] [] rfl ?_
  exact jt_294_64  cm_N a0 i1 i2 i3 (cm_L w a0 71) v39 (0 : Int32) w
def fn_294_39 (a0 : Nat) (i1 : Int32) (i2 : Int32) (i3 : Int32) (w : cm_W) : Option (Int32 × cm_W) := (if cm_sh w a0 = some (.inl 11) then (if ¬ (cm_I w a0 1) = 0 then fn_294_48  a0 i1 i2 i3 w else some ((-1 : Int32), w)) else none)
theorem jt_294_39 (a0 : Nat) (i1 : Int32) (i2 : Int32) (i3 : Int32) (w : cm_W) : sm cm_g 294 ck_294 kq_294 39 [(0, .ref a0), (1, .int i1), (2, .int i2), (3, .int i3)] [] w ((fn_294_39 a0 i1 i2 i3 w).map cm_gI) := by
  unfold fn_294_39
  refine sm_seg 1 40 [(0, .ref a0), (1, .int i1), (2, .int i2), (3, .int i3)] [.ref a0] rfl ?_
  refine sm_gd fun h41 => ?_
  refine sm_gI rfl h41 rfl ?_
  show sm _ _ _ _ 43 [(0, .ref a0), (1, .int i1), (2, .int i2), (3, .int i3)] [.int (cm_I w a0 1)] _ _
  refine sm_if (pc1 := 48) (lv1 := [(0, .ref a0), (1, .int i1), (2, .int i2), (3, .int i3)]) (pc2 := 46) (lv2 := []) (st1 := []) rfl rfl rfl (fun h42 => ?_) (fun h42 => ?_)
  · exact jt_294_48  a0 i1 i2 i3 w
  · refine sm_seg 1 47 [] [.int (-1 : Int32)] rfl ?_
    exact sm_rIW rfl rfl
def fn_294 (a0 : Nat) (i1 : Int32) (i2 : Int32) (i3 : Int32) (w : cm_W) : Option (Int32 × cm_W) := (if cm_sh w a0 = some (.inl 11) then (fn_225 w a0 i1).bind fun v44 => (if (cm_b v44) = 0 then some ((-1 : Int32), w) else (fn_194 w i2 (1 : Int32) (1000 : Int32)).bind fun v47 => (if (cm_b v47) = 0 then some ((-1 : Int32), w) else (if i3 = 0 then fn_294_39  a0 i1 i2 i3 w else (fn_194 w i3 (10 : Int32) ((9 : Int32) + (cm_I w a0 1))).bind fun v51 => (if (cm_b v51) = 0 then some ((-1 : Int32), w) else fn_294_39  a0 i1 i2 i3 w)))) else none)
theorem jt_294_0 (a0 : Nat) (i1 : Int32) (i2 : Int32) (i3 : Int32) (w : cm_W) : sm cm_g 294 ck_294 kq_294 0 [(0, .ref a0), (1, .int i1), (2, .int i2), (3, .int i3)] [] w ((fn_294 a0 i1 i2 i3 w).map cm_gI) := by
  unfold fn_294
  refine sm_seg 2 2 [(0, .ref a0), (1, .int i1), (2, .int i2), (3, .int i3)] [.int i1, .ref a0] rfl ?_
  refine sm_gd fun h43 => ?_
  refine sm_cV (as := [.int i1]) (rest := []) rfl rfl rfl rfl h43 (Nat.le_of_ble_eq_true rfl) (ca_225 w a0 i1) fun v44 h45 => ?_
  show sm _ _ _ _ 5 [(0, .ref a0), (1, .int i1), (2, .int i2), (3, .int i3)] [.int (cm_b v44)] _ _
  refine sm_if (pc1 := 46) (lv1 := []) (pc2 := 8) (lv2 := [(0, .ref a0), (1, .int i1), (2, .int i2), (3, .int i3)]) (st1 := []) rfl rfl rfl (fun h46 => ?_) (fun h46 => ?_)
  · refine sm_seg 1 47 [] [.int (-1 : Int32)] rfl ?_
    exact sm_rIW rfl rfl
  · refine sm_seg 3 13 [(0, .ref a0), (1, .int i1), (2, .int i2), (3, .int i3)] [.int (1000 : Int32), .int (1 : Int32), .int i2] rfl ?_
    refine sm_cS (av := [.int i2, .int (1 : Int32), .int (1000 : Int32)]) (rest := []) rfl rfl rfl rfl (Nat.le_of_ble_eq_true rfl) (ca_194 w i2 (1 : Int32) (1000 : Int32)) fun v47 h48 => ?_
    show sm _ _ _ _ 16 [(0, .ref a0), (1, .int i1), (2, .int i2), (3, .int i3)] [.int (cm_b v47)] _ _
    refine sm_if (pc1 := 46) (lv1 := []) (pc2 := 19) (lv2 := [(0, .ref a0), (1, .int i1), (2, .int i2), (3, .int i3)]) (st1 := []) rfl rfl rfl (fun h49 => ?_) (fun h49 => ?_)
    · refine sm_seg 1 47 [] [.int (-1 : Int32)] rfl ?_
      exact sm_rIW rfl rfl
    · refine sm_seg 1 20 [(0, .ref a0), (1, .int i1), (2, .int i2), (3, .int i3)] [.int i3] rfl ?_
      refine sm_if (pc1 := 39) (lv1 := [(0, .ref a0), (1, .int i1), (2, .int i2), (3, .int i3)]) (pc2 := 23) (lv2 := [(0, .ref a0), (1, .int i1), (2, .int i2), (3, .int i3)]) (st1 := []) rfl rfl rfl (fun h50 => ?_) (fun h50 => ?_)
      · exact jt_294_39  a0 i1 i2 i3 w
      · refine sm_seg 4 29 [(0, .ref a0), (1, .int i1), (2, .int i2), (3, .int i3)] [.ref a0, .int (9 : Int32), .int (10 : Int32), .int i3] rfl ?_
        refine sm_gI rfl h43 rfl ?_
        show sm _ _ _ _ 32 [(0, .ref a0), (1, .int i1), (2, .int i2), (3, .int i3)] [.int (cm_I w a0 1), .int (9 : Int32), .int (10 : Int32), .int i3] _ _
        refine sm_seg 1 33 [(0, .ref a0), (1, .int i1), (2, .int i2), (3, .int i3)] [.int ((9 : Int32) + (cm_I w a0 1)), .int (10 : Int32), .int i3] rfl ?_
        refine sm_cS (av := [.int i3, .int (10 : Int32), .int ((9 : Int32) + (cm_I w a0 1))]) (rest := []) rfl rfl rfl rfl (Nat.le_of_ble_eq_true rfl) (ca_194 w i3 (10 : Int32) ((9 : Int32) + (cm_I w a0 1))) fun v51 h52 => ?_
        show sm _ _ _ _ 36 [(0, .ref a0), (1, .int i1), (2, .int i2), (3, .int i3)] [.int (cm_b v51)] _ _
        refine sm_if (pc1 := 46) (lv1 := []) (pc2 := 39) (lv2 := [(0, .ref a0), (1, .int i1), (2, .int i2), (3, .int i3)]) (st1 := []) rfl rfl rfl (fun h53 => ?_) (fun h53 => ?_)
        · refine sm_seg 1 47 [] [.int (-1 : Int32)] rfl ?_
          exact sm_rIW rfl rfl
        · exact jt_294_39  a0 i1 i2 i3 w
theorem ca_294 (a0 : Nat) (i1 : Int32) (i2 : Int32) (i3 : Int32) (w : cm_W) : cm_ca cm_g 294 [.ref a0, .int i1, .int i2, .int i3] w ((fn_294 a0 i1 i2 i3 w).map cm_gI) := cm_ca_of (cm_me_of rfl rfl) rfl (jt_294_0 a0 i1 i2 i3 w)
-- NailedBoxesModel.puts([II)V
def fn_295_27 (a0 : Nat) (i2 : Int32) (w : cm_W) : Option cm_W := (if cm_sh w a0 = some (.inl 11) then (if cm_w2 96 143 a0 = true then some (cm_sI w a0 74 ((cm_I w a0 74) + i2)) else none) else none)
theorem jt_295_27 (a0 : Nat) (i2 : Int32) (w : cm_W) : sm cm_g 295 ck_295 kq_295 27 [(0, .ref a0), (2, .int i2)] [] w ((fn_295_27 a0 i2 w).map cm_gV) := by
  unfold fn_295_27
  refine sm_seg 2 29 [(0, .ref a0), (2, .int i2)] [.ref a0, .ref a0] rfl ?_
  refine sm_gd fun h1 => ?_
  refine sm_gI rfl h1 rfl ?_
  show sm _ _ _ _ 32 [(0, .ref a0), (2, .int i2)] [.int (cm_I w a0 74), .ref a0] _ _
  refine sm_seg 2 34 [(0, .ref a0), (2, .int i2)] [.int ((cm_I w a0 74) + i2), .ref a0] rfl ?_
  refine sm_gd fun h2 => ?_
  refine sm_pI rfl h1 rfl h2 rfl ?_
  show sm _ _ _ _ 37 [(0, .ref a0), (2, .int i2)] [] _ _
  exact sm_rV rfl rfl
def fn_295_2 : Nat → Nat → Nat → Int32 → Int32 → cm_W → Option cm_W
  | 0, _, _, _, _, _ => none
  | n + 1, a0, a1, i2, i3, w => (if i2 ≤ i3 then fn_295_27  a0 i2 w else (if cm_sh w a0 = some (.inl 11) then (cm_R w a0 75).bind fun r5 => (if cm_ga w .int a1 i3 = true then (if cm_ga w .int r5 ((cm_I w a0 74) + i3) = true then (if cm_w2 96 143 r5 = true then fn_295_2 n a0 a1 i2 (i3 + (1 : Int32)) (cm_sI w r5 ((cm_I w a0 74) + i3).toNatClampNeg (cm_I w a1 i3.toNatClampNeg)) else none) else none) else none) else none))
theorem jt_295_2 : ∀ (n : Nat) (a0 : Nat) (a1 : Nat) (i2 : Int32) (i3 : Int32) (w : cm_W), sm cm_g 295 ck_295 kq_295 2 [(0, .ref a0), (1, .ref a1), (2, .int i2), (3, .int i3)] [] w ((fn_295_2 n a0 a1 i2 i3 w).map cm_gV) := by
  intro n
  induction n with
  | zero => intro a0 a1 i2 i3 w; exact sm_no
  | succ n ih =>
    intro a0 a1 i2 i3 w
    rw [fn_295_2]
    refine sm_seg 2 4 [(0, .ref a0), (1, .ref a1), (2, .int i2), (3, .int i3)] [.int i2, .int i3] rfl ?_
    refine sm_if (pc1 := 27) (lv1 := [(0, .ref a0), (2, .int i2)]) (pc2 := 7) (lv2 := [(0, .ref a0), (1, .ref a1), (2, .int i2), (3, .int i3)]) (st1 := []) rfl rfl rfl (fun h3 => ?_) (fun h3 => ?_)
    · exact jt_295_27  a0 i2 w
    · refine sm_seg 1 8 [(0, .ref a0), (1, .ref a1), (2, .int i2), (3, .int i3)] [.ref a0] rfl ?_
      refine sm_gd fun h4 => ?_
      refine sm_gR rfl h4 rfl rfl fun r5 h6 => ?_
      show sm _ _ _ _ 11 [(0, .ref a0), (1, .ref a1), (2, .int i2), (3, .int i3)] [.ref r5] _ _
      refine sm_seg 1 12 [(0, .ref a0), (1, .ref a1), (2, .int i2), (3, .int i3)] [.ref a0, .ref r5] rfl ?_
      refine sm_gI rfl h4 rfl ?_
      show sm _ _ _ _ 15 [(0, .ref a0), (1, .ref a1), (2, .int i2), (3, .int i3)] [.int (cm_I w a0 74), .ref r5] _ _
      refine sm_seg 4 19 [(0, .ref a0), (1, .ref a1), (2, .int i2), (3, .int i3)] [.int i3, .ref a1, .int ((cm_I w a0 74) + i3), .ref r5] rfl ?_
      refine sm_gd fun h7 => ?_
      refine sm_ai rfl h7 rfl ?_
      show sm _ _ _ _ 20 [(0, .ref a0), (1, .ref a1), (2, .int i2), (3, .int i3)] [.int (cm_I w a1 i3.toNatClampNeg), .int ((cm_I w a0 74) + i3), .ref r5] _ _
      refine sm_gd fun h8 => ?_
      refine sm_gd fun h9 => ?_
      refine sm_si rfl h8 h9 rfl rfl ?_
      show sm _ _ _ _ 21 [(0, .ref a0), (1, .ref a1), (2, .int i2), (3, .int i3)] [] _ _
      refine sm_seg 2 2 [(0, .ref a0), (1, .ref a1), (2, .int i2), (3, .int (i3 + (1 : Int32)))] [] rfl ?_
      exact ih a0 a1 i2 (i3 + (1 : Int32)) (cm_sI w r5 ((cm_I w a0 74) + i3).toNatClampNeg (cm_I w a1 i3.toNatClampNeg))
def fn_295 (a0 : Nat) (a1 : Nat) (i2 : Int32) (w : cm_W) : Option cm_W := fn_295_2  cm_N a0 a1 i2 (0 : Int32) w
theorem jt_295_0 (a0 : Nat) (a1 : Nat) (i2 : Int32) (w : cm_W) : sm cm_g 295 ck_295 kq_295 0 [(0, .ref a0), (1, .ref a1), (2, .int i2)] [] w ((fn_295 a0 a1 i2 w).map cm_gV) := by
  unfold fn_295
  refine sm_seg 2 2 [(0, .ref a0), (1, .ref a1), (2, .int i2), (3, .int (0 : Int32))] [] rfl ?_
  exact jt_295_2  cm_N a0 a1 i2 (0 : Int32) w
theorem ca_295 (a0 : Nat) (a1 : Nat) (i2 : Int32) (w : cm_W) : cm_ca cm_g 295 [.ref a0, .ref a1, .int i2] w ((fn_295 a0 a1 i2 w).map cm_gV) := cm_ca_of (cm_me_of rfl rfl) rfl (jt_295_0 a0 a1 i2 w)
-- NailedBoxesModel.fetches([II)V
def fn_296_27 (a0 : Nat) (i2 : Int32) (w : cm_W) : Option cm_W := (if cm_sh w a0 = some (.inl 11) then (if cm_w2 96 143 a0 = true then some (cm_sI w a0 74 ((cm_I w a0 74) + i2)) else none) else none)
theorem jt_296_27 (a0 : Nat) (i2 : Int32) (w : cm_W) : sm cm_g 296 ck_296 kq_296 27 [(0, .ref a0), (2, .int i2)] [] w ((fn_296_27 a0 i2 w).map cm_gV) := by
  unfold fn_296_27
  refine sm_seg 2 29 [(0, .ref a0), (2, .int i2)] [.ref a0, .ref a0] rfl ?_
  refine sm_gd fun h1 => ?_
  refine sm_gI rfl h1 rfl ?_
  show sm _ _ _ _ 32 [(0, .ref a0), (2, .int i2)] [.int (cm_I w a0 74), .ref a0] _ _
  refine sm_seg 2 34 [(0, .ref a0), (2, .int i2)] [.int ((cm_I w a0 74) + i2), .ref a0] rfl ?_
  refine sm_gd fun h2 => ?_
  refine sm_pI rfl h1 rfl h2 rfl ?_
  show sm _ _ _ _ 37 [(0, .ref a0), (2, .int i2)] [] _ _
  exact sm_rV rfl rfl
def fn_296_2 : Nat → Nat → Nat → Int32 → Int32 → cm_W → Option cm_W
  | 0, _, _, _, _, _ => none
  | n + 1, a0, a1, i2, i3, w => (if i2 ≤ i3 then fn_296_27  a0 i2 w else (if cm_sh w a0 = some (.inl 11) then (cm_R w a0 75).bind fun r5 => (if cm_ga w .int r5 ((cm_I w a0 74) + i3) = true then (if cm_ga w .int a1 i3 = true then (if cm_w2 96 143 a1 = true then fn_296_2 n a0 a1 i2 (i3 + (1 : Int32)) (cm_sI w a1 i3.toNatClampNeg (cm_I w r5 ((cm_I w a0 74) + i3).toNatClampNeg)) else none) else none) else none) else none))
theorem jt_296_2 : ∀ (n : Nat) (a0 : Nat) (a1 : Nat) (i2 : Int32) (i3 : Int32) (w : cm_W), sm cm_g 296 ck_296 kq_296 2 [(0, .ref a0), (1, .ref a1), (2, .int i2), (3, .int i3)] [] w ((fn_296_2 n a0 a1 i2 i3 w).map cm_gV) := by
  intro n
  induction n with
  | zero => intro a0 a1 i2 i3 w; exact sm_no
  | succ n ih =>
    intro a0 a1 i2 i3 w
    rw [fn_296_2]
    refine sm_seg 2 4 [(0, .ref a0), (1, .ref a1), (2, .int i2), (3, .int i3)] [.int i2, .int i3] rfl ?_
    refine sm_if (pc1 := 27) (lv1 := [(0, .ref a0), (2, .int i2)]) (pc2 := 7) (lv2 := [(0, .ref a0), (1, .ref a1), (2, .int i2), (3, .int i3)]) (st1 := []) rfl rfl rfl (fun h3 => ?_) (fun h3 => ?_)
    · exact jt_296_27  a0 i2 w
    · refine sm_seg 3 10 [(0, .ref a0), (1, .ref a1), (2, .int i2), (3, .int i3)] [.ref a0, .int i3, .ref a1] rfl ?_
      refine sm_gd fun h4 => ?_
      refine sm_gR rfl h4 rfl rfl fun r5 h6 => ?_
      show sm _ _ _ _ 13 [(0, .ref a0), (1, .ref a1), (2, .int i2), (3, .int i3)] [.ref r5, .int i3, .ref a1] _ _
      refine sm_seg 1 14 [(0, .ref a0), (1, .ref a1), (2, .int i2), (3, .int i3)] [.ref a0, .ref r5, .int i3, .ref a1] rfl ?_
      refine sm_gI rfl h4 rfl ?_
      show sm _ _ _ _ 17 [(0, .ref a0), (1, .ref a1), (2, .int i2), (3, .int i3)] [.int (cm_I w a0 74), .ref r5, .int i3, .ref a1] _ _
      refine sm_seg 2 19 [(0, .ref a0), (1, .ref a1), (2, .int i2), (3, .int i3)] [.int ((cm_I w a0 74) + i3), .ref r5, .int i3, .ref a1] rfl ?_
      refine sm_gd fun h7 => ?_
      refine sm_ai rfl h7 rfl ?_
      show sm _ _ _ _ 20 [(0, .ref a0), (1, .ref a1), (2, .int i2), (3, .int i3)] [.int (cm_I w r5 ((cm_I w a0 74) + i3).toNatClampNeg), .int i3, .ref a1] _ _
      refine sm_gd fun h8 => ?_
      refine sm_gd fun h9 => ?_
      refine sm_si rfl h8 h9 rfl rfl ?_
      show sm _ _ _ _ 21 [(0, .ref a0), (1, .ref a1), (2, .int i2), (3, .int i3)] [] _ _
      refine sm_seg 2 2 [(0, .ref a0), (1, .ref a1), (2, .int i2), (3, .int (i3 + (1 : Int32)))] [] rfl ?_
      exact ih a0 a1 i2 (i3 + (1 : Int32)) (cm_sI w a1 i3.toNatClampNeg (cm_I w r5 ((cm_I w a0 74) + i3).toNatClampNeg))
def fn_296 (a0 : Nat) (a1 : Nat) (i2 : Int32) (w : cm_W) : Option cm_W := fn_296_2  cm_N a0 a1 i2 (0 : Int32) w
theorem jt_296_0 (a0 : Nat) (a1 : Nat) (i2 : Int32) (w : cm_W) : sm cm_g 296 ck_296 kq_296 0 [(0, .ref a0), (1, .ref a1), (2, .int i2)] [] w ((fn_296 a0 a1 i2 w).map cm_gV) := by
  unfold fn_296
  refine sm_seg 2 2 [(0, .ref a0), (1, .ref a1), (2, .int i2), (3, .int (0 : Int32))] [] rfl ?_
  exact jt_296_2  cm_N a0 a1 i2 (0 : Int32) w
theorem ca_296 (a0 : Nat) (a1 : Nat) (i2 : Int32) (w : cm_W) : cm_ca cm_g 296 [.ref a0, .ref a1, .int i2] w ((fn_296 a0 a1 i2 w).map cm_gV) := cm_ca_of (cm_me_of rfl rfl) rfl (jt_296_0 a0 a1 i2 w)
-- NailedBoxesModel.image()I
def fn_297_15 (a0 : Nat) (w : cm_W) : Option (Int32 × cm_W) := (if cm_sh w a0 = some (.inl 11) then (if cm_w2 96 143 a0 = true then (cm_R (cm_sI w a0 74 ((3200 : Int32) * (cm_I w a0 73))) a0 77).bind fun r3 => (if cm_ga w .long r3 (cm_I (cm_sI w a0 74 ((3200 : Int32) * (cm_I w a0 73))) a0 73) = true then (if cm_w2 96 143 r3 = true then (cm_R (cm_sL (cm_sI w a0 74 ((3200 : Int32) * (cm_I w a0 73))) r3 (cm_I (cm_sI w a0 74 ((3200 : Int32) * (cm_I w a0 73))) a0 73).toNatClampNeg (cm_L (cm_sI w a0 74 ((3200 : Int32) * (cm_I w a0 73))) a0 71)) a0 76).bind fun r7 => (if cm_ga w .int r7 (0 : Int32) = true then (if cm_w2 96 143 r7 = true then (cm_R (cm_sI (cm_sL (cm_sI w a0 74 ((3200 : Int32) * (cm_I w a0 73))) r3 (cm_I (cm_sI w a0 74 ((3200 : Int32) * (cm_I w a0 73))) a0 73).toNatClampNeg (cm_L (cm_sI w a0 74 ((3200 : Int32) * (cm_I w a0 73))) a0 71)) r7 (0 : Int32).toNatClampNeg (cm_I (cm_sL (cm_sI w a0 74 ((3200 : Int32) * (cm_I w a0 73))) r3 (cm_I (cm_sI w a0 74 ((3200 : Int32) * (cm_I w a0 73))) a0 73).toNatClampNeg (cm_L (cm_sI w a0 74 ((3200 : Int32) * (cm_I w a0 73))) a0 71)) a0 8)) a0 76).bind fun r11 => (if cm_ga w .int r11 (1 : Int32) = true then (if cm_w2 96 143 r11 = true then (cm_R (cm_sI (cm_sI (cm_sL (cm_sI w a0 74 ((3200 : Int32) * (cm_I w a0 73))) r3 (cm_I (cm_sI w a0 74 ((3200 : Int32) * (cm_I w a0 73))) a0 73).toNatClampNeg (cm_L (cm_sI w a0 74 ((3200 : Int32) * (cm_I w a0 73))) a0 71)) r7 (0 : Int32).toNatClampNeg (cm_I (cm_sL (cm_sI w a0 74 ((3200 : Int32) * (cm_I w a0 73))) r3 (cm_I (cm_sI w a0 74 ((3200 : Int32) * (cm_I w a0 73))) a0 73).toNatClampNeg (cm_L (cm_sI w a0 74 ((3200 : Int32) * (cm_I w a0 73))) a0 71)) a0 8)) r11 (1 : Int32).toNatClampNeg (cm_I (cm_sI (cm_sL (cm_sI w a0 74 ((3200 : Int32) * (cm_I w a0 73))) r3 (cm_I (cm_sI w a0 74 ((3200 : Int32) * (cm_I w a0 73))) a0 73).toNatClampNeg (cm_L (cm_sI w a0 74 ((3200 : Int32) * (cm_I w a0 73))) a0 71)) r7 (0 : Int32).toNatClampNeg (cm_I (cm_sL (cm_sI w a0 74 ((3200 : Int32) * (cm_I w a0 73))) r3 (cm_I (cm_sI w a0 74 ((3200 : Int32) * (cm_I w a0 73))) a0 73).toNatClampNeg (cm_L (cm_sI w a0 74 ((3200 : Int32) * (cm_I w a0 73))) a0 71)) a0 8)) a0 38)) a0 76).bind fun r15 => (if cm_ga w .int r15 (2 : Int32) = true then (if cm_w2 96 143 r15 = true then (cm_R (cm_sI (cm_sI (cm_sI (cm_sL (cm_sI w a0 74 ((3200 : Int32) * (cm_I w a0 73))) r3 (cm_I (cm_sI w a0 74 ((3200 : Int32) * (cm_I w a0 73))) a0 73).toNatClampNeg (cm_L (cm_sI w a0 74 ((3200 : Int32) * (cm_I w a0 73))) a0 71)) r7 (0 : Int32).toNatClampNeg (cm_I (cm_sL (cm_sI w a0 74 ((3200 : Int32) * (cm_I w a0 73))) r3 (cm_I (cm_sI w a0 74 ((3200 : Int32) * (cm_I w a0 73))) a0 73).toNatClampNeg (cm_L (cm_sI w a0 74 ((3200 : Int32) * (cm_I w a0 73))) a0 71)) a0 8)) r11 (1 : Int32).toNatClampNeg (cm_I (cm_sI (cm_sL (cm_sI w a0 74 ((3200 : Int32) * (cm_I w a0 73))) r3 (cm_I (cm_sI w a0 74 ((3200 : Int32) * (cm_I w a0 73))) a0 73).toNatClampNeg (cm_L (cm_sI w a0 74 ((3200 : Int32) * (cm_I w a0 73))) a0 71)) r7 (0 : Int32).toNatClampNeg (cm_I (cm_sL (cm_sI w a0 74 ((3200 : Int32) * (cm_I w a0 73))) r3 (cm_I (cm_sI w a0 74 ((3200 : Int32) * (cm_I w a0 73))) a0 73).toNatClampNeg (cm_L (cm_sI w a0 74 ((3200 : Int32) * (cm_I w a0 73))) a0 71)) a0 8)) a0 38)) r15 (2 : Int32).toNatClampNeg (cm_I (cm_sI (cm_sI (cm_sL (cm_sI w a0 74 ((3200 : Int32) * (cm_I w a0 73))) r3 (cm_I (cm_sI w a0 74 ((3200 : Int32) * (cm_I w a0 73))) a0 73).toNatClampNeg (cm_L (cm_sI w a0 74 ((3200 : Int32) * (cm_I w a0 73))) a0 71)) r7 (0 : Int32).toNatClampNeg (cm_I (cm_sL (cm_sI w a0 74 ((3200 : Int32) * (cm_I w a0 73))) r3 (cm_I (cm_sI w a0 74 ((3200 : Int32) * (cm_I w a0 73))) a0 73).toNatClampNeg (cm_L (cm_sI w a0 74 ((3200 : Int32) * (cm_I w a0 73))) a0 71)) a0 8)) r11 (1 : Int32).toNatClampNeg (cm_I (cm_sI (cm_sL (cm_sI w a0 74 ((3200 : Int32) * (cm_I w a0 73))) r3 (cm_I (cm_sI w a0 74 ((3200 : Int32) * (cm_I w a0 73))) a0 73).toNatClampNeg (cm_L (cm_sI w a0 74 ((3200 : Int32) * (cm_I w a0 73))) a0 71)) r7 (0 : Int32).toNatClampNeg (cm_I (cm_sL (cm_sI w a0 74 ((3200 : Int32) * (cm_I w a0 73))) r3 (cm_I (cm_sI w a0 74 ((3200 : Int32) * (cm_I w a0 73))) a0 73).toNatClampNeg (cm_L (cm_sI w a0 74 ((3200 : Int32) * (cm_I w a0 73))) a0 71)) a0 8)) a0 38)) a0 39)) a0 76).bind fun r19 => (if cm_ga w .int r19 (3 : Int32) = true then (if cm_w2 96 143 r19 = true then (cm_R (cm_sI (cm_sI (cm_sI (cm_sI (cm_sL (cm_sI w a0 74 ((3200 : Int32) * (cm_I w a0 73))) r3 (cm_I (cm_sI w a0 74 ((3200 : Int32) * (cm_I w a0 73))) a0 73).toNatClampNeg (cm_L (cm_sI w a0 74 ((3200 : Int32) * (cm_I w a0 73))) a0 71)) r7 (0 : Int32).toNatClampNeg (cm_I (cm_sL (cm_sI w a0 74 ((3200 : Int32) * (cm_I w a0 73))) r3 (cm_I (cm_sI w a0 74 ((3200 : Int32) * (cm_I w a0 73))) a0 73).toNatClampNeg (cm_L (cm_sI w a0 74 ((3200 : Int32) * (cm_I w a0 73))) a0 71)) a0 8)) r11 (1 : Int32).toNatClampNeg (cm_I (cm_sI (cm_sL (cm_sI w a0 74 ((3200 : Int32) * (cm_I w a0 73))) r3 (cm_I (cm_sI w a0 74 ((3200 : Int32) * (cm_I w a0 73))) a0 73).toNatClampNeg (cm_L (cm_sI w a0 74 ((3200 : Int32) * (cm_I w a0 73))) a0 71)) r7 (0 : Int32).toNatClampNeg (cm_I (cm_sL (cm_sI w a0 74 ((3200 : Int32) * (cm_I w a0 73))) r3 (cm_I (cm_sI w a0 74 ((3200 : Int32) * (cm_I w a0 73))) a0 73).toNatClampNeg (cm_L (cm_sI w a0 74 ((3200 : Int32) * (cm_I w a0 73))) a0 71)) a0 8)) a0 38)) r15 (2 : Int32).toNatClampNeg (cm_I (cm_sI (cm_sI (cm_sL (cm_sI w a0 74 ((3200 : Int32) * (cm_I w a0 73))) r3 (cm_I (cm_sI w a0 74 ((3200 : Int32) * (cm_I w a0 73))) a0 73).toNatClampNeg (cm_L (cm_sI w a0 74 ((3200 : Int32) * (cm_I w a0 73))) a0 71)) r7 (0 : Int32).toNatClampNeg (cm_I (cm_sL (cm_sI w a0 74 ((3200 : Int32) * (cm_I w a0 73))) r3 (cm_I (cm_sI w a0 74 ((3200 : Int32) * (cm_I w a0 73))) a0 73).toNatClampNeg (cm_L (cm_sI w a0 74 ((3200 : Int32) * (cm_I w a0 73))) a0 71)) a0 8)) r11 (1 : Int32).toNatClampNeg (cm_I (cm_sI (cm_sL (cm_sI w a0 74 ((3200 : Int32) * (cm_I w a0 73))) r3 (cm_I (cm_sI w a0 74 ((3200 : Int32) * (cm_I w a0 73))) a0 73).toNatClampNeg (cm_L (cm_sI w a0 74 ((3200 : Int32) * (cm_I w a0 73))) a0 71)) r7 (0 : Int32).toNatClampNeg (cm_I (cm_sL (cm_sI w a0 74 ((3200 : Int32) * (cm_I w a0 73))) r3 (cm_I (cm_sI w a0 74 ((3200 : Int32) * (cm_I w a0 73))) a0 73).toNatClampNeg (cm_L (cm_sI w a0 74 ((3200 : Int32) * (cm_I w a0 73))) a0 71)) a0 8)) a0 38)) a0 39)) r19 (3 : Int32).toNatClampNeg (cm_I (cm_sI (cm_sI (cm_sI (cm_sL (cm_sI w a0 74 ((3200 : Int32) * (cm_I w a0 73))) r3 (cm_I (cm_sI w a0 74 ((3200 : Int32) * (cm_I w a0 73))) a0 73).toNatClampNeg (cm_L (cm_sI w a0 74 ((3200 : Int32) * (cm_I w a0 73))) a0 71)) r7 (0 : Int32).toNatClampNeg (cm_I (cm_sL (cm_sI w a0 74 ((3200 : Int32) * (cm_I w a0 73))) r3 (cm_I (cm_sI w a0 74 ((3200 : Int32) * (cm_I w a0 73))) a0 73).toNatClampNeg (cm_L (cm_sI w a0 74 ((3200 : Int32) * (cm_I w a0 73))) a0 71)) a0 8)) r11 (1 : Int32).toNatClampNeg (cm_I (cm_sI (cm_sL (cm_sI w a0 74 ((3200 : Int32) * (cm_I w a0 73))) r3 (cm_I (cm_sI w a0 74 ((3200 : Int32) * (cm_I w a0 73))) a0 73).toNatClampNeg (cm_L (cm_sI w a0 74 ((3200 : Int32) * (cm_I w a0 73))) a0 71)) r7 (0 : Int32).toNatClampNeg (cm_I (cm_sL (cm_sI w a0 74 ((3200 : Int32) * (cm_I w a0 73))) r3 (cm_I (cm_sI w a0 74 ((3200 : Int32) * (cm_I w a0 73))) a0 73).toNatClampNeg (cm_L (cm_sI w a0 74 ((3200 : Int32) * (cm_I w a0 73))) a0 71)) a0 8)) a0 38)) r15 (2 : Int32).toNatClampNeg (cm_I (cm_sI (cm_sI (cm_sL (cm_sI w a0 74 ((3200 : Int32) * (cm_I w a0 73))) r3 (cm_I (cm_sI w a0 74 ((3200 : Int32) * (cm_I w a0 73))) a0 73).toNatClampNeg (cm_L (cm_sI w a0 74 ((3200 : Int32) * (cm_I w a0 73))) a0 71)) r7 (0 : Int32).toNatClampNeg (cm_I (cm_sL (cm_sI w a0 74 ((3200 : Int32) * (cm_I w a0 73))) r3 (cm_I (cm_sI w a0 74 ((3200 : Int32) * (cm_I w a0 73))) a0 73).toNatClampNeg (cm_L (cm_sI w a0 74 ((3200 : Int32) * (cm_I w a0 73))) a0 71)) a0 8)) r11 (1 : Int32).toNatClampNeg (cm_I (cm_sI (cm_sL (cm_sI w a0 74 ((3200 : Int32) * (cm_I w a0 73))) r3 (cm_I (cm_sI w a0 74 ((3200 : Int32) * (cm_I w a0 73))) a0 73).toNatClampNeg (cm_L (cm_sI w a0 74 ((3200 : Int32) * (cm_I w a0 73))) a0 71)) r7 (0 : Int32).toNatClampNeg (cm_I (cm_sL (cm_sI w a0 74 ((3200 : Int32) * (cm_I w a0 73))) r3 (cm_I (cm_sI w a0 74 ((3200 : Int32) * (cm_I w a0 73))) a0 73).toNatClampNeg (cm_L (cm_sI w a0 74 ((3200 : Int32) * (cm_I w a0 73))) a0 71)) a0 8)) a0 38)) a0 39)) a0 51)) a0 76).bind fun r23 => (if cm_ga w .int r23 (4 : Int32) = true then (if cm_w2 96 143 r23 = true then (cm_R (cm_sI (cm_sI (cm_sI (cm_sI (cm_sI (cm_sL (cm_sI w a0 74 ((3200 : Int32) * (cm_I w a0 73))) r3 (cm_I (cm_sI w a0 74 ((3200 : Int32) * (cm_I w a0 73))) a0 73).toNatClampNeg (cm_L (cm_sI w a0 74 ((3200 : Int32) * (cm_I w a0 73))) a0 71)) r7 (0 : Int32).toNatClampNeg (cm_I (cm_sL (cm_sI w a0 74 ((3200 : Int32) * (cm_I w a0 73))) r3 (cm_I (cm_sI w a0 74 ((3200 : Int32) * (cm_I w a0 73))) a0 73).toNatClampNeg (cm_L (cm_sI w a0 74 ((3200 : Int32) * (cm_I w a0 73))) a0 71)) a0 8)) r11 (1 : Int32).toNatClampNeg (cm_I (cm_sI (cm_sL (cm_sI w a0 74 ((3200 : Int32) * (cm_I w a0 73))) r3 (cm_I (cm_sI w a0 74 ((3200 : Int32) * (cm_I w a0 73))) a0 73).toNatClampNeg (cm_L (cm_sI w a0 74 ((3200 : Int32) * (cm_I w a0 73))) a0 71)) r7 (0 : Int32).toNatClampNeg (cm_I (cm_sL (cm_sI w a0 74 ((3200 : Int32) * (cm_I w a0 73))) r3 (cm_I (cm_sI w a0 74 ((3200 : Int32) * (cm_I w a0 73))) a0 73).toNatClampNeg (cm_L (cm_sI w a0 74 ((3200 : Int32) * (cm_I w a0 73))) a0 71)) a0 8)) a0 38)) r15 (2 : Int32).toNatClampNeg (cm_I (cm_sI (cm_sI (cm_sL (cm_sI w a0 74 ((3200 : Int32) * (cm_I w a0 73))) r3 (cm_I (cm_sI w a0 74 ((3200 : Int32) * (cm_I w a0 73))) a0 73).toNatClampNeg (cm_L (cm_sI w a0 74 ((3200 : Int32) * (cm_I w a0 73))) a0 71)) r7 (0 : Int32).toNatClampNeg (cm_I (cm_sL (cm_sI w a0 74 ((3200 : Int32) * (cm_I w a0 73))) r3 (cm_I (cm_sI w a0 74 ((3200 : Int32) * (cm_I w a0 73))) a0 73).toNatClampNeg (cm_L (cm_sI w a0 74 ((3200 : Int32) * (cm_I w a0 73))) a0 71)) a0 8)) r11 (1 : Int32).toNatClampNeg (cm_I (cm_sI (cm_sL (cm_sI w a0 74 ((3200 : Int32) * (cm_I w a0 73))) r3 (cm_I (cm_sI w a0 74 ((3200 : Int32) * (cm_I w a0 73))) a0 73).toNatClampNeg (cm_L (cm_sI w a0 74 ((3200 : Int32) * (cm_I w a0 73))) a0 71)) r7 (0 : Int32).toNatClampNeg (cm_I (cm_sL (cm_sI w a0 74 ((3200 : Int32) * (cm_I w a0 73))) r3 (cm_I (cm_sI w a0 74 ((3200 : Int32) * (cm_I w a0 73))) a0 73).toNatClampNeg (cm_L (cm_sI w a0 74 ((3200 : Int32) * (cm_I w a0 73))) a0 71)) a0 8)) a0 38)) a0 39)) r19 (3 : Int32).toNatClampNeg (cm_I (cm_sI (cm_sI (cm_sI (cm_sL (cm_sI w a0 74 ((3200 : Int32) * (cm_I w a0 73))) r3 (cm_I (cm_sI w a0 74 ((3200 : Int32) * (cm_I w a0 73))) a0 73).toNatClampNeg (cm_L (cm_sI w a0 74 ((3200 : Int32) * (cm_I w a0 73))) a0 71)) r7 (0 : Int32).toNatClampNeg (cm_I (cm_sL (cm_sI w a0 74 ((3200 : Int32) * (cm_I w a0 73))) r3 (cm_I (cm_sI w a0 74 ((3200 : Int32) * (cm_I w a0 73))) a0 73).toNatClampNeg (cm_L (cm_sI w a0 74 ((3200 : Int32) * (cm_I w a0 73))) a0 71)) a0 8)) r11 (1 : Int32).toNatClampNeg (cm_I (cm_sI (cm_sL (cm_sI w a0 74 ((3200 : Int32) * (cm_I w a0 73))) r3 (cm_I (cm_sI w a0 74 ((3200 : Int32) * (cm_I w a0 73))) a0 73).toNatClampNeg (cm_L (cm_sI w a0 74 ((3200 : Int32) * (cm_I w a0 73))) a0 71)) r7 (0 : Int32).toNatClampNeg (cm_I (cm_sL (cm_sI w a0 74 ((3200 : Int32) * (cm_I w a0 73))) r3 (cm_I (cm_sI w a0 74 ((3200 : Int32) * (cm_I w a0 73))) a0 73).toNatClampNeg (cm_L (cm_sI w a0 74 ((3200 : Int32) * (cm_I w a0 73))) a0 71)) a0 8)) a0 38)) r15 (2 : Int32).toNatClampNeg (cm_I (cm_sI (cm_sI (cm_sL (cm_sI w a0 74 ((3200 : Int32) * (cm_I w a0 73))) r3 (cm_I (cm_sI w a0 74 ((3200 : Int32) * (cm_I w a0 73))) a0 73).toNatClampNeg (cm_L (cm_sI w a0 74 ((3200 : Int32) * (cm_I w a0 73))) a0 71)) r7 (0 : Int32).toNatClampNeg (cm_I (cm_sL (cm_sI w a0 74 ((3200 : Int32) * (cm_I w a0 73))) r3 (cm_I (cm_sI w a0 74 ((3200 : Int32) * (cm_I w a0 73))) a0 73).toNatClampNeg (cm_L (cm_sI w a0 74 ((3200 : Int32) * (cm_I w a0 73))) a0 71)) a0 8)) r11 (1 : Int32).toNatClampNeg (cm_I (cm_sI (cm_sL (cm_sI w a0 74 ((3200 : Int32) * (cm_I w a0 73))) r3 (cm_I (cm_sI w a0 74 ((3200 : Int32) * (cm_I w a0 73))) a0 73).toNatClampNeg (cm_L (cm_sI w a0 74 ((3200 : Int32) * (cm_I w a0 73))) a0 71)) r7 (0 : Int32).toNatClampNeg (cm_I (cm_sL (cm_sI w a0 74 ((3200 : Int32) * (cm_I w a0 73))) r3 (cm_I (cm_sI w a0 74 ((3200 : Int32) * (cm_I w a0 73))) a0 73).toNatClampNeg (cm_L (cm_sI w a0 74 ((3200 : Int32) * (cm_I w a0 73))) a0 71)) a0 8)) a0 38)) a0 39)) a0 51)) r23 (4 : Int32).toNatClampNeg (cm_I (cm_sI (cm_sI (cm_sI (cm_sI (cm_sL (cm_sI w a0 74 ((3200 : Int32) * (cm_I w a0 73))) r3 (cm_I (cm_sI w a0 74 ((3200 : Int32) * (cm_I w a0 73))) a0 73).toNatClampNeg (cm_L (cm_sI w a0 74 ((3200 : Int32) * (cm_I w a0 73))) a0 71)) r7 (0 : Int32).toNatClampNeg (cm_I (cm_sL (cm_sI w a0 74 ((3200 : Int32) * (cm_I w a0 73))) r3 (cm_I (cm_sI w a0 74 ((3200 : Int32) * (cm_I w a0 73))) a0 73).toNatClampNeg (cm_L (cm_sI w a0 74 ((3200 : Int32) * (cm_I w a0 73))) a0 71)) a0 8)) r11 (1 : Int32).toNatClampNeg (cm_I (cm_sI (cm_sL (cm_sI w a0 74 ((3200 : Int32) * (cm_I w a0 73))) r3 (cm_I (cm_sI w a0 74 ((3200 : Int32) * (cm_I w a0 73))) a0 73).toNatClampNeg (cm_L (cm_sI w a0 74 ((3200 : Int32) * (cm_I w a0 73))) a0 71)) r7 (0 : Int32).toNatClampNeg (cm_I (cm_sL (cm_sI w a0 74 ((3200 : Int32) * (cm_I w a0 73))) r3 (cm_I (cm_sI w a0 74 ((3200 : Int32) * (cm_I w a0 73))) a0 73).toNatClampNeg (cm_L (cm_sI w a0 74 ((3200 : Int32) * (cm_I w a0 73))) a0 71)) a0 8)) a0 38)) r15 (2 : Int32).toNatClampNeg (cm_I (cm_sI (cm_sI (cm_sL (cm_sI w a0 74 ((3200 : Int32) * (cm_I w a0 73))) r3 (cm_I (cm_sI w a0 74 ((3200 : Int32) * (cm_I w a0 73))) a0 73).toNatClampNeg (cm_L (cm_sI w a0 74 ((3200 : Int32) * (cm_I w a0 73))) a0 71)) r7 (0 : Int32).toNatClampNeg (cm_I (cm_sL (cm_sI w a0 74 ((3200 : Int32) * (cm_I w a0 73))) r3 (cm_I (cm_sI w a0 74 ((3200 : Int32) * (cm_I w a0 73))) a0 73).toNatClampNeg (cm_L (cm_sI w a0 74 ((3200 : Int32) * (cm_I w a0 73))) a0 71)) a0 8)) r11 (1 : Int32).toNatClampNeg (cm_I (cm_sI (cm_sL (cm_sI w a0 74 ((3200 : Int32) * (cm_I w a0 73))) r3 (cm_I (cm_sI w a0 74 ((3200 : Int32) * (cm_I w a0 73))) a0 73).toNatClampNeg (cm_L (cm_sI w a0 74 ((3200 : Int32) * (cm_I w a0 73))) a0 71)) r7 (0 : Int32).toNatClampNeg (cm_I (cm_sL (cm_sI w a0 74 ((3200 : Int32) * (cm_I w a0 73))) r3 (cm_I (cm_sI w a0 74 ((3200 : Int32) * (cm_I w a0 73))) a0 73).toNatClampNeg (cm_L (cm_sI w a0 74 ((3200 : Int32) * (cm_I w a0 73))) a0 71)) a0 8)) a0 38)) a0 39)) r19 (3 : Int32).toNatClampNeg (cm_I (cm_sI (cm_sI (cm_sI (cm_sL (cm_sI w a0 74 ((3200 : Int32) * (cm_I w a0 73))) r3 (cm_I (cm_sI w a0 74 ((3200 : Int32) * (cm_I w a0 73))) a0 73).toNatClampNeg (cm_L (cm_sI w a0 74 ((3200 : Int32) * (cm_I w a0 73))) a0 71)) r7 (0 : Int32).toNatClampNeg (cm_I (cm_sL (cm_sI w a0 74 ((3200 : Int32) * (cm_I w a0 73))) r3 (cm_I (cm_sI w a0 74 ((3200 : Int32) * (cm_I w a0 73))) a0 73).toNatClampNeg (cm_L (cm_sI w a0 74 ((3200 : Int32) * (cm_I w a0 73))) a0 71)) a0 8)) r11 (1 : Int32).toNatClampNeg (cm_I (cm_sI (cm_sL (cm_sI w a0 74 ((3200 : Int32) * (cm_I w a0 73))) r3 (cm_I (cm_sI w a0 74 ((3200 : Int32) * (cm_I w a0 73))) a0 73).toNatClampNeg (cm_L (cm_sI w a0 74 ((3200 : Int32) * (cm_I w a0 73))) a0 71)) r7 (0 : Int32).toNatClampNeg (cm_I (cm_sL (cm_sI w a0 74 ((3200 : Int32) * (cm_I w a0 73))) r3 (cm_I (cm_sI w a0 74 ((3200 : Int32) * (cm_I w a0 73))) a0 73).toNatClampNeg (cm_L (cm_sI w a0 74 ((3200 : Int32) * (cm_I w a0 73))) a0 71)) a0 8)) a0 38)) r15 (2 : Int32).toNatClampNeg (cm_I (cm_sI (cm_sI (cm_sL (cm_sI w a0 74 ((3200 : Int32) * (cm_I w a0 73))) r3 (cm_I (cm_sI w a0 74 ((3200 : Int32) * (cm_I w a0 73))) a0 73).toNatClampNeg (cm_L (cm_sI w a0 74 ((3200 : Int32) * (cm_I w a0 73))) a0 71)) r7 (0 : Int32).toNatClampNeg (cm_I (cm_sL (cm_sI w a0 74 ((3200 : Int32) * (cm_I w a0 73))) r3 (cm_I (cm_sI w a0 74 ((3200 : Int32) * (cm_I w a0 73))) a0 73).toNatClampNeg (cm_L (cm_sI w a0 74 ((3200 : Int32) * (cm_I w a0 73))) a0 71)) a0 8)) r11 (1 : Int32).toNatClampNeg (cm_I (cm_sI (cm_sL (cm_sI w a0 74 ((3200 : Int32) * (cm_I w a0 73))) r3 (cm_I (cm_sI w a0 74 ((3200 : Int32) * (cm_I w a0 73))) a0 73).toNatClampNeg (cm_L (cm_sI w a0 74 ((3200 : Int32) * (cm_I w a0 73))) a0 71)) r7 (0 : Int32).toNatClampNeg (cm_I (cm_sL (cm_sI w a0 74 ((3200 : Int32) * (cm_I w a0 73))) r3 (cm_I (cm_sI w a0 74 ((3200 : Int32) * (cm_I w a0 73))) a0 73).toNatClampNeg (cm_L (cm_sI w a0 74 ((3200 : Int32) * (cm_I w a0 73))) a0 71)) a0 8)) a0 38)) a0 39)) a0 51)) a0 58)) a0 76).bind fun r27 => (fn_295 a0 r27 (5 : Int32) (cm_sI (cm_sI (cm_sI (cm_sI (cm_sI (cm_sL (cm_sI w a0 74 ((3200 : Int32) * (cm_I w a0 73))) r3 (cm_I (cm_sI w a0 74 ((3200 : Int32) * (cm_I w a0 73))) a0 73).toNatClampNeg (cm_L (cm_sI w a0 74 ((3200 : Int32) * (cm_I w a0 73))) a0 71)) r7 (0 : Int32).toNatClampNeg (cm_I (cm_sL (cm_sI w a0 74 ((3200 : Int32) * (cm_I w a0 73))) r3 (cm_I (cm_sI w a0 74 ((3200 : Int32) * (cm_I w a0 73))) a0 73).toNatClampNeg (cm_L (cm_sI w a0 74 ((3200 : Int32) * (cm_I w a0 73))) a0 71)) a0 8)) r11 (1 : Int32).toNatClampNeg (cm_I (cm_sI (cm_sL (cm_sI w a0 74 ((3200 : Int32) * (cm_I w a0 73))) r3 (cm_I (cm_sI w a0 74 ((3200 : Int32) * (cm_I w a0 73))) a0 73).toNatClampNeg (cm_L (cm_sI w a0 74 ((3200 : Int32) * (cm_I w a0 73))) a0 71)) r7 (0 : Int32).toNatClampNeg (cm_I (cm_sL (cm_sI w a0 74 ((3200 : Int32) * (cm_I w a0 73))) r3 (cm_I (cm_sI w a0 74 ((3200 : Int32) * (cm_I w a0 73))) a0 73).toNatClampNeg (cm_L (cm_sI w a0 74 ((3200 : Int32) * (cm_I w a0 73))) a0 71)) a0 8)) a0 38)) r15 (2 : Int32).toNatClampNeg (cm_I (cm_sI (cm_sI (cm_sL (cm_sI w a0 74 ((3200 : Int32) * (cm_I w a0 73))) r3 (cm_I (cm_sI w a0 74 ((3200 : Int32) * (cm_I w a0 73))) a0 73).toNatClampNeg (cm_L (cm_sI w a0 74 ((3200 : Int32) * (cm_I w a0 73))) a0 71)) r7 (0 : Int32).toNatClampNeg (cm_I (cm_sL (cm_sI w a0 74 ((3200 : Int32) * (cm_I w a0 73))) r3 (cm_I (cm_sI w a0 74 ((3200 : Int32) * (cm_I w a0 73))) a0 73).toNatClampNeg (cm_L (cm_sI w a0 74 ((3200 : Int32) * (cm_I w a0 73))) a0 71)) a0 8)) r11 (1 : Int32).toNatClampNeg (cm_I (cm_sI (cm_sL (cm_sI w a0 74 ((3200 : Int32) * (cm_I w a0 73))) r3 (cm_I (cm_sI w a0 74 ((3200 : Int32) * (cm_I w a0 73))) a0 73).toNatClampNeg (cm_L (cm_sI w a0 74 ((3200 : Int32) * (cm_I w a0 73))) a0 71)) r7 (0 : Int32).toNatClampNeg (cm_I (cm_sL (cm_sI w a0 74 ((3200 : Int32) * (cm_I w a0 73))) r3 (cm_I (cm_sI w a0 74 ((3200 : Int32) * (cm_I w a0 73))) a0 73).toNatClampNeg (cm_L (cm_sI w a0 74 ((3200 : Int32) * (cm_I w a0 73))) a0 71)) a0 8)) a0 38)) a0 39)) r19 (3 : Int32).toNatClampNeg (cm_I (cm_sI (cm_sI (cm_sI (cm_sL (cm_sI w a0 74 ((3200 : Int32) * (cm_I w a0 73))) r3 (cm_I (cm_sI w a0 74 ((3200 : Int32) * (cm_I w a0 73))) a0 73).toNatClampNeg (cm_L (cm_sI w a0 74 ((3200 : Int32) * (cm_I w a0 73))) a0 71)) r7 (0 : Int32).toNatClampNeg (cm_I (cm_sL (cm_sI w a0 74 ((3200 : Int32) * (cm_I w a0 73))) r3 (cm_I (cm_sI w a0 74 ((3200 : Int32) * (cm_I w a0 73))) a0 73).toNatClampNeg (cm_L (cm_sI w a0 74 ((3200 : Int32) * (cm_I w a0 73))) a0 71)) a0 8)) r11 (1 : Int32).toNatClampNeg (cm_I (cm_sI (cm_sL (cm_sI w a0 74 ((3200 : Int32) * (cm_I w a0 73))) r3 (cm_I (cm_sI w a0 74 ((3200 : Int32) * (cm_I w a0 73))) a0 73).toNatClampNeg (cm_L (cm_sI w a0 74 ((3200 : Int32) * (cm_I w a0 73))) a0 71)) r7 (0 : Int32).toNatClampNeg (cm_I (cm_sL (cm_sI w a0 74 ((3200 : Int32) * (cm_I w a0 73))) r3 (cm_I (cm_sI w a0 74 ((3200 : Int32) * (cm_I w a0 73))) a0 73).toNatClampNeg (cm_L (cm_sI w a0 74 ((3200 : Int32) * (cm_I w a0 73))) a0 71)) a0 8)) a0 38)) r15 (2 : Int32).toNatClampNeg (cm_I (cm_sI (cm_sI (cm_sL (cm_sI w a0 74 ((3200 : Int32) * (cm_I w a0 73))) r3 (cm_I (cm_sI w a0 74 ((3200 : Int32) * (cm_I w a0 73))) a0 73).toNatClampNeg (cm_L (cm_sI w a0 74 ((3200 : Int32) * (cm_I w a0 73))) a0 71)) r7 (0 : Int32).toNatClampNeg (cm_I (cm_sL (cm_sI w a0 74 ((3200 : Int32) * (cm_I w a0 73))) r3 (cm_I (cm_sI w a0 74 ((3200 : Int32) * (cm_I w a0 73))) a0 73).toNatClampNeg (cm_L (cm_sI w a0 74 ((3200 : Int32) * (cm_I w a0 73))) a0 71)) a0 8)) r11 (1 : Int32).toNatClampNeg (cm_I (cm_sI (cm_sL (cm_sI w a0 74 ((3200 : Int32) * (cm_I w a0 73))) r3 (cm_I (cm_sI w a0 74 ((3200 : Int32) * (cm_I w a0 73))) a0 73).toNatClampNeg (cm_L (cm_sI w a0 74 ((3200 : Int32) * (cm_I w a0 73))) a0 71)) r7 (0 : Int32).toNatClampNeg (cm_I (cm_sL (cm_sI w a0 74 ((3200 : Int32) * (cm_I w a0 73))) r3 (cm_I (cm_sI w a0 74 ((3200 : Int32) * (cm_I w a0 73))) a0 73).toNatClampNeg (cm_L (cm_sI w a0 74 ((3200 : Int32) * (cm_I w a0 73))) a0 71)) a0 8)) a0 38)) a0 39)) a0 51)) r23 (4 : Int32).toNatClampNeg (cm_I (cm_sI (cm_sI (cm_sI (cm_sI (cm_sL (cm_sI w a0 74 ((3200 : Int32) * (cm_I w a0 73))) r3 (cm_I (cm_sI w a0 74 ((3200 : Int32) * (cm_I w a0 73))) a0 73).toNatClampNeg (cm_L (cm_sI w a0 74 ((3200 : Int32) * (cm_I w a0 73))) a0 71)) r7 (0 : Int32).toNatClampNeg (cm_I (cm_sL (cm_sI w a0 74 ((3200 : Int32) * (cm_I w a0 73))) r3 (cm_I (cm_sI w a0 74 ((3200 : Int32) * (cm_I w a0 73))) a0 73).toNatClampNeg (cm_L (cm_sI w a0 74 ((3200 : Int32) * (cm_I w a0 73))) a0 71)) a0 8)) r11 (1 : Int32).toNatClampNeg (cm_I (cm_sI (cm_sL (cm_sI w a0 74 ((3200 : Int32) * (cm_I w a0 73))) r3 (cm_I (cm_sI w a0 74 ((3200 : Int32) * (cm_I w a0 73))) a0 73).toNatClampNeg (cm_L (cm_sI w a0 74 ((3200 : Int32) * (cm_I w a0 73))) a0 71)) r7 (0 : Int32).toNatClampNeg (cm_I (cm_sL (cm_sI w a0 74 ((3200 : Int32) * (cm_I w a0 73))) r3 (cm_I (cm_sI w a0 74 ((3200 : Int32) * (cm_I w a0 73))) a0 73).toNatClampNeg (cm_L (cm_sI w a0 74 ((3200 : Int32) * (cm_I w a0 73))) a0 71)) a0 8)) a0 38)) r15 (2 : Int32).toNatClampNeg (cm_I (cm_sI (cm_sI (cm_sL (cm_sI w a0 74 ((3200 : Int32) * (cm_I w a0 73))) r3 (cm_I (cm_sI w a0 74 ((3200 : Int32) * (cm_I w a0 73))) a0 73).toNatClampNeg (cm_L (cm_sI w a0 74 ((3200 : Int32) * (cm_I w a0 73))) a0 71)) r7 (0 : Int32).toNatClampNeg (cm_I (cm_sL (cm_sI w a0 74 ((3200 : Int32) * (cm_I w a0 73))) r3 (cm_I (cm_sI w a0 74 ((3200 : Int32) * (cm_I w a0 73))) a0 73).toNatClampNeg (cm_L (cm_sI w a0 74 ((3200 : Int32) * (cm_I w a0 73))) a0 71)) a0 8)) r11 (1 : Int32).toNatClampNeg (cm_I (cm_sI (cm_sL (cm_sI w a0 74 ((3200 : Int32) * (cm_I w a0 73))) r3 (cm_I (cm_sI w a0 74 ((3200 : Int32) * (cm_I w a0 73))) a0 73).toNatClampNeg (cm_L (cm_sI w a0 74 ((3200 : Int32) * (cm_I w a0 73))) a0 71)) r7 (0 : Int32).toNatClampNeg (cm_I (cm_sL (cm_sI w a0 74 ((3200 : Int32) * (cm_I w a0 73))) r3 (cm_I (cm_sI w a0 74 ((3200 : Int32) * (cm_I w a0 73))) a0 73).toNatClampNeg (cm_L (cm_sI w a0 74 ((3200 : Int32) * (cm_I w a0 73))) a0 71)) a0 8)) a0 38)) a0 39)) r19 (3 : Int32).toNatClampNeg (cm_I (cm_sI (cm_sI (cm_sI (cm_sL (cm_sI w a0 74 ((3200 : Int32) * (cm_I w a0 73))) r3 (cm_I (cm_sI w a0 74 ((3200 : Int32) * (cm_I w a0 73))) a0 73).toNatClampNeg (cm_L (cm_sI w a0 74 ((3200 : Int32) * (cm_I w a0 73))) a0 71)) r7 (0 : Int32).toNatClampNeg (cm_I (cm_sL (cm_sI w a0 74 ((3200 : Int32) * (cm_I w a0 73))) r3 (cm_I (cm_sI w a0 74 ((3200 : Int32) * (cm_I w a0 73))) a0 73).toNatClampNeg (cm_L (cm_sI w a0 74 ((3200 : Int32) * (cm_I w a0 73))) a0 71)) a0 8)) r11 (1 : Int32).toNatClampNeg (cm_I (cm_sI (cm_sL (cm_sI w a0 74 ((3200 : Int32) * (cm_I w a0 73))) r3 (cm_I (cm_sI w a0 74 ((3200 : Int32) * (cm_I w a0 73))) a0 73).toNatClampNeg (cm_L (cm_sI w a0 74 ((3200 : Int32) * (cm_I w a0 73))) a0 71)) r7 (0 : Int32).toNatClampNeg (cm_I (cm_sL (cm_sI w a0 74 ((3200 : Int32) * (cm_I w a0 73))) r3 (cm_I (cm_sI w a0 74 ((3200 : Int32) * (cm_I w a0 73))) a0 73).toNatClampNeg (cm_L (cm_sI w a0 74 ((3200 : Int32) * (cm_I w a0 73))) a0 71)) a0 8)) a0 38)) r15 (2 : Int32).toNatClampNeg (cm_I (cm_sI (cm_sI (cm_sL (cm_sI w a0 74 ((3200 : Int32) * (cm_I w a0 73))) r3 (cm_I (cm_sI w a0 74 ((3200 : Int32) * (cm_I w a0 73))) a0 73).toNatClampNeg (cm_L (cm_sI w a0 74 ((3200 : Int32) * (cm_I w a0 73))) a0 71)) r7 (0 : Int32).toNatClampNeg (cm_I (cm_sL (cm_sI w a0 74 ((3200 : Int32) * (cm_I w a0 73))) r3 (cm_I (cm_sI w a0 74 ((3200 : Int32) * (cm_I w a0 73))) a0 73).toNatClampNeg (cm_L (cm_sI w a0 74 ((3200 : Int32) * (cm_I w a0 73))) a0 71)) a0 8)) r11 (1 : Int32).toNatClampNeg (cm_I (cm_sI (cm_sL (cm_sI w a0 74 ((3200 : Int32) * (cm_I w a0 73))) r3 (cm_I (cm_sI w a0 74 ((3200 : Int32) * (cm_I w a0 73))) a0 73).toNatClampNeg (cm_L (cm_sI w a0 74 ((3200 : Int32) * (cm_I w a0 73))) a0 71)) r7 (0 : Int32).toNatClampNeg (cm_I (cm_sL (cm_sI w a0 74 ((3200 : Int32) * (cm_I w a0 73))) r3 (cm_I (cm_sI w a0 74 ((3200 : Int32) * (cm_I w a0 73))) a0 73).toNatClampNeg (cm_L (cm_sI w a0 74 ((3200 : Int32) * (cm_I w a0 73))) a0 71)) a0 8)) a0 38)) a0 39)) a0 51)) a0 58))).bind fun w29 => (if cm_sh w29 a0 = some (.inl 11) then (cm_R w29 a0 27).bind fun r32 => (fn_295 a0 r32 (12 : Int32) w29).bind fun w34 => (if cm_sh w34 a0 = some (.inl 11) then (cm_R w34 a0 40).bind fun r37 => (fn_295 a0 r37 (40 : Int32) w34).bind fun w39 => (if cm_sh w39 a0 = some (.inl 11) then (cm_R w39 a0 41).bind fun r42 => (fn_295 a0 r42 (40 : Int32) w39).bind fun w44 => (if cm_sh w44 a0 = some (.inl 11) then (cm_R w44 a0 42).bind fun r47 => (fn_295 a0 r47 (40 : Int32) w44).bind fun w49 => (if cm_sh w49 a0 = some (.inl 11) then (cm_R w49 a0 43).bind fun r52 => (fn_295 a0 r52 (40 : Int32) w49).bind fun w54 => (if cm_sh w54 a0 = some (.inl 11) then (cm_R w54 a0 44).bind fun r57 => (fn_295 a0 r57 (40 : Int32) w54).bind fun w59 => (if cm_sh w59 a0 = some (.inl 11) then (cm_R w59 a0 45).bind fun r62 => (fn_295 a0 r62 (40 : Int32) w59).bind fun w64 => (if cm_sh w64 a0 = some (.inl 11) then (cm_R w64 a0 46).bind fun r67 => (fn_295 a0 r67 (40 : Int32) w64).bind fun w69 => (if cm_sh w69 a0 = some (.inl 11) then (cm_R w69 a0 47).bind fun r72 => (fn_295 a0 r72 (480 : Int32) w69).bind fun w74 => (if cm_sh w74 a0 = some (.inl 11) then (cm_R w74 a0 48).bind fun r77 => (fn_295 a0 r77 (2100 : Int32) w74).bind fun w79 => (if cm_sh w79 a0 = some (.inl 11) then (cm_R w79 a0 52).bind fun r82 => (fn_295 a0 r82 (20 : Int32) w79).bind fun w84 => (if cm_sh w84 a0 = some (.inl 11) then (cm_R w84 a0 53).bind fun r87 => (fn_295 a0 r87 (20 : Int32) w84).bind fun w89 => (if cm_sh w89 a0 = some (.inl 11) then (cm_R w89 a0 54).bind fun r92 => (fn_295 a0 r92 (20 : Int32) w89).bind fun w94 => (if cm_sh w94 a0 = some (.inl 11) then (cm_R w94 a0 55).bind fun r97 => (fn_295 a0 r97 (20 : Int32) w94).bind fun w99 => (if cm_sh w99 a0 = some (.inl 11) then (cm_R w99 a0 56).bind fun r102 => (fn_295 a0 r102 (20 : Int32) w99).bind fun w104 => (if cm_sh w104 a0 = some (.inl 11) then (cm_R w104 a0 57).bind fun r107 => (fn_295 a0 r107 (20 : Int32) w104).bind fun w109 => (if cm_sh w109 a0 = some (.inl 11) then (cm_R w109 a0 59).bind fun r112 => (fn_295 a0 r112 (40 : Int32) w109).bind fun w114 => (if cm_sh w114 a0 = some (.inl 11) then (cm_R w114 a0 60).bind fun r117 => (fn_295 a0 r117 (40 : Int32) w114).bind fun w119 => (if cm_sh w119 a0 = some (.inl 11) then (cm_R w119 a0 61).bind fun r122 => (fn_295 a0 r122 (40 : Int32) w119).bind fun w124 => (if cm_sh w124 a0 = some (.inl 11) then (cm_R w124 a0 62).bind fun r127 => (fn_295 a0 r127 (40 : Int32) w124).bind fun w129 => (if cm_sh w129 a0 = some (.inl 11) then (if cm_w2 96 143 a0 = true then some (((cm_I (cm_sI w129 a0 73 ((cm_I w129 a0 73) + (1 : Int32))) a0 73) - (1 : Int32)), (cm_sI w129 a0 73 ((cm_I w129 a0 73) + (1 : Int32)))) else none) else none) else none) else none) else none) else none) else none) else none) else none) else none) else none) else none) else none) else none) else none) else none) else none) else none) else none) else none) else none) else none) else none) else none) else none) else none) else none) else none) else none) else none) else none) else none) else none) else none) else none) else none)
theorem jt_297_15 (a0 : Nat) (w : cm_W) : sm cm_g 297 ck_297 kq_297 15 [(0, .ref a0)] [] w ((fn_297_15 a0 w).map cm_gI) := by
  unfold fn_297_15
  refine sm_seg 3 20 [(0, .ref a0)] [.ref a0, .int (3200 : Int32), .ref a0] rfl ?_
  refine sm_gd fun h1 => ?_
  refine sm_gI rfl h1 rfl ?_
  show sm _ _ _ _ 23 [(0, .ref a0)] [.int (cm_I w a0 73), .int (3200 : Int32), .ref a0] _ _
  refine sm_seg 1 24 [(0, .ref a0)] [.int ((3200 : Int32) * (cm_I w a0 73)), .ref a0] rfl ?_
  refine sm_gd fun h2 => ?_
  refine sm_pI rfl h1 rfl h2 rfl ?_
  show sm _ _ _ _ 27 [(0, .ref a0)] [] _ _
  refine sm_seg 1 28 [(0, .ref a0)] [.ref a0] rfl ?_
  refine sm_gR rfl h1 rfl rfl fun r3 h4 => ?_
  show sm _ _ _ _ 31 [(0, .ref a0)] [.ref r3] _ _
  refine sm_seg 1 32 [(0, .ref a0)] [.ref a0, .ref r3] rfl ?_
  refine sm_gI rfl h1 rfl ?_
  show sm _ _ _ _ 35 [(0, .ref a0)] [.int (cm_I (cm_sI w a0 74 ((3200 : Int32) * (cm_I w a0 73))) a0 73), .ref r3] _ _
  refine sm_seg 1 36 [(0, .ref a0)] [.ref a0, .int (cm_I (cm_sI w a0 74 ((3200 : Int32) * (cm_I w a0 73))) a0 73), .ref r3] rfl ?_
  refine sm_gL rfl h1 rfl ?_
  show sm _ _ _ _ 39 [(0, .ref a0)] [.long (cm_L (cm_sI w a0 74 ((3200 : Int32) * (cm_I w a0 73))) a0 71), .int (cm_I (cm_sI w a0 74 ((3200 : Int32) * (cm_I w a0 73))) a0 73), .ref r3] _ _
  refine sm_gd fun h5 => ?_
  refine sm_gd fun h6 => ?_
  refine sm_sl rfl h5 h6 rfl rfl ?_
  show sm _ _ _ _ 40 [(0, .ref a0)] [] _ _
  refine sm_seg 1 41 [(0, .ref a0)] [.ref a0] rfl ?_
  refine sm_gR rfl h1 rfl rfl fun r7 h8 => ?_
  show sm _ _ _ _ 44 [(0, .ref a0)] [.ref r7] _ _
  refine sm_seg 2 46 [(0, .ref a0)] [.ref a0, .int (0 : Int32), .ref r7] rfl ?_
  refine sm_gI rfl h1 rfl ?_
  show sm _ _ _ _ 49 [(0, .ref a0)] [.int (cm_I (cm_sL (cm_sI w a0 74 ((3200 : Int32) * (cm_I w a0 73))) r3 (cm_I (cm_sI w a0 74 ((3200 : Int32) * (cm_I w a0 73))) a0 73).toNatClampNeg (cm_L (cm_sI w a0 74 ((3200 : Int32) * (cm_I w a0 73))) a0 71)) a0 8), .int (0 : Int32), .ref r7] _ _
  refine sm_gd fun h9 => ?_
  refine sm_gd fun h10 => ?_
  refine sm_si rfl h9 h10 rfl rfl ?_
  show sm _ _ _ _ 50 [(0, .ref a0)] [] _ _
  refine sm_seg 1 51 [(0, .ref a0)] [.ref a0] rfl ?_
  refine sm_gR rfl h1 rfl rfl fun r11 h12 => ?_
  show sm _ _ _ _ 54 [(0, .ref a0)] [.ref r11] _ _
  refine sm_seg 2 56 [(0, .ref a0)] [.ref a0, .int (1 : Int32), .ref r11] rfl ?_
  refine sm_gI rfl h1 rfl ?_
  show sm _ _ _ _ 59 [(0, .ref a0)] [.int (cm_I (cm_sI (cm_sL (cm_sI w a0 74 ((3200 : Int32) * (cm_I w a0 73))) r3 (cm_I (cm_sI w a0 74 ((3200 : Int32) * (cm_I w a0 73))) a0 73).toNatClampNeg (cm_L (cm_sI w a0 74 ((3200 : Int32) * (cm_I w a0 73))) a0 71)) r7 (0 : Int32).toNatClampNeg (cm_I (cm_sL (cm_sI w a0 74 ((3200 : Int32) * (cm_I w a0 73))) r3 (cm_I (cm_sI w a0 74 ((3200 : Int32) * (cm_I w a0 73))) a0 73).toNatClampNeg (cm_L (cm_sI w a0 74 ((3200 : Int32) * (cm_I w a0 73))) a0 71)) a0 8)) a0 38), .int (1 : Int32), .ref r11] _ _
  refine sm_gd fun h13 => ?_
  refine sm_gd fun h14 => ?_
  refine sm_si rfl h13 h14 rfl rfl ?_
  show sm _ _ _ _ 60 [(0, .ref a0)] [] _ _
  refine sm_seg 1 61 [(0, .ref a0)] [.ref a0] rfl ?_
  refine sm_gR rfl h1 rfl rfl fun r15 h16 => ?_
  show sm _ _ _ _ 64 [(0, .ref a0)] [.ref r15] _ _
  refine sm_seg 2 66 [(0, .ref a0)] [.ref a0, .int (2 : Int32), .ref r15] rfl ?_
  refine sm_gI rfl h1 rfl ?_
  show sm _ _ _ _ 69 [(0, .ref a0)] [.int (cm_I (cm_sI (cm_sI (cm_sL (cm_sI w a0 74 ((3200 : Int32) * (cm_I w a0 73))) r3 (cm_I (cm_sI w a0 74 ((3200 : Int32) * (cm_I w a0 73))) a0 73).toNatClampNeg (cm_L (cm_sI w a0 74 ((3200 : Int32) * (cm_I w a0 73))) a0 71)) r7 (0 : Int32).toNatClampNeg (cm_I (cm_sL (cm_sI w a0 74 ((3200 : Int32) * (cm_I w a0 73))) r3 (cm_I (cm_sI w a0 74 ((3200 : Int32) * (cm_I w a0 73))) a0 73).toNatClampNeg (cm_L (cm_sI w a0 74 ((3200 : Int32) * (cm_I w a0 73))) a0 71)) a0 8)) r11 (1 : Int32).toNatClampNeg (cm_I (cm_sI (cm_sL (cm_sI w a0 74 ((3200 : Int32) * (cm_I w a0 73))) r3 (cm_I (cm_sI w a0 74 ((3200 : Int32) * (cm_I w a0 73))) a0 73).toNatClampNeg (cm_L (cm_sI w a0 74 ((3200 : Int32) * (cm_I w a0 73))) a0 71)) r7 (0 : Int32).toNatClampNeg (cm_I (cm_sL (cm_sI w a0 74 ((3200 : Int32) * (cm_I w a0 73))) r3 (cm_I (cm_sI w a0 74 ((3200 : Int32) * (cm_I w a0 73))) a0 73).toNatClampNeg (cm_L (cm_sI w a0 74 ((3200 : Int32) * (cm_I w a0 73))) a0 71)) a0 8)) a0 38)) a0 39), .int (2 : Int32), .ref r15] _ _
  refine sm_gd fun h17 => ?_
  refine sm_gd fun h18 => ?_
  refine sm_si rfl h17 h18 rfl rfl ?_
  show sm _ _ _ _ 70 [(0, .ref a0)] [] _ _
  refine sm_seg 1 71 [(0, .ref a0)] [.ref a0] rfl ?_
  refine sm_gR rfl h1 rfl rfl fun r19 h20 => ?_
  show sm _ _ _ _ 74 [(0, .ref a0)] [.ref r19] _ _
  refine sm_seg 2 76 [(0, .ref a0)] [.ref a0, .int (3 : Int32), .ref r19] rfl ?_
  refine sm_gI rfl h1 rfl ?_
  show sm _ _ _ _ 79 [(0, .ref a0)] [.int (cm_I (cm_sI (cm_sI (cm_sI (cm_sL (cm_sI w a0 74 ((3200 : Int32) * (cm_I w a0 73))) r3 (cm_I (cm_sI w a0 74 ((3200 : Int32) * (cm_I w a0 73))) a0 73).toNatClampNeg (cm_L (cm_sI w a0 74 ((3200 : Int32) * (cm_I w a0 73))) a0 71)) r7 (0 : Int32).toNatClampNeg (cm_I (cm_sL (cm_sI w a0 74 ((3200 : Int32) * (cm_I w a0 73))) r3 (cm_I (cm_sI w a0 74 ((3200 : Int32) * (cm_I w a0 73))) a0 73).toNatClampNeg (cm_L (cm_sI w a0 74 ((3200 : Int32) * (cm_I w a0 73))) a0 71)) a0 8)) r11 (1 : Int32).toNatClampNeg (cm_I (cm_sI (cm_sL (cm_sI w a0 74 ((3200 : Int32) * (cm_I w a0 73))) r3 (cm_I (cm_sI w a0 74 ((3200 : Int32) * (cm_I w a0 73))) a0 73).toNatClampNeg (cm_L (cm_sI w a0 74 ((3200 : Int32) * (cm_I w a0 73))) a0 71)) r7 (0 : Int32).toNatClampNeg (cm_I (cm_sL (cm_sI w a0 74 ((3200 : Int32) * (cm_I w a0 73))) r3 (cm_I (cm_sI w a0 74 ((3200 : Int32) * (cm_I w a0 73))) a0 73).toNatClampNeg (cm_L (cm_sI w a0 74 ((3200 : Int32) * (cm_I w a0 73))) a0 71)) a0 8)) a0 38)) r15 (2 : Int32).toNatClampNeg (cm_I (cm_sI (cm_sI (cm_sL (cm_sI w a0 74 ((3200 : Int32) * (cm_I w a0 73))) r3 (cm_I (cm_sI w a0 74 ((3200 : Int32) * (cm_I w a0 73))) a0 73).toNatClampNeg (cm_L (cm_sI w a0 74 ((3200 : Int32) * (cm_I w a0 73))) a0 71)) r7 (0 : Int32).toNatClampNeg (cm_I (cm_sL (cm_sI w a0 74 ((3200 : Int32) * (cm_I w a0 73))) r3 (cm_I (cm_sI w a0 74 ((3200 : Int32) * (cm_I w a0 73))) a0 73).toNatClampNeg (cm_L (cm_sI w a0 74 ((3200 : Int32) * (cm_I w a0 73))) a0 71)) a0 8)) r11 (1 : Int32).toNatClampNeg (cm_I (cm_sI (cm_sL (cm_sI w a0 74 ((3200 : Int32) * (cm_I w a0 73))) r3 (cm_I (cm_sI w a0 74 ((3200 : Int32) * (cm_I w a0 73))) a0 73).toNatClampNeg (cm_L (cm_sI w a0 74 ((3200 : Int32) * (cm_I w a0 73))) a0 71)) r7 (0 : Int32).toNatClampNeg (cm_I (cm_sL (cm_sI w a0 74 ((3200 : Int32) * (cm_I w a0 73))) r3 (cm_I (cm_sI w a0 74 ((3200 : Int32) * (cm_I w a0 73))) a0 73).toNatClampNeg (cm_L (cm_sI w a0 74 ((3200 : Int32) * (cm_I w a0 73))) a0 71)) a0 8)) a0 38)) a0 39)) a0 51), .int (3 : Int32), .ref r19] _ _
  refine sm_gd fun h21 => ?_
  refine sm_gd fun h22 => ?_
  refine sm_si rfl h21 h22 rfl rfl ?_
  show sm _ _ _ _ 80 [(0, .ref a0)] [] _ _
  refine sm_seg 1 81 [(0, .ref a0)] [.ref a0] rfl ?_
  refine sm_gR rfl h1 rfl rfl fun r23 h24 => ?_
  show sm _ _ _ _ 84 [(0, .ref a0)] [.ref r23] _ _
  refine sm_seg 2 86 [(0, .ref a0)] [.ref a0, .int (4 : Int32), .ref r23] rfl ?_
  refine sm_gI rfl h1 rfl ?_
  show sm _ _ _ _ 89 [(0, .ref a0)] [.int (cm_I (cm_sI (cm_sI (cm_sI (cm_sI (cm_sL (cm_sI w a0 74 ((3200 : Int32) * (cm_I w a0 73))) r3 (cm_I (cm_sI w a0 74 ((3200 : Int32) * (cm_I w a0 73))) a0 73).toNatClampNeg (cm_L (cm_sI w a0 74 ((3200 : Int32) * (cm_I w a0 73))) a0 71)) r7 (0 : Int32).toNatClampNeg (cm_I (cm_sL (cm_sI w a0 74 ((3200 : Int32) * (cm_I w a0 73))) r3 (cm_I (cm_sI w a0 74 ((3200 : Int32) * (cm_I w a0 73))) a0 73).toNatClampNeg (cm_L (cm_sI w a0 74 ((3200 : Int32) * (cm_I w a0 73))) a0 71)) a0 8)) r11 (1 : Int32).toNatClampNeg (cm_I (cm_sI (cm_sL (cm_sI w a0 74 ((3200 : Int32) * (cm_I w a0 73))) r3 (cm_I (cm_sI w a0 74 ((3200 : Int32) * (cm_I w a0 73))) a0 73).toNatClampNeg (cm_L (cm_sI w a0 74 ((3200 : Int32) * (cm_I w a0 73))) a0 71)) r7 (0 : Int32).toNatClampNeg (cm_I (cm_sL (cm_sI w a0 74 ((3200 : Int32) * (cm_I w a0 73))) r3 (cm_I (cm_sI w a0 74 ((3200 : Int32) * (cm_I w a0 73))) a0 73).toNatClampNeg (cm_L (cm_sI w a0 74 ((3200 : Int32) * (cm_I w a0 73))) a0 71)) a0 8)) a0 38)) r15 (2 : Int32).toNatClampNeg (cm_I (cm_sI (cm_sI (cm_sL (cm_sI w a0 74 ((3200 : Int32) * (cm_I w a0 73))) r3 (cm_I (cm_sI w a0 74 ((3200 : Int32) * (cm_I w a0 73))) a0 73).toNatClampNeg (cm_L (cm_sI w a0 74 ((3200 : Int32) * (cm_I w a0 73))) a0 71)) r7 (0 : Int32).toNatClampNeg (cm_I (cm_sL (cm_sI w a0 74 ((3200 : Int32) * (cm_I w a0 73))) r3 (cm_I (cm_sI w a0 74 ((3200 : Int32) * (cm_I w a0 73))) a0 73).toNatClampNeg (cm_L (cm_sI w a0 74 ((3200 : Int32) * (cm_I w a0 73))) a0 71)) a0 8)) r11 (1 : Int32).toNatClampNeg (cm_I (cm_sI (cm_sL (cm_sI w a0 74 ((3200 : Int32) * (cm_I w a0 73))) r3 (cm_I (cm_sI w a0 74 ((3200 : Int32) * (cm_I w a0 73))) a0 73).toNatClampNeg (cm_L (cm_sI w a0 74 ((3200 : Int32) * (cm_I w a0 73))) a0 71)) r7 (0 : Int32).toNatClampNeg (cm_I (cm_sL (cm_sI w a0 74 ((3200 : Int32) * (cm_I w a0 73))) r3 (cm_I (cm_sI w a0 74 ((3200 : Int32) * (cm_I w a0 73))) a0 73).toNatClampNeg (cm_L (cm_sI w a0 74 ((3200 : Int32) * (cm_I w a0 73))) a0 71)) a0 8)) a0 38)) a0 39)) r19 (3 : Int32).toNatClampNeg (cm_I (cm_sI (cm_sI (cm_sI (cm_sL (cm_sI w a0 74 ((3200 : Int32) * (cm_I w a0 73))) r3 (cm_I (cm_sI w a0 74 ((3200 : Int32) * (cm_I w a0 73))) a0 73).toNatClampNeg (cm_L (cm_sI w a0 74 ((3200 : Int32) * (cm_I w a0 73))) a0 71)) r7 (0 : Int32).toNatClampNeg (cm_I (cm_sL (cm_sI w a0 74 ((3200 : Int32) * (cm_I w a0 73))) r3 (cm_I (cm_sI w a0 74 ((3200 : Int32) * (cm_I w a0 73))) a0 73).toNatClampNeg (cm_L (cm_sI w a0 74 ((3200 : Int32) * (cm_I w a0 73))) a0 71)) a0 8)) r11 (1 : Int32).toNatClampNeg (cm_I (cm_sI (cm_sL (cm_sI w a0 74 ((3200 : Int32) * (cm_I w a0 73))) r3 (cm_I (cm_sI w a0 74 ((3200 : Int32) * (cm_I w a0 73))) a0 73).toNatClampNeg (cm_L (cm_sI w a0 74 ((3200 : Int32) * (cm_I w a0 73))) a0 71)) r7 (0 : Int32).toNatClampNeg (cm_I (cm_sL (cm_sI w a0 74 ((3200 : Int32) * (cm_I w a0 73))) r3 (cm_I (cm_sI w a0 74 ((3200 : Int32) * (cm_I w a0 73))) a0 73).toNatClampNeg (cm_L (cm_sI w a0 74 ((3200 : Int32) * (cm_I w a0 73))) a0 71)) a0 8)) a0 38)) r15 (2 : Int32).toNatClampNeg (cm_I (cm_sI (cm_sI (cm_sL (cm_sI w a0 74 ((3200 : Int32) * (cm_I w a0 73))) r3 (cm_I (cm_sI w a0 74 ((3200 : Int32) * (cm_I w a0 73))) a0 73).toNatClampNeg (cm_L (cm_sI w a0 74 ((3200 : Int32) * (cm_I w a0 73))) a0 71)) r7 (0 : Int32).toNatClampNeg (cm_I (cm_sL (cm_sI w a0 74 ((3200 : Int32) * (cm_I w a0 73))) r3 (cm_I (cm_sI w a0 74 ((3200 : Int32) * (cm_I w a0 73))) a0 73).toNatClampNeg (cm_L (cm_sI w a0 74 ((3200 : Int32) * (cm_I w a0 73))) a0 71)) a0 8)) r11 (1 : Int32).toNatClampNeg (cm_I (cm_sI (cm_sL (cm_sI w a0 74 ((3200 : Int32) * (cm_I w a0 73))) r3 (cm_I (cm_sI w a0 74 ((3200 : Int32) * (cm_I w a0 73))) a0 73).toNatClampNeg (cm_L (cm_sI w a0 74 ((3200 : Int32) * (cm_I w a0 73))) a0 71)) r7 (0 : Int32).toNatClampNeg (cm_I (cm_sL (cm_sI w a0 74 ((3200 : Int32) * (cm_I w a0 73))) r3 (cm_I (cm_sI w a0 74 ((3200 : Int32) * (cm_I w a0 73))) a0 73).toNatClampNeg (cm_L (cm_sI w a0 74 ((3200 : Int32) * (cm_I w a0 73))) a0 71)) a0 8)) a0 38)) a0 39)) a0 51)) a0 58), .int (4 : Int32), .ref r23] _ _
  refine sm_gd fun h25 => ?_
  refine sm_gd fun h26 => ?_
  refine sm_si rfl h25 h26 rfl rfl ?_
  show sm _ _ _ _ 90 [(0, .ref a0)] [] _ _
  refine sm_seg 2 92 [(0, .ref a0)] [.ref a0, .ref a0] rfl ?_
  refine sm_gR rfl h1 rfl rfl fun r27 h28 => ?_
  show sm _ _ _ _ 95 [(0, .ref a0)] [.ref r27, .ref a0] _ _
  refine sm_seg 1 96 [(0, .ref a0)] [.int (5 : Int32), .ref r27, .ref a0] rfl ?_
  refine sm_cV (as := [.ref r27, .int (5 : Int32)]) (rest := []) rfl rfl rfl rfl h1 (Nat.le_of_ble_eq_true rfl) (ca_295  a0 r27 (5 : Int32) (cm_sI (cm_sI (cm_sI (cm_sI (cm_sI (cm_sL (cm_sI w a0 74 ((3200 : Int32) * (cm_I w a0 73))) r3 (cm_I (cm_sI w a0 74 ((3200 : Int32) * (cm_I w a0 73))) a0 73).toNatClampNeg (cm_L (cm_sI w a0 74 ((3200 : Int32) * (cm_I w a0 73))) a0 71)) r7 (0 : Int32).toNatClampNeg (cm_I (cm_sL (cm_sI w a0 74 ((3200 : Int32) * (cm_I w a0 73))) r3 (cm_I (cm_sI w a0 74 ((3200 : Int32) * (cm_I w a0 73))) a0 73).toNatClampNeg (cm_L (cm_sI w a0 74 ((3200 : Int32) * (cm_I w a0 73))) a0 71)) a0 8)) r11 (1 : Int32).toNatClampNeg (cm_I (cm_sI (cm_sL (cm_sI w a0 74 ((3200 : Int32) * (cm_I w a0 73))) r3 (cm_I (cm_sI w a0 74 ((3200 : Int32) * (cm_I w a0 73))) a0 73).toNatClampNeg (cm_L (cm_sI w a0 74 ((3200 : Int32) * (cm_I w a0 73))) a0 71)) r7 (0 : Int32).toNatClampNeg (cm_I (cm_sL (cm_sI w a0 74 ((3200 : Int32) * (cm_I w a0 73))) r3 (cm_I (cm_sI w a0 74 ((3200 : Int32) * (cm_I w a0 73))) a0 73).toNatClampNeg (cm_L (cm_sI w a0 74 ((3200 : Int32) * (cm_I w a0 73))) a0 71)) a0 8)) a0 38)) r15 (2 : Int32).toNatClampNeg (cm_I (cm_sI (cm_sI (cm_sL (cm_sI w a0 74 ((3200 : Int32) * (cm_I w a0 73))) r3 (cm_I (cm_sI w a0 74 ((3200 : Int32) * (cm_I w a0 73))) a0 73).toNatClampNeg (cm_L (cm_sI w a0 74 ((3200 : Int32) * (cm_I w a0 73))) a0 71)) r7 (0 : Int32).toNatClampNeg (cm_I (cm_sL (cm_sI w a0 74 ((3200 : Int32) * (cm_I w a0 73))) r3 (cm_I (cm_sI w a0 74 ((3200 : Int32) * (cm_I w a0 73))) a0 73).toNatClampNeg (cm_L (cm_sI w a0 74 ((3200 : Int32) * (cm_I w a0 73))) a0 71)) a0 8)) r11 (1 : Int32).toNatClampNeg (cm_I (cm_sI (cm_sL (cm_sI w a0 74 ((3200 : Int32) * (cm_I w a0 73))) r3 (cm_I (cm_sI w a0 74 ((3200 : Int32) * (cm_I w a0 73))) a0 73).toNatClampNeg (cm_L (cm_sI w a0 74 ((3200 : Int32) * (cm_I w a0 73))) a0 71)) r7 (0 : Int32).toNatClampNeg (cm_I (cm_sL (cm_sI w a0 74 ((3200 : Int32) * (cm_I w a0 73))) r3 (cm_I (cm_sI w a0 74 ((3200 : Int32) * (cm_I w a0 73))) a0 73).toNatClampNeg (cm_L (cm_sI w a0 74 ((3200 : Int32) * (cm_I w a0 73))) a0 71)) a0 8)) a0 38)) a0 39)) r19 (3 : Int32).toNatClampNeg (cm_I (cm_sI (cm_sI (cm_sI (cm_sL (cm_sI w a0 74 ((3200 : Int32) * (cm_I w a0 73))) r3 (cm_I (cm_sI w a0 74 ((3200 : Int32) * (cm_I w a0 73))) a0 73).toNatClampNeg (cm_L (cm_sI w a0 74 ((3200 : Int32) * (cm_I w a0 73))) a0 71)) r7 (0 : Int32).toNatClampNeg (cm_I (cm_sL (cm_sI w a0 74 ((3200 : Int32) * (cm_I w a0 73))) r3 (cm_I (cm_sI w a0 74 ((3200 : Int32) * (cm_I w a0 73))) a0 73).toNatClampNeg (cm_L (cm_sI w a0 74 ((3200 : Int32) * (cm_I w a0 73))) a0 71)) a0 8)) r11 (1 : Int32).toNatClampNeg (cm_I (cm_sI (cm_sL (cm_sI w a0 74 ((3200 : Int32) * (cm_I w a0 73))) r3 (cm_I (cm_sI w a0 74 ((3200 : Int32) * (cm_I w a0 73))) a0 73).toNatClampNeg (cm_L (cm_sI w a0 74 ((3200 : Int32) * (cm_I w a0 73))) a0 71)) r7 (0 : Int32).toNatClampNeg (cm_I (cm_sL (cm_sI w a0 74 ((3200 : Int32) * (cm_I w a0 73))) r3 (cm_I (cm_sI w a0 74 ((3200 : Int32) * (cm_I w a0 73))) a0 73).toNatClampNeg (cm_L (cm_sI w a0 74 ((3200 : Int32) * (cm_I w a0 73))) a0 71)) a0 8)) a0 38)) r15 (2 : Int32).toNatClampNeg (cm_I (cm_sI (cm_sI (cm_sL (cm_sI w a0 74 ((3200 : Int32) * (cm_I w a0 73))) r3 (cm_I (cm_sI w a0 74 ((3200 : Int32) * (cm_I w a0 73))) a0 73).toNatClampNeg (cm_L (cm_sI w a0 74 ((3200 : Int32) * (cm_I w a0 73))) a0 71)) r7 (0 : Int32).toNatClampNeg (cm_I (cm_sL (cm_sI w a0 74 ((3200 : Int32) * (cm_I w a0 73))) r3 (cm_I (cm_sI w a0 74 ((3200 : Int32) * (cm_I w a0 73))) a0 73).toNatClampNeg (cm_L (cm_sI w a0 74 ((3200 : Int32) * (cm_I w a0 73))) a0 71)) a0 8)) r11 (1 : Int32).toNatClampNeg (cm_I (cm_sI (cm_sL (cm_sI w a0 74 ((3200 : Int32) * (cm_I w a0 73))) r3 (cm_I (cm_sI w a0 74 ((3200 : Int32) * (cm_I w a0 73))) a0 73).toNatClampNeg (cm_L (cm_sI w a0 74 ((3200 : Int32) * (cm_I w a0 73))) a0 71)) r7 (0 : Int32).toNatClampNeg (cm_I (cm_sL (cm_sI w a0 74 ((3200 : Int32) * (cm_I w a0 73))) r3 (cm_I (cm_sI w a0 74 ((3200 : Int32) * (cm_I w a0 73))) a0 73).toNatClampNeg (cm_L (cm_sI w a0 74 ((3200 : Int32) * (cm_I w a0 73))) a0 71)) a0 8)) a0 38)) a0 39)) a0 51)) r23 (4 : Int32).toNatClampNeg (cm_I (cm_sI (cm_sI (cm_sI (cm_sI (cm_sL (cm_sI w a0 74 ((3200 : Int32) * (cm_I w a0 73))) r3 (cm_I (cm_sI w a0 74 ((3200 : Int32) * (cm_I w a0 73))) a0 73).toNatClampNeg (cm_L (cm_sI w a0 74 ((3200 : Int32) * (cm_I w a0 73))) a0 71)) r7 (0 : Int32).toNatClampNeg (cm_I (cm_sL (cm_sI w a0 74 ((3200 : Int32) * (cm_I w a0 73))) r3 (cm_I (cm_sI w a0 74 ((3200 : Int32) * (cm_I w a0 73))) a0 73).toNatClampNeg (cm_L (cm_sI w a0 74 ((3200 : Int32) * (cm_I w a0 73))) a0 71)) a0 8)) r11 (1 : Int32).toNatClampNeg (cm_I (cm_sI (cm_sL (cm_sI w a0 74 ((3200 : Int32) * (cm_I w a0 73))) r3 (cm_I (cm_sI w a0 74 ((3200 : Int32) * (cm_I w a0 73))) a0 73).toNatClampNeg (cm_L (cm_sI w a0 74 ((3200 : Int32) * (cm_I w a0 73))) a0 71)) r7 (0 : Int32).toNatClampNeg (cm_I (cm_sL (cm_sI w a0 74 ((3200 : Int32) * (cm_I w a0 73))) r3 (cm_I (cm_sI w a0 74 ((3200 : Int32) * (cm_I w a0 73))) a0 73).toNatClampNeg (cm_L (cm_sI w a0 74 ((3200 : Int32) * (cm_I w a0 73))) a0 71)) a0 8)) a0 38)) r15 (2 : Int32).toNatClampNeg (cm_I (cm_sI (cm_sI (cm_sL (cm_sI w a0 74 ((3200 : Int32) * (cm_I w a0 73))) r3 (cm_I (cm_sI w a0 74 ((3200 : Int32) * (cm_I w a0 73))) a0 73).toNatClampNeg (cm_L (cm_sI w a0 74 ((3200 : Int32) * (cm_I w a0 73))) a0 71)) r7 (0 : Int32).toNatClampNeg (cm_I (cm_sL (cm_sI w a0 74 ((3200 : Int32) * (cm_I w a0 73))) r3 (cm_I (cm_sI w a0 74 ((3200 : Int32) * (cm_I w a0 73))) a0 73).toNatClampNeg (cm_L (cm_sI w a0 74 ((3200 : Int32) * (cm_I w a0 73))) a0 71)) a0 8)) r11 (1 : Int32).toNatClampNeg (cm_I (cm_sI (cm_sL (cm_sI w a0 74 ((3200 : Int32) * (cm_I w a0 73))) r3 (cm_I (cm_sI w a0 74 ((3200 : Int32) * (cm_I w a0 73))) a0 73).toNatClampNeg (cm_L (cm_sI w a0 74 ((3200 : Int32) * (cm_I w a0 73))) a0 71)) r7 (0 : Int32).toNatClampNeg (cm_I (cm_sL (cm_sI w a0 74 ((3200 : Int32) * (cm_I w a0 73))) r3 (cm_I (cm_sI w a0 74 ((3200 : Int32) * (cm_I w a0 73))) a0 73).toNatClampNeg (cm_L (cm_sI w a0 74 ((3200 : Int32) * (cm_I w a0 73))) a0 71)) a0 8)) a0 38)) a0 39)) r19 (3 : Int32).toNatClampNeg (cm_I (cm_sI (cm_sI (cm_sI (cm_sL (cm_sI w a0 74 ((3200 : Int32) * (cm_I w a0 73))) r3 (cm_I (cm_sI w a0 74 ((3200 : Int32) * (cm_I w a0 73))) a0 73).toNatClampNeg (cm_L (cm_sI w a0 74 ((3200 : Int32) * (cm_I w a0 73))) a0 71)) r7 (0 : Int32).toNatClampNeg (cm_I (cm_sL (cm_sI w a0 74 ((3200 : Int32) * (cm_I w a0 73))) r3 (cm_I (cm_sI w a0 74 ((3200 : Int32) * (cm_I w a0 73))) a0 73).toNatClampNeg (cm_L (cm_sI w a0 74 ((3200 : Int32) * (cm_I w a0 73))) a0 71)) a0 8)) r11 (1 : Int32).toNatClampNeg (cm_I (cm_sI (cm_sL (cm_sI w a0 74 ((3200 : Int32) * (cm_I w a0 73))) r3 (cm_I (cm_sI w a0 74 ((3200 : Int32) * (cm_I w a0 73))) a0 73).toNatClampNeg (cm_L (cm_sI w a0 74 ((3200 : Int32) * (cm_I w a0 73))) a0 71)) r7 (0 : Int32).toNatClampNeg (cm_I (cm_sL (cm_sI w a0 74 ((3200 : Int32) * (cm_I w a0 73))) r3 (cm_I (cm_sI w a0 74 ((3200 : Int32) * (cm_I w a0 73))) a0 73).toNatClampNeg (cm_L (cm_sI w a0 74 ((3200 : Int32) * (cm_I w a0 73))) a0 71)) a0 8)) a0 38)) r15 (2 : Int32).toNatClampNeg (cm_I (cm_sI (cm_sI (cm_sL (cm_sI w a0 74 ((3200 : Int32) * (cm_I w a0 73))) r3 (cm_I (cm_sI w a0 74 ((3200 : Int32) * (cm_I w a0 73))) a0 73).toNatClampNeg (cm_L (cm_sI w a0 74 ((3200 : Int32) * (cm_I w a0 73))) a0 71)) r7 (0 : Int32).toNatClampNeg (cm_I (cm_sL (cm_sI w a0 74 ((3200 : Int32) * (cm_I w a0 73))) r3 (cm_I (cm_sI w a0 74 ((3200 : Int32) * (cm_I w a0 73))) a0 73).toNatClampNeg (cm_L (cm_sI w a0 74 ((3200 : Int32) * (cm_I w a0 73))) a0 71)) a0 8)) r11 (1 : Int32).toNatClampNeg (cm_I (cm_sI (cm_sL (cm_sI w a0 74 ((3200 : Int32) * (cm_I w a0 73))) r3 (cm_I (cm_sI w a0 74 ((3200 : Int32) * (cm_I w a0 73))) a0 73).toNatClampNeg (cm_L (cm_sI w a0 74 ((3200 : Int32) * (cm_I w a0 73))) a0 71)) r7 (0 : Int32).toNatClampNeg (cm_I (cm_sL (cm_sI w a0 74 ((3200 : Int32) * (cm_I w a0 73))) r3 (cm_I (cm_sI w a0 74 ((3200 : Int32) * (cm_I w a0 73))) a0 73).toNatClampNeg (cm_L (cm_sI w a0 74 ((3200 : Int32) * (cm_I w a0 73))) a0 71)) a0 8)) a0 38)) a0 39)) a0 51)) a0 58))) fun w29 h30 => ?_
  show sm _ _ _ _ 99 [(0, .ref a0)] [] _ _
  refine sm_seg 2 101 [(0, .ref a0)] [.ref a0, .ref a0] rfl ?_
  refine sm_gd fun h31 => ?_
  refine sm_gR rfl h31 rfl rfl fun r32 h33 => ?_
  show sm _ _ _ _ 104 [(0, .ref a0)] [.ref r32, .ref a0] _ _
  refine sm_seg 1 106 [(0, .ref a0)] [.int (12 : Int32), .ref r32, .ref a0] rfl ?_
  refine sm_cV (as := [.ref r32, .int (12 : Int32)]) (rest := []) rfl rfl rfl rfl h31 (Nat.le_of_ble_eq_true rfl) (ca_295  a0 r32 (12 : Int32) w29) fun w34 h35 => ?_
  show sm _ _ _ _ 109 [(0, .ref a0)] [] _ _
  refine sm_seg 2 111 [(0, .ref a0)] [.ref a0, .ref a0] rfl ?_
  refine sm_gd fun h36 => ?_
  refine sm_gR rfl h36 rfl rfl fun r37 h38 => ?_
  show sm _ _ _ _ 114 [(0, .ref a0)] [.ref r37, .ref a0] _ _
  refine sm_seg 1 116 [(0, .ref a0)] [.int (40 : Int32), .ref r37, .ref a0] rfl ?_
  refine sm_cV (as := [.ref r37, .int (40 : Int32)]) (rest := []) rfl rfl rfl rfl h36 (Nat.le_of_ble_eq_true rfl) (ca_295  a0 r37 (40 : Int32) w34) fun w39 h40 => ?_
  show sm _ _ _ _ 119 [(0, .ref a0)] [] _ _
  refine sm_seg 2 121 [(0, .ref a0)] [.ref a0, .ref a0] rfl ?_
  refine sm_gd fun h41 => ?_
  refine sm_gR rfl h41 rfl rfl fun r42 h43 => ?_
  show sm _ _ _ _ 124 [(0, .ref a0)] [.ref r42, .ref a0] _ _
  refine sm_seg 1 126 [(0, .ref a0)] [.int (40 : Int32), .ref r42, .ref a0] rfl ?_
  refine sm_cV (as := [.ref r42, .int (40 : Int32)]) (rest := []) rfl rfl rfl rfl h41 (Nat.le_of_ble_eq_true rfl) (ca_295  a0 r42 (40 : Int32) w39) fun w44 h45 => ?_
  show sm _ _ _ _ 129 [(0, .ref a0)] [] _ _
  refine sm_seg 2 131 [(0, .ref a0)] [.ref a0, .ref a0] rfl ?_
  refine sm_gd fun h46 => ?_
  refine sm_gR rfl h46 rfl rfl fun r47 h48 => ?_
  show sm _ _ _ _ 134 [(0, .ref a0)] [.ref r47, .ref a0] _ _
  refine sm_seg 1 136 [(0, .ref a0)] [.int (40 : Int32), .ref r47, .ref a0] rfl ?_
  refine sm_cV (as := [.ref r47, .int (40 : Int32)]) (rest := []) rfl rfl rfl rfl h46 (Nat.le_of_ble_eq_true rfl) (ca_295  a0 r47 (40 : Int32) w44) fun w49 h50 => ?_
  show sm _ _ _ _ 139 [(0, .ref a0)] [] _ _
  refine sm_seg 2 141 [(0, .ref a0)] [.ref a0, .ref a0] rfl ?_
  refine sm_gd fun h51 => ?_
  refine sm_gR rfl h51 rfl rfl fun r52 h53 => ?_
  show sm _ _ _ _ 144 [(0, .ref a0)] [.ref r52, .ref a0] _ _
  refine sm_seg 1 146 [(0, .ref a0)] [.int (40 : Int32), .ref r52, .ref a0] rfl ?_
  refine sm_cV (as := [.ref r52, .int (40 : Int32)]) (rest := []) rfl rfl rfl rfl h51 (Nat.le_of_ble_eq_true rfl) (ca_295  a0 r52 (40 : Int32) w49) fun w54 h55 => ?_
  show sm _ _ _ _ 149 [(0, .ref a0)] [] _ _
  refine sm_seg 2 151 [(0, .ref a0)] [.ref a0, .ref a0] rfl ?_
  refine sm_gd fun h56 => ?_
  refine sm_gR rfl h56 rfl rfl fun r57 h58 => ?_
  show sm _ _ _ _ 154 [(0, .ref a0)] [.ref r57, .ref a0] _ _
  refine sm_seg 1 156 [(0, .ref a0)] [.int (40 : Int32), .ref r57, .ref a0] rfl ?_
  refine sm_cV (as := [.ref r57, .int (40 : Int32)]) (rest := []) rfl rfl rfl rfl h56 (Nat.le_of_ble_eq_true rfl) (ca_295  a0 r57 (40 : Int32) w54) fun w59 h60 => ?_
  show sm _ _ _ _ 159 [(0, .ref a0)] [] _ _
  refine sm_seg 2 161 [(0, .ref a0)] [.ref a0, .ref a0] rfl ?_
  refine sm_gd fun h61 => ?_
  refine sm_gR rfl h61 rfl rfl fun r62 h63 => ?_
  show sm _ _ _ _ 164 [(0, .ref a0)] [.ref r62, .ref a0] _ _
  refine sm_seg 1 166 [(0, .ref a0)] [.int (40 : Int32), .ref r62, .ref a0] rfl ?_
  refine sm_cV (as := [.ref r62, .int (40 : Int32)]) (rest := []) rfl rfl rfl rfl h61 (Nat.le_of_ble_eq_true rfl) (ca_295  a0 r62 (40 : Int32) w59) fun w64 h65 => ?_
  show sm _ _ _ _ 169 [(0, .ref a0)] [] _ _
  refine sm_seg 2 171 [(0, .ref a0)] [.ref a0, .ref a0] rfl ?_
  refine sm_gd fun h66 => ?_
  refine sm_gR rfl h66 rfl rfl fun r67 h68 => ?_
  show sm _ _ _ _ 174 [(0, .ref a0)] [.ref r67, .ref a0] _ _
  refine sm_seg 1 176 [(0, .ref a0)] [.int (40 : Int32), .ref r67, .ref a0] rfl ?_
  refine sm_cV (as := [.ref r67, .int (40 : Int32)]) (rest := []) rfl rfl rfl rfl h66 (Nat.le_of_ble_eq_true rfl) (ca_295  a0 r67 (40 : Int32) w64) fun w69 h70 => ?_
  show sm _ _ _ _ 179 [(0, .ref a0)] [] _ _
  refine sm_seg 2 181 [(0, .ref a0)] [.ref a0, .ref a0] rfl ?_
  refine sm_gd fun h71 => ?_
  refine sm_gR rfl h71 rfl rfl fun r72 h73 => ?_
  show sm _ _ _ _ 184 [(0, .ref a0)] [.ref r72, .ref a0] _ _
  refine sm_seg 1 187 [(0, .ref a0)] [.int (480 : Int32), .ref r72, .ref a0] rfl ?_
  refine sm_cV (as := [.ref r72, .int (480 : Int32)]) (rest := []) rfl rfl rfl rfl h71 (Nat.le_of_ble_eq_true rfl) (ca_295  a0 r72 (480 : Int32) w69) fun w74 h75 => ?_
  show sm _ _ _ _ 190 [(0, .ref a0)] [] _ _
  refine sm_seg 2 192 [(0, .ref a0)] [.ref a0, .ref a0] rfl ?_
  refine sm_gd fun h76 => ?_
  refine sm_gR rfl h76 rfl rfl fun r77 h78 => ?_
  show sm _ _ _ _ 195 [(0, .ref a0)] [.ref r77, .ref a0] _ _
  refine sm_seg 1 198 [(0, .ref a0)] [.int (2100 : Int32), .ref r77, .ref a0] rfl ?_
  refine sm_cV (as := [.ref r77, .int (2100 : Int32)]) (rest := []) rfl rfl rfl rfl h76 (Nat.le_of_ble_eq_true rfl) (ca_295  a0 r77 (2100 : Int32) w74) fun w79 h80 => ?_
  show sm _ _ _ _ 201 [(0, .ref a0)] [] _ _
  refine sm_seg 2 203 [(0, .ref a0)] [.ref a0, .ref a0] rfl ?_
  refine sm_gd fun h81 => ?_
  refine sm_gR rfl h81 rfl rfl fun r82 h83 => ?_
  show sm _ _ _ _ 206 [(0, .ref a0)] [.ref r82, .ref a0] _ _
  refine sm_seg 1 208 [(0, .ref a0)] [.int (20 : Int32), .ref r82, .ref a0] rfl ?_
  refine sm_cV (as := [.ref r82, .int (20 : Int32)]) (rest := []) rfl rfl rfl rfl h81 (Nat.le_of_ble_eq_true rfl) (ca_295  a0 r82 (20 : Int32) w79) fun w84 h85 => ?_
  show sm _ _ _ _ 211 [(0, .ref a0)] [] _ _
  refine sm_seg 2 213 [(0, .ref a0)] [.ref a0, .ref a0] rfl ?_
  refine sm_gd fun h86 => ?_
  refine sm_gR rfl h86 rfl rfl fun r87 h88 => ?_
  show sm _ _ _ _ 216 [(0, .ref a0)] [.ref r87, .ref a0] _ _
  refine sm_seg 1 218 [(0, .ref a0)] [.int (20 : Int32), .ref r87, .ref a0] rfl ?_
  refine sm_cV (as := [.ref r87, .int (20 : Int32)]) (rest := []) rfl rfl rfl rfl h86 (Nat.le_of_ble_eq_true rfl) (ca_295  a0 r87 (20 : Int32) w84) fun w89 h90 => ?_
  show sm _ _ _ _ 221 [(0, .ref a0)] [] _ _
  refine sm_seg 2 223 [(0, .ref a0)] [.ref a0, .ref a0] rfl ?_
  refine sm_gd fun h91 => ?_
  refine sm_gR rfl h91 rfl rfl fun r92 h93 => ?_
  show sm _ _ _ _ 226 [(0, .ref a0)] [.ref r92, .ref a0] _ _
  refine sm_seg 1 228 [(0, .ref a0)] [.int (20 : Int32), .ref r92, .ref a0] rfl ?_
  refine sm_cV (as := [.ref r92, .int (20 : Int32)]) (rest := []) rfl rfl rfl rfl h91 (Nat.le_of_ble_eq_true rfl) (ca_295  a0 r92 (20 : Int32) w89) fun w94 h95 => ?_
  show sm _ _ _ _ 231 [(0, .ref a0)] [] _ _
  refine sm_seg 2 233 [(0, .ref a0)] [.ref a0, .ref a0] rfl ?_
  refine sm_gd fun h96 => ?_
  refine sm_gR rfl h96 rfl rfl fun r97 h98 => ?_
  show sm _ _ _ _ 236 [(0, .ref a0)] [.ref r97, .ref a0] _ _
  refine sm_seg 1 238 [(0, .ref a0)] [.int (20 : Int32), .ref r97, .ref a0] rfl ?_
  refine sm_cV (as := [.ref r97, .int (20 : Int32)]) (rest := []) rfl rfl rfl rfl h96 (Nat.le_of_ble_eq_true rfl) (ca_295  a0 r97 (20 : Int32) w94) fun w99 h100 => ?_
  show sm _ _ _ _ 241 [(0, .ref a0)] [] _ _
  refine sm_seg 2 243 [(0, .ref a0)] [.ref a0, .ref a0] rfl ?_
  refine sm_gd fun h101 => ?_
  refine sm_gR rfl h101 rfl rfl fun r102 h103 => ?_
  show sm _ _ _ _ 246 [(0, .ref a0)] [.ref r102, .ref a0] _ _
  refine sm_seg 1 248 [(0, .ref a0)] [.int (20 : Int32), .ref r102, .ref a0] rfl ?_
  refine sm_cV (as := [.ref r102, .int (20 : Int32)]) (rest := []) rfl rfl rfl rfl h101 (Nat.le_of_ble_eq_true rfl) (ca_295  a0 r102 (20 : Int32) w99) fun w104 h105 => ?_
  show sm _ _ _ _ 251 [(0, .ref a0)] [] _ _
  refine sm_seg 2 253 [(0, .ref a0)] [.ref a0, .ref a0] rfl ?_
  refine sm_gd fun h106 => ?_
  refine sm_gR rfl h106 rfl rfl fun r107 h108 => ?_
  show sm _ _ _ _ 256 [(0, .ref a0)] [.ref r107, .ref a0] _ _
  refine sm_seg 1 258 [(0, .ref a0)] [.int (20 : Int32), .ref r107, .ref a0] rfl ?_
  refine sm_cV (as := [.ref r107, .int (20 : Int32)]) (rest := []) rfl rfl rfl rfl h106 (Nat.le_of_ble_eq_true rfl) (ca_295  a0 r107 (20 : Int32) w104) fun w109 h110 => ?_
  show sm _ _ _ _ 261 [(0, .ref a0)] [] _ _
  refine sm_seg 2 263 [(0, .ref a0)] [.ref a0, .ref a0] rfl ?_
  refine sm_gd fun h111 => ?_
  refine sm_gR rfl h111 rfl rfl fun r112 h113 => ?_
  show sm _ _ _ _ 266 [(0, .ref a0)] [.ref r112, .ref a0] _ _
  refine sm_seg 1 268 [(0, .ref a0)] [.int (40 : Int32), .ref r112, .ref a0] rfl ?_
  refine sm_cV (as := [.ref r112, .int (40 : Int32)]) (rest := []) rfl rfl rfl rfl h111 (Nat.le_of_ble_eq_true rfl) (ca_295  a0 r112 (40 : Int32) w109) fun w114 h115 => ?_
  show sm _ _ _ _ 271 [(0, .ref a0)] [] _ _
  refine sm_seg 2 273 [(0, .ref a0)] [.ref a0, .ref a0] rfl ?_
  refine sm_gd fun h116 => ?_
  refine sm_gR rfl h116 rfl rfl fun r117 h118 => ?_
  show sm _ _ _ _ 276 [(0, .ref a0)] [.ref r117, .ref a0] _ _
  refine sm_seg 1 278 [(0, .ref a0)] [.int (40 : Int32), .ref r117, .ref a0] rfl ?_
  refine sm_cV (as := [.ref r117, .int (40 : Int32)]) (rest := []) rfl rfl rfl rfl h116 (Nat.le_of_ble_eq_true rfl) (ca_295  a0 r117 (40 : Int32) w114) fun w119 h120 => ?_
  show sm _ _ _ _ 281 [(0, .ref a0)] [] _ _
  refine sm_seg 2 283 [(0, .ref a0)] [.ref a0, .ref a0] rfl ?_
  refine sm_gd fun h121 => ?_
  refine sm_gR rfl h121 rfl rfl fun r122 h123 => ?_
  show sm _ _ _ _ 286 [(0, .ref a0)] [.ref r122, .ref a0] _ _
  refine sm_seg 1 288 [(0, .ref a0)] [.int (40 : Int32), .ref r122, .ref a0] rfl ?_
  refine sm_cV (as := [.ref r122, .int (40 : Int32)]) (rest := []) rfl rfl rfl rfl h121 (Nat.le_of_ble_eq_true rfl) (ca_295  a0 r122 (40 : Int32) w119) fun w124 h125 => ?_
  show sm _ _ _ _ 291 [(0, .ref a0)] [] _ _
  refine sm_seg 2 293 [(0, .ref a0)] [.ref a0, .ref a0] rfl ?_
  refine sm_gd fun h126 => ?_
  refine sm_gR rfl h126 rfl rfl fun r127 h128 => ?_
  show sm _ _ _ _ 296 [(0, .ref a0)] [.ref r127, .ref a0] _ _
  refine sm_seg 1 298 [(0, .ref a0)] [.int (40 : Int32), .ref r127, .ref a0] rfl ?_
  refine sm_cV (as := [.ref r127, .int (40 : Int32)]) (rest := []) rfl rfl rfl rfl h126 (Nat.le_of_ble_eq_true rfl) (ca_295  a0 r127 (40 : Int32) w124) fun w129 h130 => ?_
  show sm _ _ _ _ 301 [(0, .ref a0)] [] _ _
  refine sm_seg 2 303 [(0, .ref a0)] [.ref a0, .ref a0] rfl ?_
  refine sm_gd fun h131 => ?_
  refine sm_gI rfl h131 rfl ?_
  show sm _ _ _ _ 306 [(0, .ref a0)] [.int (cm_I w129 a0 73), .ref a0] _ _
  refine sm_seg 2 308 [(0, .ref a0)] [.int ((cm_I w129 a0 73) + (1 : Int32)), .ref a0] rfl ?_
  refine sm_gd fun h132 => ?_
  refine sm_pI rfl h131 rfl h132 rfl ?_
  show sm _ _ _ _ 311 [(0, .ref a0)] [] _ _
  refine sm_seg 1 312 [(0, .ref a0)] [.ref a0] rfl ?_
  refine sm_gI rfl h131 rfl ?_
  show sm _ _ _ _ 315 [(0, .ref a0)] [.int (cm_I (cm_sI w129 a0 73 ((cm_I w129 a0 73) + (1 : Int32))) a0 73)] _ _
  refine sm_seg 2 317 [(0, .ref a0)] [.int ((cm_I (cm_sI w129 a0 73 ((cm_I w129 a0 73) + (1 : Int32))) a0 73) - (1 : Int32))] rfl ?_
  exact sm_rIW rfl rfl
def fn_297 (a0 : Nat) (w : cm_W) : Option (Int32 × cm_W) := (if cm_sh w a0 = some (.inl 11) then (if ¬ (cm_I w a0 73) = (3 : Int32) then fn_297_15  a0 w else (fn_199 a0 (1 : Int32) (-1 : Int32) w).bind fun v135 => some (v135.1, v135.2)) else none)
theorem jt_297_0 (a0 : Nat) (w : cm_W) : sm cm_g 297 ck_297 kq_297 0 [(0, .ref a0)] [] w ((fn_297 a0 w).map cm_gI) := by
  unfold fn_297
  refine sm_seg 1 1 [(0, .ref a0)] [.ref a0] rfl ?_
  refine sm_gd fun h133 => ?_
  refine sm_gI rfl h133 rfl ?_
  show sm _ _ _ _ 4 [(0, .ref a0)] [.int (cm_I w a0 73)] _ _
  refine sm_seg 1 5 [(0, .ref a0)] [.int (3 : Int32), .int (cm_I w a0 73)] rfl ?_
  refine sm_if (pc1 := 15) (lv1 := [(0, .ref a0)]) (pc2 := 8) (lv2 := [(0, .ref a0)]) (st1 := []) rfl rfl rfl (fun h134 => ?_) (fun h134 => ?_)
  · exact jt_297_15  a0 w
  · refine sm_seg 3 11 [(0, .ref a0)] [.int (-1 : Int32), .int (1 : Int32), .ref a0] rfl ?_
    refine sm_cV (as := [.int (1 : Int32), .int (-1 : Int32)]) (rest := []) rfl rfl rfl rfl h133 (Nat.le_of_ble_eq_true rfl) (ca_199  a0 (1 : Int32) (-1 : Int32) w) fun v135 h136 => ?_
    show sm _ _ _ _ 14 [(0, .ref a0)] [.int v135.1] _ _
    exact sm_rIW rfl rfl
theorem ca_297 (a0 : Nat) (w : cm_W) : cm_ca cm_g 297 [.ref a0] w ((fn_297 a0 w).map cm_gI) := cm_ca_of (cm_me_of rfl rfl) rfl (jt_297_0 a0 w)
