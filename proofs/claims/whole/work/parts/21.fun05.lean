-- NailedBoxesModel.shareOf(II)I
def fn_228 (w : cm_W) (a0 : Nat) (i1 : Int32) (i2 : Int32) : Option Int32 := (if cm_sh w a0 = some (.inl 11) then (cm_R w a0 29).bind fun r2 => (if cm_ga w .int r2 (((8 : Int32) * i1) + i2) = true then some (cm_I w r2 (((8 : Int32) * i1) + i2).toNatClampNeg) else none) else none)
theorem jt_228_0 (w : cm_W) (a0 : Nat) (i1 : Int32) (i2 : Int32) : sm cm_g 228 ck_228 kq_228 0 [(0, .ref a0), (1, .int i1), (2, .int i2)] [] w ((fn_228 w a0 i1 i2).map (cm_fI w)) := by
  unfold fn_228
  refine sm_seg 1 1 [(0, .ref a0), (1, .int i1), (2, .int i2)] [.ref a0] rfl ?_
  refine sm_gd fun h1 => ?_
  refine sm_gR rfl h1 rfl rfl fun r2 h3 => ?_
  show sm _ _ _ _ 4 [(0, .ref a0), (1, .int i1), (2, .int i2)] [.ref r2] _ _
  refine sm_seg 5 10 [(0, .ref a0), (1, .int i1), (2, .int i2)] [.int (((8 : Int32) * i1) + i2), .ref r2] rfl ?_
  refine sm_gd fun h4 => ?_
  refine sm_ai rfl h4 rfl ?_
  show sm _ _ _ _ 11 [(0, .ref a0), (1, .int i1), (2, .int i2)] [.int (cm_I w r2 (((8 : Int32) * i1) + i2).toNatClampNeg)] _ _
  exact sm_rI rfl rfl
theorem ca_228 (w : cm_W) (a0 : Nat) (i1 : Int32) (i2 : Int32) : cm_ca cm_g 228 [.ref a0, .int i1, .int i2] w ((fn_228 w a0 i1 i2).map (cm_fI w)) := cm_ca_of (cm_me_of rfl rfl) rfl (jt_228_0 w a0 i1 i2)
-- NailedBoxesModel.sharesOf(I)I
def fn_229_4 (w : cm_W) : Nat → Nat → Int32 → Int32 → Int32 → Option Int32
  | 0, _, _, _, _ => none
  | n + 1, a0, i1, i2, i3 => (if cm_sh w a0 = some (.inl 11) then (if (cm_I w a0 1) ≤ i3 then some i2 else (fn_228 w a0 i1 i3).bind fun v3 => fn_229_4 w n a0 i1 (i2 + v3) (i3 + (1 : Int32))) else none)
theorem jt_229_4 (w : cm_W) : ∀ (n : Nat) (a0 : Nat) (i1 : Int32) (i2 : Int32) (i3 : Int32), sm cm_g 229 ck_229 kq_229 4 [(0, .ref a0), (1, .int i1), (2, .int i2), (3, .int i3)] [] w ((fn_229_4 w n a0 i1 i2 i3).map (cm_fI w)) := by
  intro n
  induction n with
  | zero => intro a0 i1 i2 i3; exact sm_no
  | succ n ih =>
    intro a0 i1 i2 i3
    rw [fn_229_4]
    refine sm_seg 2 6 [(0, .ref a0), (1, .int i1), (2, .int i2), (3, .int i3)] [.ref a0, .int i3] rfl ?_
    refine sm_gd fun h1 => ?_
    refine sm_gI rfl h1 rfl ?_
    show sm _ _ _ _ 9 [(0, .ref a0), (1, .int i1), (2, .int i2), (3, .int i3)] [.int (cm_I w a0 1), .int i3] _ _
    refine sm_if (pc1 := 27) (lv1 := [(2, .int i2)]) (pc2 := 12) (lv2 := [(0, .ref a0), (1, .int i1), (2, .int i2), (3, .int i3)]) (st1 := []) rfl rfl rfl (fun h2 => ?_) (fun h2 => ?_)
    · refine sm_seg 1 28 [(2, .int i2)] [.int i2] rfl ?_
      exact sm_rI rfl rfl
    · refine sm_seg 4 16 [(0, .ref a0), (1, .int i1), (2, .int i2), (3, .int i3)] [.int i3, .int i1, .ref a0, .int i2] rfl ?_
      refine sm_cV (as := [.int i1, .int i3]) (rest := [.int i2]) rfl rfl rfl rfl h1 (Nat.le_of_ble_eq_true rfl) (ca_228 w a0 i1 i3) fun v3 h4 => ?_
      show sm _ _ _ _ 19 [(0, .ref a0), (1, .int i1), (2, .int i2), (3, .int i3)] [.int v3, .int i2] _ _
      refine sm_seg 4 4 [(0, .ref a0), (1, .int i1), (2, .int (i2 + v3)), (3, .int (i3 + (1 : Int32)))] [] rfl ?_
      exact ih a0 i1 (i2 + v3) (i3 + (1 : Int32))
def fn_229 (w : cm_W) (a0 : Nat) (i1 : Int32) : Option Int32 := fn_229_4 w cm_N a0 i1 (0 : Int32) (0 : Int32)
theorem jt_229_0 (w : cm_W) (a0 : Nat) (i1 : Int32) : sm cm_g 229 ck_229 kq_229 0 [(0, .ref a0), (1, .int i1)] [] w ((fn_229 w a0 i1).map (cm_fI w)) := by
  unfold fn_229
  refine sm_seg 4 4 [(0, .ref a0), (1, .int i1), (2, .int (0 : Int32)), (3, .int (0 : Int32))] [] rfl ?_
  exact jt_229_4 w cm_N a0 i1 (0 : Int32) (0 : Int32)
theorem ca_229 (w : cm_W) (a0 : Nat) (i1 : Int32) : cm_ca cm_g 229 [.ref a0, .int i1] w ((fn_229 w a0 i1).map (cm_fI w)) := cm_ca_of (cm_me_of rfl rfl) rfl (jt_229_0 w a0 i1)
-- NailedBoxesModel.outermost(I)I
def fn_230_2 (w : cm_W) : Nat → Nat → Int32 → Option Int32
  | 0, _, _ => none
  | n + 1, a0, i2 => (if cm_sh w a0 = some (.inl 11) then (cm_R w a0 43).bind fun r2 => (if cm_ga w .int r2 i2 = true then (if (cm_I w r2 i2.toNatClampNeg) = (-1 : Int32) then some i2 else (cm_R w a0 43).bind fun r6 => (if cm_ga w .int r6 i2 = true then fn_230_2 w n a0 (cm_I w r6 i2.toNatClampNeg) else none)) else none) else none)
theorem jt_230_2 (w : cm_W) : ∀ (n : Nat) (a0 : Nat) (i2 : Int32), sm cm_g 230 ck_230 kq_230 2 [(0, .ref a0), (2, .int i2)] [] w ((fn_230_2 w n a0 i2).map (cm_fI w)) := by
  intro n
  induction n with
  | zero => intro a0 i2; exact sm_no
  | succ n ih =>
    intro a0 i2
    rw [fn_230_2]
    refine sm_seg 1 3 [(0, .ref a0), (2, .int i2)] [.ref a0] rfl ?_
    refine sm_gd fun h1 => ?_
    refine sm_gR rfl h1 rfl rfl fun r2 h3 => ?_
    show sm _ _ _ _ 6 [(0, .ref a0), (2, .int i2)] [.ref r2] _ _
    refine sm_seg 1 7 [(0, .ref a0), (2, .int i2)] [.int i2, .ref r2] rfl ?_
    refine sm_gd fun h4 => ?_
    refine sm_ai rfl h4 rfl ?_
    show sm _ _ _ _ 8 [(0, .ref a0), (2, .int i2)] [.int (cm_I w r2 i2.toNatClampNeg)] _ _
    refine sm_seg 1 9 [(0, .ref a0), (2, .int i2)] [.int (-1 : Int32), .int (cm_I w r2 i2.toNatClampNeg)] rfl ?_
    refine sm_if (pc1 := 22) (lv1 := [(2, .int i2)]) (pc2 := 12) (lv2 := [(0, .ref a0), (2, .int i2)]) (st1 := []) rfl rfl rfl (fun h5 => ?_) (fun h5 => ?_)
    · refine sm_seg 1 23 [(2, .int i2)] [.int i2] rfl ?_
      exact sm_rI rfl rfl
    · refine sm_seg 1 13 [(0, .ref a0), (2, .int i2)] [.ref a0] rfl ?_
      refine sm_gR rfl h1 rfl rfl fun r6 h7 => ?_
      show sm _ _ _ _ 16 [(0, .ref a0), (2, .int i2)] [.ref r6] _ _
      refine sm_seg 1 17 [(0, .ref a0), (2, .int i2)] [.int i2, .ref r6] rfl ?_
      refine sm_gd fun h8 => ?_
      refine sm_ai rfl h8 rfl ?_
      show sm _ _ _ _ 18 [(0, .ref a0), (2, .int i2)] [.int (cm_I w r6 i2.toNatClampNeg)] _ _
      refine sm_seg 2 2 [(0, .ref a0), (2, .int (cm_I w r6 i2.toNatClampNeg))] [] rfl ?_
      exact ih a0 (cm_I w r6 i2.toNatClampNeg)
def fn_230 (w : cm_W) (a0 : Nat) (i1 : Int32) : Option Int32 := fn_230_2 w cm_N a0 i1
theorem jt_230_0 (w : cm_W) (a0 : Nat) (i1 : Int32) : sm cm_g 230 ck_230 kq_230 0 [(0, .ref a0), (1, .int i1)] [] w ((fn_230 w a0 i1).map (cm_fI w)) := by
  unfold fn_230
  refine sm_seg 2 2 [(0, .ref a0), (2, .int i1)] [] rfl ?_
  exact jt_230_2 w cm_N a0 i1
theorem ca_230 (w : cm_W) (a0 : Nat) (i1 : Int32) : cm_ca cm_g 230 [.ref a0, .int i1] w ((fn_230 w a0 i1).map (cm_fI w)) := cm_ca_of (cm_me_of rfl rfl) rfl (jt_230_0 w a0 i1)
-- NailedBoxesModel.handsOf(I)I
def fn_231 (w : cm_W) (a0 : Nat) (i1 : Int32) : Option Int32 := (if cm_sh w a0 = some (.inl 11) then (cm_R w a0 42).bind fun r2 => (fn_230 w a0 i1).bind fun v4 => (if cm_ga w .int r2 v4 = true then some (cm_I w r2 v4.toNatClampNeg) else none) else none)
theorem jt_231_0 (w : cm_W) (a0 : Nat) (i1 : Int32) : sm cm_g 231 ck_231 kq_231 0 [(0, .ref a0), (1, .int i1)] [] w ((fn_231 w a0 i1).map (cm_fI w)) := by
  unfold fn_231
  refine sm_seg 1 1 [(0, .ref a0), (1, .int i1)] [.ref a0] rfl ?_
  refine sm_gd fun h1 => ?_
  refine sm_gR rfl h1 rfl rfl fun r2 h3 => ?_
  show sm _ _ _ _ 4 [(0, .ref a0), (1, .int i1)] [.ref r2] _ _
  refine sm_seg 2 6 [(0, .ref a0), (1, .int i1)] [.int i1, .ref a0, .ref r2] rfl ?_
  refine sm_cV (as := [.int i1]) (rest := [.ref r2]) rfl rfl rfl rfl h1 (Nat.le_of_ble_eq_true rfl) (ca_230 w a0 i1) fun v4 h5 => ?_
  show sm _ _ _ _ 9 [(0, .ref a0), (1, .int i1)] [.int v4, .ref r2] _ _
  refine sm_gd fun h6 => ?_
  refine sm_ai rfl h6 rfl ?_
  show sm _ _ _ _ 10 [(0, .ref a0), (1, .int i1)] [.int (cm_I w r2 v4.toNatClampNeg)] _ _
  exact sm_rI rfl rfl
theorem ca_231 (w : cm_W) (a0 : Nat) (i1 : Int32) : cm_ca cm_g 231 [.ref a0, .int i1] w ((fn_231 w a0 i1).map (cm_fI w)) := cm_ca_of (cm_me_of rfl rfl) rfl (jt_231_0 w a0 i1)
-- NailedBoxesModel.who(II)I
def fn_232_100 (w : cm_W) (i2 : Int32) (i3 : Int32) : Option Int32 := (if ¬ i2 = (2 : Int32) then some (-1 : Int32) else some i3)
theorem jt_232_100 (w : cm_W) (i2 : Int32) (i3 : Int32) : sm cm_g 232 ck_232 kq_232 100 [(2, .int i2), (3, .int i3)] [] w ((fn_232_100 w i2 i3).map (cm_fI w)) := by
  unfold fn_232_100
  refine sm_seg 2 102 [(2, .int i2), (3, .int i3)] [.int (2 : Int32), .int i2] rfl ?_
  refine sm_if (pc1 := 109) (lv1 := []) (pc2 := 105) (lv2 := [(2, .int i2), (3, .int i3)]) (st1 := []) rfl rfl rfl (fun h1 => ?_) (fun h1 => ?_)
  · refine sm_seg 1 110 [] [.int (-1 : Int32)] rfl ?_
    exact sm_rI rfl rfl
  · refine sm_seg 2 110 [] [.int i3] rfl ?_
    exact sm_rI rfl rfl
def fn_232_64 (w : cm_W) : Nat → Nat → Int32 → Int32 → Int32 → Int32 → Option Int32
  | 0, _, _, _, _, _ => none
  | n + 1, a0, i1, i2, i3, i4 => (if cm_sh w a0 = some (.inl 11) then (if (cm_I w a0 38) ≤ i4 then fn_232_100 w i2 i3 else (fn_231 w a0 i4).bind fun v4 => (if ¬ v4 = i1 then (fn_195 w (0 : Int32)).bind fun v7 => fn_232_64 w n a0 i1 i2 (i3 + v7) (i4 + (1 : Int32)) else (fn_195 w (1 : Int32)).bind fun v9 => fn_232_64 w n a0 i1 i2 (i3 + v9) (i4 + (1 : Int32)))) else none)
theorem jt_232_64 (w : cm_W) : ∀ (n : Nat) (a0 : Nat) (i1 : Int32) (i2 : Int32) (i3 : Int32) (i4 : Int32), sm cm_g 232 ck_232 kq_232 64 [(0, .ref a0), (1, .int i1), (2, .int i2), (3, .int i3), (4, .int i4)] [] w ((fn_232_64 w n a0 i1 i2 i3 i4).map (cm_fI w)) := by
  intro n
  induction n with
  | zero => intro a0 i1 i2 i3 i4; exact sm_no
  | succ n ih =>
    intro a0 i1 i2 i3 i4
    rw [fn_232_64]
    refine sm_seg 2 67 [(0, .ref a0), (1, .int i1), (2, .int i2), (3, .int i3), (4, .int i4)] [.ref a0, .int i4] rfl ?_
    refine sm_gd fun h2 => ?_
    refine sm_gI rfl h2 rfl ?_
    show sm _ _ _ _ 70 [(0, .ref a0), (1, .int i1), (2, .int i2), (3, .int i3), (4, .int i4)] [.int (cm_I w a0 38), .int i4] _ _
    refine sm_if (pc1 := 100) (lv1 := [(2, .int i2), (3, .int i3)]) (pc2 := 73) (lv2 := [(0, .ref a0), (1, .int i1), (2, .int i2), (3, .int i3), (4, .int i4)]) (st1 := []) rfl rfl rfl (fun h3 => ?_) (fun h3 => ?_)
    · exact jt_232_100 w i2 i3
    · refine sm_seg 3 77 [(0, .ref a0), (1, .int i1), (2, .int i2), (3, .int i3), (4, .int i4)] [.int i4, .ref a0, .int i3] rfl ?_
      refine sm_cV (as := [.int i4]) (rest := [.int i3]) rfl rfl rfl rfl h2 (Nat.le_of_ble_eq_true rfl) (ca_231 w a0 i4) fun v4 h5 => ?_
      show sm _ _ _ _ 80 [(0, .ref a0), (1, .int i1), (2, .int i2), (3, .int i3), (4, .int i4)] [.int v4, .int i3] _ _
      refine sm_seg 1 81 [(0, .ref a0), (1, .int i1), (2, .int i2), (3, .int i3), (4, .int i4)] [.int i1, .int v4, .int i3] rfl ?_
      refine sm_if (pc1 := 88) (lv1 := [(0, .ref a0), (1, .int i1), (2, .int i2), (4, .int i4)]) (pc2 := 84) (lv2 := [(0, .ref a0), (1, .int i1), (2, .int i2), (3, .int i3), (4, .int i4)]) (st1 := [.int i3]) rfl rfl rfl (fun h6 => ?_) (fun h6 => ?_)
      · refine sm_seg 1 89 [(0, .ref a0), (1, .int i1), (2, .int i2), (4, .int i4)] [.int (0 : Int32), .int i3] rfl ?_
        refine sm_cS (av := [.int (0 : Int32)]) (rest := [.int i3]) rfl rfl rfl rfl (Nat.le_of_ble_eq_true rfl) (ca_195 w (0 : Int32)) fun v7 h8 => ?_
        show sm _ _ _ _ 92 [(0, .ref a0), (1, .int i1), (2, .int i2), (4, .int i4)] [.int v7, .int i3] _ _
        refine sm_seg 4 64 [(0, .ref a0), (1, .int i1), (2, .int i2), (3, .int (i3 + v7)), (4, .int (i4 + (1 : Int32)))] [] rfl ?_
        exact ih a0 i1 i2 (i3 + v7) (i4 + (1 : Int32))
      · refine sm_seg 2 89 [(0, .ref a0), (1, .int i1), (2, .int i2), (4, .int i4)] [.int (1 : Int32), .int i3] rfl ?_
        refine sm_cS (av := [.int (1 : Int32)]) (rest := [.int i3]) rfl rfl rfl rfl (Nat.le_of_ble_eq_true rfl) (ca_195 w (1 : Int32)) fun v9 h10 => ?_
        show sm _ _ _ _ 92 [(0, .ref a0), (1, .int i1), (2, .int i2), (4, .int i4)] [.int v9, .int i3] _ _
        refine sm_seg 4 64 [(0, .ref a0), (1, .int i1), (2, .int i2), (3, .int (i3 + v9)), (4, .int (i4 + (1 : Int32)))] [] rfl ?_
        exact ih a0 i1 i2 (i3 + v9) (i4 + (1 : Int32))
def fn_232_59 (w : cm_W) (a0 : Nat) (i1 : Int32) (i2 : Int32) : Option Int32 := fn_232_64 w cm_N a0 i1 i2 (0 : Int32) (0 : Int32)
theorem jt_232_59 (w : cm_W) (a0 : Nat) (i1 : Int32) (i2 : Int32) : sm cm_g 232 ck_232 kq_232 59 [(0, .ref a0), (1, .int i1), (2, .int i2)] [] w ((fn_232_59 w a0 i1 i2).map (cm_fI w)) := by
  unfold fn_232_59
  refine sm_seg 4 64 [(0, .ref a0), (1, .int i1), (2, .int i2), (3, .int (0 : Int32)), (4, .int (0 : Int32))] [] rfl ?_
  exact jt_232_64 w cm_N a0 i1 i2 (0 : Int32) (0 : Int32)
def fn_232_33 (w : cm_W) (a0 : Nat) (i1 : Int32) (i2 : Int32) : Option Int32 := (if cm_sh w a0 = some (.inl 11) then (fn_194 w i2 (10 : Int32) ((9 : Int32) + (cm_I w a0 1))).bind fun v12 => (if (cm_b v12) = 0 then fn_232_59 w a0 i1 i2 else (fn_228 w a0 i1 (i2 - (10 : Int32))).bind fun v15 => some v15) else none)
theorem jt_232_33 (w : cm_W) (a0 : Nat) (i1 : Int32) (i2 : Int32) : sm cm_g 232 ck_232 kq_232 33 [(0, .ref a0), (1, .int i1), (2, .int i2)] [] w ((fn_232_33 w a0 i1 i2).map (cm_fI w)) := by
  unfold fn_232_33
  refine sm_seg 4 39 [(0, .ref a0), (1, .int i1), (2, .int i2)] [.ref a0, .int (9 : Int32), .int (10 : Int32), .int i2] rfl ?_
  refine sm_gd fun h11 => ?_
  refine sm_gI rfl h11 rfl ?_
  show sm _ _ _ _ 42 [(0, .ref a0), (1, .int i1), (2, .int i2)] [.int (cm_I w a0 1), .int (9 : Int32), .int (10 : Int32), .int i2] _ _
  refine sm_seg 1 43 [(0, .ref a0), (1, .int i1), (2, .int i2)] [.int ((9 : Int32) + (cm_I w a0 1)), .int (10 : Int32), .int i2] rfl ?_
  refine sm_cS (av := [.int i2, .int (10 : Int32), .int ((9 : Int32) + (cm_I w a0 1))]) (rest := []) rfl rfl rfl rfl (Nat.le_of_ble_eq_true rfl) (ca_194 w i2 (10 : Int32) ((9 : Int32) + (cm_I w a0 1))) fun v12 h13 => ?_
  show sm _ _ _ _ 46 [(0, .ref a0), (1, .int i1), (2, .int i2)] [.int (cm_b v12)] _ _
  refine sm_if (pc1 := 59) (lv1 := [(0, .ref a0), (1, .int i1), (2, .int i2)]) (pc2 := 49) (lv2 := [(0, .ref a0), (1, .int i1), (2, .int i2)]) (st1 := []) rfl rfl rfl (fun h14 => ?_) (fun h14 => ?_)
  · exact jt_232_59 w a0 i1 i2
  · refine sm_seg 5 55 [(0, .ref a0), (1, .int i1), (2, .int i2)] [.int (i2 - (10 : Int32)), .int i1, .ref a0] rfl ?_
    refine sm_cV (as := [.int i1, .int (i2 - (10 : Int32))]) (rest := []) rfl rfl rfl rfl h11 (Nat.le_of_ble_eq_true rfl) (ca_228 w a0 i1 (i2 - (10 : Int32))) fun v15 h16 => ?_
    show sm _ _ _ _ 58 [(0, .ref a0), (1, .int i1), (2, .int i2)] [.int v15] _ _
    exact sm_rI rfl rfl
def fn_232_21 (w : cm_W) (a0 : Nat) (i1 : Int32) (i2 : Int32) : Option Int32 := (if ¬ i2 = (1 : Int32) then fn_232_33 w a0 i1 i2 else (if cm_sh w a0 = some (.inl 11) then (cm_R w a0 27).bind fun r19 => (if cm_ga w .int r19 i1 = true then some (cm_I w r19 i1.toNatClampNeg) else none) else none))
theorem jt_232_21 (w : cm_W) (a0 : Nat) (i1 : Int32) (i2 : Int32) : sm cm_g 232 ck_232 kq_232 21 [(0, .ref a0), (1, .int i1), (2, .int i2)] [] w ((fn_232_21 w a0 i1 i2).map (cm_fI w)) := by
  unfold fn_232_21
  refine sm_seg 2 23 [(0, .ref a0), (1, .int i1), (2, .int i2)] [.int (1 : Int32), .int i2] rfl ?_
  refine sm_if (pc1 := 33) (lv1 := [(0, .ref a0), (1, .int i1), (2, .int i2)]) (pc2 := 26) (lv2 := [(0, .ref a0), (1, .int i1), (2, .int i2)]) (st1 := []) rfl rfl rfl (fun h17 => ?_) (fun h17 => ?_)
  · exact jt_232_33 w a0 i1 i2
  · refine sm_seg 1 27 [(0, .ref a0), (1, .int i1), (2, .int i2)] [.ref a0] rfl ?_
    refine sm_gd fun h18 => ?_
    refine sm_gR rfl h18 rfl rfl fun r19 h20 => ?_
    show sm _ _ _ _ 30 [(0, .ref a0), (1, .int i1), (2, .int i2)] [.ref r19] _ _
    refine sm_seg 1 31 [(0, .ref a0), (1, .int i1), (2, .int i2)] [.int i1, .ref r19] rfl ?_
    refine sm_gd fun h21 => ?_
    refine sm_ai rfl h21 rfl ?_
    show sm _ _ _ _ 32 [(0, .ref a0), (1, .int i1), (2, .int i2)] [.int (cm_I w r19 i1.toNatClampNeg)] _ _
    exact sm_rI rfl rfl
def fn_232_10 (w : cm_W) (a0 : Nat) (i1 : Int32) (i2 : Int32) : Option Int32 := (if ¬ i2 = 0 then fn_232_21 w a0 i1 i2 else (if cm_sh w a0 = some (.inl 11) then (cm_R w a0 26).bind fun r24 => (if cm_ga w .int r24 i1 = true then some (cm_I w r24 i1.toNatClampNeg) else none) else none))
theorem jt_232_10 (w : cm_W) (a0 : Nat) (i1 : Int32) (i2 : Int32) : sm cm_g 232 ck_232 kq_232 10 [(0, .ref a0), (1, .int i1), (2, .int i2)] [] w ((fn_232_10 w a0 i1 i2).map (cm_fI w)) := by
  unfold fn_232_10
  refine sm_seg 1 11 [(0, .ref a0), (1, .int i1), (2, .int i2)] [.int i2] rfl ?_
  refine sm_if (pc1 := 21) (lv1 := [(0, .ref a0), (1, .int i1), (2, .int i2)]) (pc2 := 14) (lv2 := [(0, .ref a0), (1, .int i1), (2, .int i2)]) (st1 := []) rfl rfl rfl (fun h22 => ?_) (fun h22 => ?_)
  · exact jt_232_21 w a0 i1 i2
  · refine sm_seg 1 15 [(0, .ref a0), (1, .int i1), (2, .int i2)] [.ref a0] rfl ?_
    refine sm_gd fun h23 => ?_
    refine sm_gR rfl h23 rfl rfl fun r24 h25 => ?_
    show sm _ _ _ _ 18 [(0, .ref a0), (1, .int i1), (2, .int i2)] [.ref r24] _ _
    refine sm_seg 1 19 [(0, .ref a0), (1, .int i1), (2, .int i2)] [.int i1, .ref r24] rfl ?_
    refine sm_gd fun h26 => ?_
    refine sm_ai rfl h26 rfl ?_
    show sm _ _ _ _ 20 [(0, .ref a0), (1, .int i1), (2, .int i2)] [.int (cm_I w r24 i1.toNatClampNeg)] _ _
    exact sm_rI rfl rfl
def fn_232 (w : cm_W) (a0 : Nat) (i1 : Int32) (i2 : Int32) : Option Int32 := (if cm_sh w a0 = some (.inl 11) then (fn_225 w a0 i1).bind fun v28 => (if ¬ (cm_b v28) = 0 then fn_232_10 w a0 i1 i2 else some (-1 : Int32)) else none)
theorem jt_232_0 (w : cm_W) (a0 : Nat) (i1 : Int32) (i2 : Int32) : sm cm_g 232 ck_232 kq_232 0 [(0, .ref a0), (1, .int i1), (2, .int i2)] [] w ((fn_232 w a0 i1 i2).map (cm_fI w)) := by
  unfold fn_232
  refine sm_seg 2 2 [(0, .ref a0), (1, .int i1), (2, .int i2)] [.int i1, .ref a0] rfl ?_
  refine sm_gd fun h27 => ?_
  refine sm_cV (as := [.int i1]) (rest := []) rfl rfl rfl rfl h27 (Nat.le_of_ble_eq_true rfl) (ca_225 w a0 i1) fun v28 h29 => ?_
  show sm _ _ _ _ 5 [(0, .ref a0), (1, .int i1), (2, .int i2)] [.int (cm_b v28)] _ _
  refine sm_if (pc1 := 10) (lv1 := [(0, .ref a0), (1, .int i1), (2, .int i2)]) (pc2 := 8) (lv2 := [(0, .ref a0), (1, .int i1), (2, .int i2)]) (st1 := []) rfl rfl rfl (fun h30 => ?_) (fun h30 => ?_)
  · exact jt_232_10 w a0 i1 i2
  · refine sm_seg 1 9 [(0, .ref a0), (1, .int i1), (2, .int i2)] [.int (-1 : Int32)] rfl ?_
    exact sm_rI rfl rfl
theorem ca_232 (w : cm_W) (a0 : Nat) (i1 : Int32) (i2 : Int32) : cm_ca cm_g 232 [.ref a0, .int i1, .int i2] w ((fn_232 w a0 i1 i2).map (cm_fI w)) := cm_ca_of (cm_me_of rfl rfl) rfl (jt_232_0 w a0 i1 i2)
-- NailedBoxesModel.isBox(I)Z
def fn_233 (w : cm_W) (a0 : Nat) (i1 : Int32) : Option Bool := (if cm_sh w a0 = some (.inl 11) then (fn_194 w i1 (0 : Int32) ((cm_I w a0 38) - (1 : Int32))).bind fun v2 => some v2 else none)
theorem jt_233_0 (w : cm_W) (a0 : Nat) (i1 : Int32) : sm cm_g 233 ck_233 kq_233 0 [(0, .ref a0), (1, .int i1)] [] w ((fn_233 w a0 i1).map (cm_fB w)) := by
  unfold fn_233
  refine sm_seg 3 3 [(0, .ref a0), (1, .int i1)] [.ref a0, .int (0 : Int32), .int i1] rfl ?_
  refine sm_gd fun h1 => ?_
  refine sm_gI rfl h1 rfl ?_
  show sm _ _ _ _ 6 [(0, .ref a0), (1, .int i1)] [.int (cm_I w a0 38), .int (0 : Int32), .int i1] _ _
  refine sm_seg 2 8 [(0, .ref a0), (1, .int i1)] [.int ((cm_I w a0 38) - (1 : Int32)), .int (0 : Int32), .int i1] rfl ?_
  refine sm_cS (av := [.int i1, .int (0 : Int32), .int ((cm_I w a0 38) - (1 : Int32))]) (rest := []) rfl rfl rfl rfl (Nat.le_of_ble_eq_true rfl) (ca_194 w i1 (0 : Int32) ((cm_I w a0 38) - (1 : Int32))) fun v2 h3 => ?_
  show sm _ _ _ _ 11 [(0, .ref a0), (1, .int i1)] [.int (cm_b v2)] _ _
  exact sm_rB (b := v2) rfl rfl
theorem ca_233 (w : cm_W) (a0 : Nat) (i1 : Int32) : cm_ca cm_g 233 [.ref a0, .int i1] w ((fn_233 w a0 i1).map (cm_fB w)) := cm_ca_of (cm_me_of rfl rfl) rfl (jt_233_0 w a0 i1)
-- NailedBoxesModel.isAhead()Z
def fn_234 (w : cm_W) (a0 : Nat) : Option Bool := (if cm_sh w a0 = some (.inl 11) then (if (5 : Int32) ≤ (cm_I w a0 8) then some false else some true) else none)
theorem jt_234_0 (w : cm_W) (a0 : Nat) : sm cm_g 234 ck_234 kq_234 0 [(0, .ref a0)] [] w ((fn_234 w a0).map (cm_fB w)) := by
  unfold fn_234
  refine sm_seg 1 1 [(0, .ref a0)] [.ref a0] rfl ?_
  refine sm_gd fun h1 => ?_
  refine sm_gI rfl h1 rfl ?_
  show sm _ _ _ _ 4 [(0, .ref a0)] [.int (cm_I w a0 8)] _ _
  refine sm_seg 1 5 [(0, .ref a0)] [.int (5 : Int32), .int (cm_I w a0 8)] rfl ?_
  refine sm_if (pc1 := 12) (lv1 := []) (pc2 := 8) (lv2 := [(0, .ref a0)]) (st1 := []) rfl rfl rfl (fun h2 => ?_) (fun h2 => ?_)
  · refine sm_seg 1 13 [] [.int (0 : Int32)] rfl ?_
    exact sm_rB (b := false) rfl rfl
  · refine sm_seg 2 13 [] [.int (1 : Int32)] rfl ?_
    exact sm_rB (b := true) rfl rfl
theorem ca_234 (w : cm_W) (a0 : Nat) : cm_ca cm_g 234 [.ref a0] w ((fn_234 w a0).map (cm_fB w)) := cm_ca_of (cm_me_of rfl rfl) rfl (jt_234_0 w a0)
-- NailedBoxesModel.box(II)I
def fn_235_32 (a0 : Nat) (w : cm_W) : Option (Int32 × cm_W) := (if cm_sh w a0 = some (.inl 11) then (fn_199 a0 (0 : Int32) (-1 : Int32) w).bind fun v2 => some (v2.1, v2.2) else none)
theorem jt_235_32 (a0 : Nat) (w : cm_W) : sm cm_g 235 ck_235 kq_235 32 [(0, .ref a0)] [] w ((fn_235_32 a0 w).map cm_gI) := by
  unfold fn_235_32
  refine sm_seg 3 35 [(0, .ref a0)] [.int (-1 : Int32), .int (0 : Int32), .ref a0] rfl ?_
  refine sm_gd fun h1 => ?_
  refine sm_cV (as := [.int (0 : Int32), .int (-1 : Int32)]) (rest := []) rfl rfl rfl rfl h1 (Nat.le_of_ble_eq_true rfl) (ca_199  a0 (0 : Int32) (-1 : Int32) w) fun v2 h3 => ?_
  show sm _ _ _ _ 38 [(0, .ref a0)] [.int v2.1] _ _
  exact sm_rIW rfl rfl
def fn_235_159 (a0 : Nat) (w : cm_W) : Option (Int32 × cm_W) := (if cm_sh w a0 = some (.inl 11) then (if cm_w2 96 143 a0 = true then some (((cm_I (cm_sI w a0 38 ((cm_I w a0 38) + (1 : Int32))) a0 38) - (1 : Int32)), (cm_sI w a0 38 ((cm_I w a0 38) + (1 : Int32)))) else none) else none)
theorem jt_235_159 (a0 : Nat) (w : cm_W) : sm cm_g 235 ck_235 kq_235 159 [(0, .ref a0)] [] w ((fn_235_159 a0 w).map cm_gI) := by
  unfold fn_235_159
  refine sm_seg 2 161 [(0, .ref a0)] [.ref a0, .ref a0] rfl ?_
  refine sm_gd fun h4 => ?_
  refine sm_gI rfl h4 rfl ?_
  show sm _ _ _ _ 164 [(0, .ref a0)] [.int (cm_I w a0 38), .ref a0] _ _
  refine sm_seg 2 166 [(0, .ref a0)] [.int ((cm_I w a0 38) + (1 : Int32)), .ref a0] rfl ?_
  refine sm_gd fun h5 => ?_
  refine sm_pI rfl h4 rfl h5 rfl ?_
  show sm _ _ _ _ 169 [(0, .ref a0)] [] _ _
  refine sm_seg 1 170 [(0, .ref a0)] [.ref a0] rfl ?_
  refine sm_gI rfl h4 rfl ?_
  show sm _ _ _ _ 173 [(0, .ref a0)] [.int (cm_I (cm_sI w a0 38 ((cm_I w a0 38) + (1 : Int32))) a0 38)] _ _
  refine sm_seg 2 175 [(0, .ref a0)] [.int ((cm_I (cm_sI w a0 38 ((cm_I w a0 38) + (1 : Int32))) a0 38) - (1 : Int32))] rfl ?_
  exact sm_rIW rfl rfl
def fn_235_132 : Nat → Nat → Int32 → cm_W → Option (Int32 × cm_W)
  | 0, _, _, _ => none
  | n + 1, a0, i3, w => (if (12 : Int32) ≤ i3 then fn_235_159  a0 w else (if cm_sh w a0 = some (.inl 11) then (cm_R w a0 47).bind fun r8 => (if cm_ga w .int r8 (((12 : Int32) * (cm_I w a0 38)) + i3) = true then (if cm_w2 96 143 r8 = true then fn_235_132 n a0 (i3 + (1 : Int32)) (cm_sI w r8 (((12 : Int32) * (cm_I w a0 38)) + i3).toNatClampNeg (0 : Int32)) else none) else none) else none))
theorem jt_235_132 : ∀ (n : Nat) (a0 : Nat) (i3 : Int32) (w : cm_W), sm cm_g 235 ck_235 kq_235 132 [(0, .ref a0), (3, .int i3)] [] w ((fn_235_132 n a0 i3 w).map cm_gI) := by
  intro n
  induction n with
  | zero => intro a0 i3 w; exact sm_no
  | succ n ih =>
    intro a0 i3 w
    rw [fn_235_132]
    refine sm_seg 2 135 [(0, .ref a0), (3, .int i3)] [.int (12 : Int32), .int i3] rfl ?_
    refine sm_if (pc1 := 159) (lv1 := [(0, .ref a0)]) (pc2 := 138) (lv2 := [(0, .ref a0), (3, .int i3)]) (st1 := []) rfl rfl rfl (fun h6 => ?_) (fun h6 => ?_)
    · exact jt_235_159  a0 w
    · refine sm_seg 1 139 [(0, .ref a0), (3, .int i3)] [.ref a0] rfl ?_
      refine sm_gd fun h7 => ?_
      refine sm_gR rfl h7 rfl rfl fun r8 h9 => ?_
      show sm _ _ _ _ 142 [(0, .ref a0), (3, .int i3)] [.ref r8] _ _
      refine sm_seg 2 145 [(0, .ref a0), (3, .int i3)] [.ref a0, .int (12 : Int32), .ref r8] rfl ?_
      refine sm_gI rfl h7 rfl ?_
      show sm _ _ _ _ 148 [(0, .ref a0), (3, .int i3)] [.int (cm_I w a0 38), .int (12 : Int32), .ref r8] _ _
      refine sm_seg 4 152 [(0, .ref a0), (3, .int i3)] [.int (0 : Int32), .int (((12 : Int32) * (cm_I w a0 38)) + i3), .ref r8] rfl ?_
      refine sm_gd fun h10 => ?_
      refine sm_gd fun h11 => ?_
      refine sm_si rfl h10 h11 rfl rfl ?_
      show sm _ _ _ _ 153 [(0, .ref a0), (3, .int i3)] [] _ _
      refine sm_seg 2 132 [(0, .ref a0), (3, .int (i3 + (1 : Int32)))] [] rfl ?_
      exact ih a0 (i3 + (1 : Int32)) (cm_sI w r8 (((12 : Int32) * (cm_I w a0 38)) + i3).toNatClampNeg (0 : Int32))
def fn_235_55 (a0 : Nat) (i1 : Int32) (i2 : Int32) (w : cm_W) : Option (Int32 × cm_W) := (if cm_sh w a0 = some (.inl 11) then (cm_R w a0 40).bind fun r13 => (if cm_ga w .int r13 (cm_I w a0 38) = true then (if cm_w2 96 143 r13 = true then (cm_R (cm_sI w r13 (cm_I w a0 38).toNatClampNeg i1) a0 41).bind fun r17 => (if cm_ga w .int r17 (cm_I (cm_sI w r13 (cm_I w a0 38).toNatClampNeg i1) a0 38) = true then (if cm_w2 96 143 r17 = true then (cm_R (cm_sI (cm_sI w r13 (cm_I w a0 38).toNatClampNeg i1) r17 (cm_I (cm_sI w r13 (cm_I w a0 38).toNatClampNeg i1) a0 38).toNatClampNeg i2) a0 42).bind fun r21 => (if cm_ga w .int r21 (cm_I (cm_sI (cm_sI w r13 (cm_I w a0 38).toNatClampNeg i1) r17 (cm_I (cm_sI w r13 (cm_I w a0 38).toNatClampNeg i1) a0 38).toNatClampNeg i2) a0 38) = true then (if cm_w2 96 143 r21 = true then (cm_R (cm_sI (cm_sI (cm_sI w r13 (cm_I w a0 38).toNatClampNeg i1) r17 (cm_I (cm_sI w r13 (cm_I w a0 38).toNatClampNeg i1) a0 38).toNatClampNeg i2) r21 (cm_I (cm_sI (cm_sI w r13 (cm_I w a0 38).toNatClampNeg i1) r17 (cm_I (cm_sI w r13 (cm_I w a0 38).toNatClampNeg i1) a0 38).toNatClampNeg i2) a0 38).toNatClampNeg i1) a0 43).bind fun r25 => (if cm_ga w .int r25 (cm_I (cm_sI (cm_sI (cm_sI w r13 (cm_I w a0 38).toNatClampNeg i1) r17 (cm_I (cm_sI w r13 (cm_I w a0 38).toNatClampNeg i1) a0 38).toNatClampNeg i2) r21 (cm_I (cm_sI (cm_sI w r13 (cm_I w a0 38).toNatClampNeg i1) r17 (cm_I (cm_sI w r13 (cm_I w a0 38).toNatClampNeg i1) a0 38).toNatClampNeg i2) a0 38).toNatClampNeg i1) a0 38) = true then (if cm_w2 96 143 r25 = true then (cm_R (cm_sI (cm_sI (cm_sI (cm_sI w r13 (cm_I w a0 38).toNatClampNeg i1) r17 (cm_I (cm_sI w r13 (cm_I w a0 38).toNatClampNeg i1) a0 38).toNatClampNeg i2) r21 (cm_I (cm_sI (cm_sI w r13 (cm_I w a0 38).toNatClampNeg i1) r17 (cm_I (cm_sI w r13 (cm_I w a0 38).toNatClampNeg i1) a0 38).toNatClampNeg i2) a0 38).toNatClampNeg i1) r25 (cm_I (cm_sI (cm_sI (cm_sI w r13 (cm_I w a0 38).toNatClampNeg i1) r17 (cm_I (cm_sI w r13 (cm_I w a0 38).toNatClampNeg i1) a0 38).toNatClampNeg i2) r21 (cm_I (cm_sI (cm_sI w r13 (cm_I w a0 38).toNatClampNeg i1) r17 (cm_I (cm_sI w r13 (cm_I w a0 38).toNatClampNeg i1) a0 38).toNatClampNeg i2) a0 38).toNatClampNeg i1) a0 38).toNatClampNeg (-1 : Int32)) a0 44).bind fun r29 => (if cm_ga w .int r29 (cm_I (cm_sI (cm_sI (cm_sI (cm_sI w r13 (cm_I w a0 38).toNatClampNeg i1) r17 (cm_I (cm_sI w r13 (cm_I w a0 38).toNatClampNeg i1) a0 38).toNatClampNeg i2) r21 (cm_I (cm_sI (cm_sI w r13 (cm_I w a0 38).toNatClampNeg i1) r17 (cm_I (cm_sI w r13 (cm_I w a0 38).toNatClampNeg i1) a0 38).toNatClampNeg i2) a0 38).toNatClampNeg i1) r25 (cm_I (cm_sI (cm_sI (cm_sI w r13 (cm_I w a0 38).toNatClampNeg i1) r17 (cm_I (cm_sI w r13 (cm_I w a0 38).toNatClampNeg i1) a0 38).toNatClampNeg i2) r21 (cm_I (cm_sI (cm_sI w r13 (cm_I w a0 38).toNatClampNeg i1) r17 (cm_I (cm_sI w r13 (cm_I w a0 38).toNatClampNeg i1) a0 38).toNatClampNeg i2) a0 38).toNatClampNeg i1) a0 38).toNatClampNeg (-1 : Int32)) a0 38) = true then (if cm_w2 96 143 r29 = true then (cm_R (cm_sI (cm_sI (cm_sI (cm_sI (cm_sI w r13 (cm_I w a0 38).toNatClampNeg i1) r17 (cm_I (cm_sI w r13 (cm_I w a0 38).toNatClampNeg i1) a0 38).toNatClampNeg i2) r21 (cm_I (cm_sI (cm_sI w r13 (cm_I w a0 38).toNatClampNeg i1) r17 (cm_I (cm_sI w r13 (cm_I w a0 38).toNatClampNeg i1) a0 38).toNatClampNeg i2) a0 38).toNatClampNeg i1) r25 (cm_I (cm_sI (cm_sI (cm_sI w r13 (cm_I w a0 38).toNatClampNeg i1) r17 (cm_I (cm_sI w r13 (cm_I w a0 38).toNatClampNeg i1) a0 38).toNatClampNeg i2) r21 (cm_I (cm_sI (cm_sI w r13 (cm_I w a0 38).toNatClampNeg i1) r17 (cm_I (cm_sI w r13 (cm_I w a0 38).toNatClampNeg i1) a0 38).toNatClampNeg i2) a0 38).toNatClampNeg i1) a0 38).toNatClampNeg (-1 : Int32)) r29 (cm_I (cm_sI (cm_sI (cm_sI (cm_sI w r13 (cm_I w a0 38).toNatClampNeg i1) r17 (cm_I (cm_sI w r13 (cm_I w a0 38).toNatClampNeg i1) a0 38).toNatClampNeg i2) r21 (cm_I (cm_sI (cm_sI w r13 (cm_I w a0 38).toNatClampNeg i1) r17 (cm_I (cm_sI w r13 (cm_I w a0 38).toNatClampNeg i1) a0 38).toNatClampNeg i2) a0 38).toNatClampNeg i1) r25 (cm_I (cm_sI (cm_sI (cm_sI w r13 (cm_I w a0 38).toNatClampNeg i1) r17 (cm_I (cm_sI w r13 (cm_I w a0 38).toNatClampNeg i1) a0 38).toNatClampNeg i2) r21 (cm_I (cm_sI (cm_sI w r13 (cm_I w a0 38).toNatClampNeg i1) r17 (cm_I (cm_sI w r13 (cm_I w a0 38).toNatClampNeg i1) a0 38).toNatClampNeg i2) a0 38).toNatClampNeg i1) a0 38).toNatClampNeg (-1 : Int32)) a0 38).toNatClampNeg ((1 : Int32) <<< (i1 &&& 31))) a0 45).bind fun r33 => (if cm_ga w .int r33 (cm_I (cm_sI (cm_sI (cm_sI (cm_sI (cm_sI w r13 (cm_I w a0 38).toNatClampNeg i1) r17 (cm_I (cm_sI w r13 (cm_I w a0 38).toNatClampNeg i1) a0 38).toNatClampNeg i2) r21 (cm_I (cm_sI (cm_sI w r13 (cm_I w a0 38).toNatClampNeg i1) r17 (cm_I (cm_sI w r13 (cm_I w a0 38).toNatClampNeg i1) a0 38).toNatClampNeg i2) a0 38).toNatClampNeg i1) r25 (cm_I (cm_sI (cm_sI (cm_sI w r13 (cm_I w a0 38).toNatClampNeg i1) r17 (cm_I (cm_sI w r13 (cm_I w a0 38).toNatClampNeg i1) a0 38).toNatClampNeg i2) r21 (cm_I (cm_sI (cm_sI w r13 (cm_I w a0 38).toNatClampNeg i1) r17 (cm_I (cm_sI w r13 (cm_I w a0 38).toNatClampNeg i1) a0 38).toNatClampNeg i2) a0 38).toNatClampNeg i1) a0 38).toNatClampNeg (-1 : Int32)) r29 (cm_I (cm_sI (cm_sI (cm_sI (cm_sI w r13 (cm_I w a0 38).toNatClampNeg i1) r17 (cm_I (cm_sI w r13 (cm_I w a0 38).toNatClampNeg i1) a0 38).toNatClampNeg i2) r21 (cm_I (cm_sI (cm_sI w r13 (cm_I w a0 38).toNatClampNeg i1) r17 (cm_I (cm_sI w r13 (cm_I w a0 38).toNatClampNeg i1) a0 38).toNatClampNeg i2) a0 38).toNatClampNeg i1) r25 (cm_I (cm_sI (cm_sI (cm_sI w r13 (cm_I w a0 38).toNatClampNeg i1) r17 (cm_I (cm_sI w r13 (cm_I w a0 38).toNatClampNeg i1) a0 38).toNatClampNeg i2) r21 (cm_I (cm_sI (cm_sI w r13 (cm_I w a0 38).toNatClampNeg i1) r17 (cm_I (cm_sI w r13 (cm_I w a0 38).toNatClampNeg i1) a0 38).toNatClampNeg i2) a0 38).toNatClampNeg i1) a0 38).toNatClampNeg (-1 : Int32)) a0 38).toNatClampNeg ((1 : Int32) <<< (i1 &&& 31))) a0 38) = true then (if cm_w2 96 143 r33 = true then (cm_R (cm_sI (cm_sI (cm_sI (cm_sI (cm_sI (cm_sI w r13 (cm_I w a0 38).toNatClampNeg i1) r17 (cm_I (cm_sI w r13 (cm_I w a0 38).toNatClampNeg i1) a0 38).toNatClampNeg i2) r21 (cm_I (cm_sI (cm_sI w r13 (cm_I w a0 38).toNatClampNeg i1) r17 (cm_I (cm_sI w r13 (cm_I w a0 38).toNatClampNeg i1) a0 38).toNatClampNeg i2) a0 38).toNatClampNeg i1) r25 (cm_I (cm_sI (cm_sI (cm_sI w r13 (cm_I w a0 38).toNatClampNeg i1) r17 (cm_I (cm_sI w r13 (cm_I w a0 38).toNatClampNeg i1) a0 38).toNatClampNeg i2) r21 (cm_I (cm_sI (cm_sI w r13 (cm_I w a0 38).toNatClampNeg i1) r17 (cm_I (cm_sI w r13 (cm_I w a0 38).toNatClampNeg i1) a0 38).toNatClampNeg i2) a0 38).toNatClampNeg i1) a0 38).toNatClampNeg (-1 : Int32)) r29 (cm_I (cm_sI (cm_sI (cm_sI (cm_sI w r13 (cm_I w a0 38).toNatClampNeg i1) r17 (cm_I (cm_sI w r13 (cm_I w a0 38).toNatClampNeg i1) a0 38).toNatClampNeg i2) r21 (cm_I (cm_sI (cm_sI w r13 (cm_I w a0 38).toNatClampNeg i1) r17 (cm_I (cm_sI w r13 (cm_I w a0 38).toNatClampNeg i1) a0 38).toNatClampNeg i2) a0 38).toNatClampNeg i1) r25 (cm_I (cm_sI (cm_sI (cm_sI w r13 (cm_I w a0 38).toNatClampNeg i1) r17 (cm_I (cm_sI w r13 (cm_I w a0 38).toNatClampNeg i1) a0 38).toNatClampNeg i2) r21 (cm_I (cm_sI (cm_sI w r13 (cm_I w a0 38).toNatClampNeg i1) r17 (cm_I (cm_sI w r13 (cm_I w a0 38).toNatClampNeg i1) a0 38).toNatClampNeg i2) a0 38).toNatClampNeg i1) a0 38).toNatClampNeg (-1 : Int32)) a0 38).toNatClampNeg ((1 : Int32) <<< (i1 &&& 31))) r33 (cm_I (cm_sI (cm_sI (cm_sI (cm_sI (cm_sI w r13 (cm_I w a0 38).toNatClampNeg i1) r17 (cm_I (cm_sI w r13 (cm_I w a0 38).toNatClampNeg i1) a0 38).toNatClampNeg i2) r21 (cm_I (cm_sI (cm_sI w r13 (cm_I w a0 38).toNatClampNeg i1) r17 (cm_I (cm_sI w r13 (cm_I w a0 38).toNatClampNeg i1) a0 38).toNatClampNeg i2) a0 38).toNatClampNeg i1) r25 (cm_I (cm_sI (cm_sI (cm_sI w r13 (cm_I w a0 38).toNatClampNeg i1) r17 (cm_I (cm_sI w r13 (cm_I w a0 38).toNatClampNeg i1) a0 38).toNatClampNeg i2) r21 (cm_I (cm_sI (cm_sI w r13 (cm_I w a0 38).toNatClampNeg i1) r17 (cm_I (cm_sI w r13 (cm_I w a0 38).toNatClampNeg i1) a0 38).toNatClampNeg i2) a0 38).toNatClampNeg i1) a0 38).toNatClampNeg (-1 : Int32)) r29 (cm_I (cm_sI (cm_sI (cm_sI (cm_sI w r13 (cm_I w a0 38).toNatClampNeg i1) r17 (cm_I (cm_sI w r13 (cm_I w a0 38).toNatClampNeg i1) a0 38).toNatClampNeg i2) r21 (cm_I (cm_sI (cm_sI w r13 (cm_I w a0 38).toNatClampNeg i1) r17 (cm_I (cm_sI w r13 (cm_I w a0 38).toNatClampNeg i1) a0 38).toNatClampNeg i2) a0 38).toNatClampNeg i1) r25 (cm_I (cm_sI (cm_sI (cm_sI w r13 (cm_I w a0 38).toNatClampNeg i1) r17 (cm_I (cm_sI w r13 (cm_I w a0 38).toNatClampNeg i1) a0 38).toNatClampNeg i2) r21 (cm_I (cm_sI (cm_sI w r13 (cm_I w a0 38).toNatClampNeg i1) r17 (cm_I (cm_sI w r13 (cm_I w a0 38).toNatClampNeg i1) a0 38).toNatClampNeg i2) a0 38).toNatClampNeg i1) a0 38).toNatClampNeg (-1 : Int32)) a0 38).toNatClampNeg ((1 : Int32) <<< (i1 &&& 31))) a0 38).toNatClampNeg (cm_I (cm_sI (cm_sI (cm_sI (cm_sI (cm_sI w r13 (cm_I w a0 38).toNatClampNeg i1) r17 (cm_I (cm_sI w r13 (cm_I w a0 38).toNatClampNeg i1) a0 38).toNatClampNeg i2) r21 (cm_I (cm_sI (cm_sI w r13 (cm_I w a0 38).toNatClampNeg i1) r17 (cm_I (cm_sI w r13 (cm_I w a0 38).toNatClampNeg i1) a0 38).toNatClampNeg i2) a0 38).toNatClampNeg i1) r25 (cm_I (cm_sI (cm_sI (cm_sI w r13 (cm_I w a0 38).toNatClampNeg i1) r17 (cm_I (cm_sI w r13 (cm_I w a0 38).toNatClampNeg i1) a0 38).toNatClampNeg i2) r21 (cm_I (cm_sI (cm_sI w r13 (cm_I w a0 38).toNatClampNeg i1) r17 (cm_I (cm_sI w r13 (cm_I w a0 38).toNatClampNeg i1) a0 38).toNatClampNeg i2) a0 38).toNatClampNeg i1) a0 38).toNatClampNeg (-1 : Int32)) r29 (cm_I (cm_sI (cm_sI (cm_sI (cm_sI w r13 (cm_I w a0 38).toNatClampNeg i1) r17 (cm_I (cm_sI w r13 (cm_I w a0 38).toNatClampNeg i1) a0 38).toNatClampNeg i2) r21 (cm_I (cm_sI (cm_sI w r13 (cm_I w a0 38).toNatClampNeg i1) r17 (cm_I (cm_sI w r13 (cm_I w a0 38).toNatClampNeg i1) a0 38).toNatClampNeg i2) a0 38).toNatClampNeg i1) r25 (cm_I (cm_sI (cm_sI (cm_sI w r13 (cm_I w a0 38).toNatClampNeg i1) r17 (cm_I (cm_sI w r13 (cm_I w a0 38).toNatClampNeg i1) a0 38).toNatClampNeg i2) r21 (cm_I (cm_sI (cm_sI w r13 (cm_I w a0 38).toNatClampNeg i1) r17 (cm_I (cm_sI w r13 (cm_I w a0 38).toNatClampNeg i1) a0 38).toNatClampNeg i2) a0 38).toNatClampNeg i1) a0 38).toNatClampNeg (-1 : Int32)) a0 38).toNatClampNeg ((1 : Int32) <<< (i1 &&& 31))) a0 8)) a0 46).bind fun r37 => (if cm_ga w .int r37 (cm_I (cm_sI (cm_sI (cm_sI (cm_sI (cm_sI (cm_sI w r13 (cm_I w a0 38).toNatClampNeg i1) r17 (cm_I (cm_sI w r13 (cm_I w a0 38).toNatClampNeg i1) a0 38).toNatClampNeg i2) r21 (cm_I (cm_sI (cm_sI w r13 (cm_I w a0 38).toNatClampNeg i1) r17 (cm_I (cm_sI w r13 (cm_I w a0 38).toNatClampNeg i1) a0 38).toNatClampNeg i2) a0 38).toNatClampNeg i1) r25 (cm_I (cm_sI (cm_sI (cm_sI w r13 (cm_I w a0 38).toNatClampNeg i1) r17 (cm_I (cm_sI w r13 (cm_I w a0 38).toNatClampNeg i1) a0 38).toNatClampNeg i2) r21 (cm_I (cm_sI (cm_sI w r13 (cm_I w a0 38).toNatClampNeg i1) r17 (cm_I (cm_sI w r13 (cm_I w a0 38).toNatClampNeg i1) a0 38).toNatClampNeg i2) a0 38).toNatClampNeg i1) a0 38).toNatClampNeg (-1 : Int32)) r29 (cm_I (cm_sI (cm_sI (cm_sI (cm_sI w r13 (cm_I w a0 38).toNatClampNeg i1) r17 (cm_I (cm_sI w r13 (cm_I w a0 38).toNatClampNeg i1) a0 38).toNatClampNeg i2) r21 (cm_I (cm_sI (cm_sI w r13 (cm_I w a0 38).toNatClampNeg i1) r17 (cm_I (cm_sI w r13 (cm_I w a0 38).toNatClampNeg i1) a0 38).toNatClampNeg i2) a0 38).toNatClampNeg i1) r25 (cm_I (cm_sI (cm_sI (cm_sI w r13 (cm_I w a0 38).toNatClampNeg i1) r17 (cm_I (cm_sI w r13 (cm_I w a0 38).toNatClampNeg i1) a0 38).toNatClampNeg i2) r21 (cm_I (cm_sI (cm_sI w r13 (cm_I w a0 38).toNatClampNeg i1) r17 (cm_I (cm_sI w r13 (cm_I w a0 38).toNatClampNeg i1) a0 38).toNatClampNeg i2) a0 38).toNatClampNeg i1) a0 38).toNatClampNeg (-1 : Int32)) a0 38).toNatClampNeg ((1 : Int32) <<< (i1 &&& 31))) r33 (cm_I (cm_sI (cm_sI (cm_sI (cm_sI (cm_sI w r13 (cm_I w a0 38).toNatClampNeg i1) r17 (cm_I (cm_sI w r13 (cm_I w a0 38).toNatClampNeg i1) a0 38).toNatClampNeg i2) r21 (cm_I (cm_sI (cm_sI w r13 (cm_I w a0 38).toNatClampNeg i1) r17 (cm_I (cm_sI w r13 (cm_I w a0 38).toNatClampNeg i1) a0 38).toNatClampNeg i2) a0 38).toNatClampNeg i1) r25 (cm_I (cm_sI (cm_sI (cm_sI w r13 (cm_I w a0 38).toNatClampNeg i1) r17 (cm_I (cm_sI w r13 (cm_I w a0 38).toNatClampNeg i1) a0 38).toNatClampNeg i2) r21 (cm_I (cm_sI (cm_sI w r13 (cm_I w a0 38).toNatClampNeg i1) r17 (cm_I (cm_sI w r13 (cm_I w a0 38).toNatClampNeg i1) a0 38).toNatClampNeg i2) a0 38).toNatClampNeg i1) a0 38).toNatClampNeg (-1 : Int32)) r29 (cm_I (cm_sI (cm_sI (cm_sI (cm_sI w r13 (cm_I w a0 38).toNatClampNeg i1) r17 (cm_I (cm_sI w r13 (cm_I w a0 38).toNatClampNeg i1) a0 38).toNatClampNeg i2) r21 (cm_I (cm_sI (cm_sI w r13 (cm_I w a0 38).toNatClampNeg i1) r17 (cm_I (cm_sI w r13 (cm_I w a0 38).toNatClampNeg i1) a0 38).toNatClampNeg i2) a0 38).toNatClampNeg i1) r25 (cm_I (cm_sI (cm_sI (cm_sI w r13 (cm_I w a0 38).toNatClampNeg i1) r17 (cm_I (cm_sI w r13 (cm_I w a0 38).toNatClampNeg i1) a0 38).toNatClampNeg i2) r21 (cm_I (cm_sI (cm_sI w r13 (cm_I w a0 38).toNatClampNeg i1) r17 (cm_I (cm_sI w r13 (cm_I w a0 38).toNatClampNeg i1) a0 38).toNatClampNeg i2) a0 38).toNatClampNeg i1) a0 38).toNatClampNeg (-1 : Int32)) a0 38).toNatClampNeg ((1 : Int32) <<< (i1 &&& 31))) a0 38).toNatClampNeg (cm_I (cm_sI (cm_sI (cm_sI (cm_sI (cm_sI w r13 (cm_I w a0 38).toNatClampNeg i1) r17 (cm_I (cm_sI w r13 (cm_I w a0 38).toNatClampNeg i1) a0 38).toNatClampNeg i2) r21 (cm_I (cm_sI (cm_sI w r13 (cm_I w a0 38).toNatClampNeg i1) r17 (cm_I (cm_sI w r13 (cm_I w a0 38).toNatClampNeg i1) a0 38).toNatClampNeg i2) a0 38).toNatClampNeg i1) r25 (cm_I (cm_sI (cm_sI (cm_sI w r13 (cm_I w a0 38).toNatClampNeg i1) r17 (cm_I (cm_sI w r13 (cm_I w a0 38).toNatClampNeg i1) a0 38).toNatClampNeg i2) r21 (cm_I (cm_sI (cm_sI w r13 (cm_I w a0 38).toNatClampNeg i1) r17 (cm_I (cm_sI w r13 (cm_I w a0 38).toNatClampNeg i1) a0 38).toNatClampNeg i2) a0 38).toNatClampNeg i1) a0 38).toNatClampNeg (-1 : Int32)) r29 (cm_I (cm_sI (cm_sI (cm_sI (cm_sI w r13 (cm_I w a0 38).toNatClampNeg i1) r17 (cm_I (cm_sI w r13 (cm_I w a0 38).toNatClampNeg i1) a0 38).toNatClampNeg i2) r21 (cm_I (cm_sI (cm_sI w r13 (cm_I w a0 38).toNatClampNeg i1) r17 (cm_I (cm_sI w r13 (cm_I w a0 38).toNatClampNeg i1) a0 38).toNatClampNeg i2) a0 38).toNatClampNeg i1) r25 (cm_I (cm_sI (cm_sI (cm_sI w r13 (cm_I w a0 38).toNatClampNeg i1) r17 (cm_I (cm_sI w r13 (cm_I w a0 38).toNatClampNeg i1) a0 38).toNatClampNeg i2) r21 (cm_I (cm_sI (cm_sI w r13 (cm_I w a0 38).toNatClampNeg i1) r17 (cm_I (cm_sI w r13 (cm_I w a0 38).toNatClampNeg i1) a0 38).toNatClampNeg i2) a0 38).toNatClampNeg i1) a0 38).toNatClampNeg (-1 : Int32)) a0 38).toNatClampNeg ((1 : Int32) <<< (i1 &&& 31))) a0 8)) a0 38) = true then (if cm_w2 96 143 r37 = true then fn_235_132  cm_N a0 (0 : Int32) (cm_sI (cm_sI (cm_sI (cm_sI (cm_sI (cm_sI (cm_sI w r13 (cm_I w a0 38).toNatClampNeg i1) r17 (cm_I (cm_sI w r13 (cm_I w a0 38).toNatClampNeg i1) a0 38).toNatClampNeg i2) r21 (cm_I (cm_sI (cm_sI w r13 (cm_I w a0 38).toNatClampNeg i1) r17 (cm_I (cm_sI w r13 (cm_I w a0 38).toNatClampNeg i1) a0 38).toNatClampNeg i2) a0 38).toNatClampNeg i1) r25 (cm_I (cm_sI (cm_sI (cm_sI w r13 (cm_I w a0 38).toNatClampNeg i1) r17 (cm_I (cm_sI w r13 (cm_I w a0 38).toNatClampNeg i1) a0 38).toNatClampNeg i2) r21 (cm_I (cm_sI (cm_sI w r13 (cm_I w a0 38).toNatClampNeg i1) r17 (cm_I (cm_sI w r13 (cm_I w a0 38).toNatClampNeg i1) a0 38).toNatClampNeg i2) a0 38).toNatClampNeg i1) a0 38).toNatClampNeg (-1 : Int32)) r29 (cm_I (cm_sI (cm_sI (cm_sI (cm_sI w r13 (cm_I w a0 38).toNatClampNeg i1) r17 (cm_I (cm_sI w r13 (cm_I w a0 38).toNatClampNeg i1) a0 38).toNatClampNeg i2) r21 (cm_I (cm_sI (cm_sI w r13 (cm_I w a0 38).toNatClampNeg i1) r17 (cm_I (cm_sI w r13 (cm_I w a0 38).toNatClampNeg i1) a0 38).toNatClampNeg i2) a0 38).toNatClampNeg i1) r25 (cm_I (cm_sI (cm_sI (cm_sI w r13 (cm_I w a0 38).toNatClampNeg i1) r17 (cm_I (cm_sI w r13 (cm_I w a0 38).toNatClampNeg i1) a0 38).toNatClampNeg i2) r21 (cm_I (cm_sI (cm_sI w r13 (cm_I w a0 38).toNatClampNeg i1) r17 (cm_I (cm_sI w r13 (cm_I w a0 38).toNatClampNeg i1) a0 38).toNatClampNeg i2) a0 38).toNatClampNeg i1) a0 38).toNatClampNeg (-1 : Int32)) a0 38).toNatClampNeg ((1 : Int32) <<< (i1 &&& 31))) r33 (cm_I (cm_sI (cm_sI (cm_sI (cm_sI (cm_sI w r13 (cm_I w a0 38).toNatClampNeg i1) r17 (cm_I (cm_sI w r13 (cm_I w a0 38).toNatClampNeg i1) a0 38).toNatClampNeg i2) r21 (cm_I (cm_sI (cm_sI w r13 (cm_I w a0 38).toNatClampNeg i1) r17 (cm_I (cm_sI w r13 (cm_I w a0 38).toNatClampNeg i1) a0 38).toNatClampNeg i2) a0 38).toNatClampNeg i1) r25 (cm_I (cm_sI (cm_sI (cm_sI w r13 (cm_I w a0 38).toNatClampNeg i1) r17 (cm_I (cm_sI w r13 (cm_I w a0 38).toNatClampNeg i1) a0 38).toNatClampNeg i2) r21 (cm_I (cm_sI (cm_sI w r13 (cm_I w a0 38).toNatClampNeg i1) r17 (cm_I (cm_sI w r13 (cm_I w a0 38).toNatClampNeg i1) a0 38).toNatClampNeg i2) a0 38).toNatClampNeg i1) a0 38).toNatClampNeg (-1 : Int32)) r29 (cm_I (cm_sI (cm_sI (cm_sI (cm_sI w r13 (cm_I w a0 38).toNatClampNeg i1) r17 (cm_I (cm_sI w r13 (cm_I w a0 38).toNatClampNeg i1) a0 38).toNatClampNeg i2) r21 (cm_I (cm_sI (cm_sI w r13 (cm_I w a0 38).toNatClampNeg i1) r17 (cm_I (cm_sI w r13 (cm_I w a0 38).toNatClampNeg i1) a0 38).toNatClampNeg i2) a0 38).toNatClampNeg i1) r25 (cm_I (cm_sI (cm_sI (cm_sI w r13 (cm_I w a0 38).toNatClampNeg i1) r17 (cm_I (cm_sI w r13 (cm_I w a0 38).toNatClampNeg i1) a0 38).toNatClampNeg i2) r21 (cm_I (cm_sI (cm_sI w r13 (cm_I w a0 38).toNatClampNeg i1) r17 (cm_I (cm_sI w r13 (cm_I w a0 38).toNatClampNeg i1) a0 38).toNatClampNeg i2) a0 38).toNatClampNeg i1) a0 38).toNatClampNeg (-1 : Int32)) a0 38).toNatClampNeg ((1 : Int32) <<< (i1 &&& 31))) a0 38).toNatClampNeg (cm_I (cm_sI (cm_sI (cm_sI (cm_sI (cm_sI w r13 (cm_I w a0 38).toNatClampNeg i1) r17 (cm_I (cm_sI w r13 (cm_I w a0 38).toNatClampNeg i1) a0 38).toNatClampNeg i2) r21 (cm_I (cm_sI (cm_sI w r13 (cm_I w a0 38).toNatClampNeg i1) r17 (cm_I (cm_sI w r13 (cm_I w a0 38).toNatClampNeg i1) a0 38).toNatClampNeg i2) a0 38).toNatClampNeg i1) r25 (cm_I (cm_sI (cm_sI (cm_sI w r13 (cm_I w a0 38).toNatClampNeg i1) r17 (cm_I (cm_sI w r13 (cm_I w a0 38).toNatClampNeg i1) a0 38).toNatClampNeg i2) r21 (cm_I (cm_sI (cm_sI w r13 (cm_I w a0 38).toNatClampNeg i1) r17 (cm_I (cm_sI w r13 (cm_I w a0 38).toNatClampNeg i1) a0 38).toNatClampNeg i2) a0 38).toNatClampNeg i1) a0 38).toNatClampNeg (-1 : Int32)) r29 (cm_I (cm_sI (cm_sI (cm_sI (cm_sI w r13 (cm_I w a0 38).toNatClampNeg i1) r17 (cm_I (cm_sI w r13 (cm_I w a0 38).toNatClampNeg i1) a0 38).toNatClampNeg i2) r21 (cm_I (cm_sI (cm_sI w r13 (cm_I w a0 38).toNatClampNeg i1) r17 (cm_I (cm_sI w r13 (cm_I w a0 38).toNatClampNeg i1) a0 38).toNatClampNeg i2) a0 38).toNatClampNeg i1) r25 (cm_I (cm_sI (cm_sI (cm_sI w r13 (cm_I w a0 38).toNatClampNeg i1) r17 (cm_I (cm_sI w r13 (cm_I w a0 38).toNatClampNeg i1) a0 38).toNatClampNeg i2) r21 (cm_I (cm_sI (cm_sI w r13 (cm_I w a0 38).toNatClampNeg i1) r17 (cm_I (cm_sI w r13 (cm_I w a0 38).toNatClampNeg i1) a0 38).toNatClampNeg i2) a0 38).toNatClampNeg i1) a0 38).toNatClampNeg (-1 : Int32)) a0 38).toNatClampNeg ((1 : Int32) <<< (i1 &&& 31))) a0 8)) r37 (cm_I (cm_sI (cm_sI (cm_sI (cm_sI (cm_sI (cm_sI w r13 (cm_I w a0 38).toNatClampNeg i1) r17 (cm_I (cm_sI w r13 (cm_I w a0 38).toNatClampNeg i1) a0 38).toNatClampNeg i2) r21 (cm_I (cm_sI (cm_sI w r13 (cm_I w a0 38).toNatClampNeg i1) r17 (cm_I (cm_sI w r13 (cm_I w a0 38).toNatClampNeg i1) a0 38).toNatClampNeg i2) a0 38).toNatClampNeg i1) r25 (cm_I (cm_sI (cm_sI (cm_sI w r13 (cm_I w a0 38).toNatClampNeg i1) r17 (cm_I (cm_sI w r13 (cm_I w a0 38).toNatClampNeg i1) a0 38).toNatClampNeg i2) r21 (cm_I (cm_sI (cm_sI w r13 (cm_I w a0 38).toNatClampNeg i1) r17 (cm_I (cm_sI w r13 (cm_I w a0 38).toNatClampNeg i1) a0 38).toNatClampNeg i2) a0 38).toNatClampNeg i1) a0 38).toNatClampNeg (-1 : Int32)) r29 (cm_I (cm_sI (cm_sI (cm_sI (cm_sI w r13 (cm_I w a0 38).toNatClampNeg i1) r17 (cm_I (cm_sI w r13 (cm_I w a0 38).toNatClampNeg i1) a0 38).toNatClampNeg i2) r21 (cm_I (cm_sI (cm_sI w r13 (cm_I w a0 38).toNatClampNeg i1) r17 (cm_I (cm_sI w r13 (cm_I w a0 38).toNatClampNeg i1) a0 38).toNatClampNeg i2) a0 38).toNatClampNeg i1) r25 (cm_I (cm_sI (cm_sI (cm_sI w r13 (cm_I w a0 38).toNatClampNeg i1) r17 (cm_I (cm_sI w r13 (cm_I w a0 38).toNatClampNeg i1) a0 38).toNatClampNeg i2) r21 (cm_I (cm_sI (cm_sI w r13 (cm_I w a0 38).toNatClampNeg i1) r17 (cm_I (cm_sI w r13 (cm_I w a0 38).toNatClampNeg i1) a0 38).toNatClampNeg i2) a0 38).toNatClampNeg i1) a0 38).toNatClampNeg (-1 : Int32)) a0 38).toNatClampNeg ((1 : Int32) <<< (i1 &&& 31))) r33 (cm_I (cm_sI (cm_sI (cm_sI (cm_sI (cm_sI w r13 (cm_I w a0 38).toNatClampNeg i1) r17 (cm_I (cm_sI w r13 (cm_I w a0 38).toNatClampNeg i1) a0 38).toNatClampNeg i2) r21 (cm_I (cm_sI (cm_sI w r13 (cm_I w a0 38).toNatClampNeg i1) r17 (cm_I (cm_sI w r13 (cm_I w a0 38).toNatClampNeg i1) a0 38).toNatClampNeg i2) a0 38).toNatClampNeg i1) r25 (cm_I (cm_sI (cm_sI (cm_sI w r13 (cm_I w a0 38).toNatClampNeg i1) r17 (cm_I (cm_sI w r13 (cm_I w a0 38).toNatClampNeg i1) a0 38).toNatClampNeg i2) r21 (cm_I (cm_sI (cm_sI w r13 (cm_I w a0 38).toNatClampNeg i1) r17 (cm_I (cm_sI w r13 (cm_I w a0 38).toNatClampNeg i1) a0 38).toNatClampNeg i2) a0 38).toNatClampNeg i1) a0 38).toNatClampNeg (-1 : Int32)) r29 (cm_I (cm_sI (cm_sI (cm_sI (cm_sI w r13 (cm_I w a0 38).toNatClampNeg i1) r17 (cm_I (cm_sI w r13 (cm_I w a0 38).toNatClampNeg i1) a0 38).toNatClampNeg i2) r21 (cm_I (cm_sI (cm_sI w r13 (cm_I w a0 38).toNatClampNeg i1) r17 (cm_I (cm_sI w r13 (cm_I w a0 38).toNatClampNeg i1) a0 38).toNatClampNeg i2) a0 38).toNatClampNeg i1) r25 (cm_I (cm_sI (cm_sI (cm_sI w r13 (cm_I w a0 38).toNatClampNeg i1) r17 (cm_I (cm_sI w r13 (cm_I w a0 38).toNatClampNeg i1) a0 38).toNatClampNeg i2) r21 (cm_I (cm_sI (cm_sI w r13 (cm_I w a0 38).toNatClampNeg i1) r17 (cm_I (cm_sI w r13 (cm_I w a0 38).toNatClampNeg i1) a0 38).toNatClampNeg i2) a0 38).toNatClampNeg i1) a0 38).toNatClampNeg (-1 : Int32)) a0 38).toNatClampNeg ((1 : Int32) <<< (i1 &&& 31))) a0 38).toNatClampNeg (cm_I (cm_sI (cm_sI (cm_sI (cm_sI (cm_sI w r13 (cm_I w a0 38).toNatClampNeg i1) r17 (cm_I (cm_sI w r13 (cm_I w a0 38).toNatClampNeg i1) a0 38).toNatClampNeg i2) r21 (cm_I (cm_sI (cm_sI w r13 (cm_I w a0 38).toNatClampNeg i1) r17 (cm_I (cm_sI w r13 (cm_I w a0 38).toNatClampNeg i1) a0 38).toNatClampNeg i2) a0 38).toNatClampNeg i1) r25 (cm_I (cm_sI (cm_sI (cm_sI w r13 (cm_I w a0 38).toNatClampNeg i1) r17 (cm_I (cm_sI w r13 (cm_I w a0 38).toNatClampNeg i1) a0 38).toNatClampNeg i2) r21 (cm_I (cm_sI (cm_sI w r13 (cm_I w a0 38).toNatClampNeg i1) r17 (cm_I (cm_sI w r13 (cm_I w a0 38).toNatClampNeg i1) a0 38).toNatClampNeg i2) a0 38).toNatClampNeg i1) a0 38).toNatClampNeg (-1 : Int32)) r29 (cm_I (cm_sI (cm_sI (cm_sI (cm_sI w r13 (cm_I w a0 38).toNatClampNeg i1) r17 (cm_I (cm_sI w r13 (cm_I w a0 38).toNatClampNeg i1) a0 38).toNatClampNeg i2) r21 (cm_I (cm_sI (cm_sI w r13 (cm_I w a0 38).toNatClampNeg i1) r17 (cm_I (cm_sI w r13 (cm_I w a0 38).toNatClampNeg i1) a0 38).toNatClampNeg i2) a0 38).toNatClampNeg i1) r25 (cm_I (cm_sI (cm_sI (cm_sI w r13 (cm_I w a0 38).toNatClampNeg i1) r17 (cm_I (cm_sI w r13 (cm_I w a0 38).toNatClampNeg i1) a0 38).toNatClampNeg i2) r21 (cm_I (cm_sI (cm_sI w r13 (cm_I w a0 38).toNatClampNeg i1) r17 (cm_I (cm_sI w r13 (cm_I w a0 38).toNatClampNeg i1) a0 38).toNatClampNeg i2) a0 38).toNatClampNeg i1) a0 38).toNatClampNeg (-1 : Int32)) a0 38).toNatClampNeg ((1 : Int32) <<< (i1 &&& 31))) a0 8)) a0 38).toNatClampNeg (0 : Int32)) else none) else none) else none) else none) else none) else none) else none) else none) else none) else none) else none) else none) else none) else none) else none)
theorem jt_235_55 (a0 : Nat) (i1 : Int32) (i2 : Int32) (w : cm_W) : sm cm_g 235 ck_235 kq_235 55 [(0, .ref a0), (1, .int i1), (2, .int i2)] [] w ((fn_235_55 a0 i1 i2 w).map cm_gI) := by
  unfold fn_235_55
  refine sm_seg 1 56 [(0, .ref a0), (1, .int i1), (2, .int i2)] [.ref a0] rfl ?_
  refine sm_gd fun h12 => ?_
  refine sm_gR rfl h12 rfl rfl fun r13 h14 => ?_
  show sm _ _ _ _ 59 [(0, .ref a0), (1, .int i1), (2, .int i2)] [.ref r13] _ _
  refine sm_seg 1 60 [(0, .ref a0), (1, .int i1), (2, .int i2)] [.ref a0, .ref r13] rfl ?_
  refine sm_gI rfl h12 rfl ?_
  show sm _ _ _ _ 63 [(0, .ref a0), (1, .int i1), (2, .int i2)] [.int (cm_I w a0 38), .ref r13] _ _
  refine sm_seg 1 64 [(0, .ref a0), (1, .int i1), (2, .int i2)] [.int i1, .int (cm_I w a0 38), .ref r13] rfl ?_
  refine sm_gd fun h15 => ?_
  refine sm_gd fun h16 => ?_
  refine sm_si rfl h15 h16 rfl rfl ?_
  show sm _ _ _ _ 65 [(0, .ref a0), (1, .int i1), (2, .int i2)] [] _ _
  refine sm_seg 1 66 [(0, .ref a0), (1, .int i1), (2, .int i2)] [.ref a0] rfl ?_
  refine sm_gR rfl h12 rfl rfl fun r17 h18 => ?_
  show sm _ _ _ _ 69 [(0, .ref a0), (1, .int i1), (2, .int i2)] [.ref r17] _ _
  refine sm_seg 1 70 [(0, .ref a0), (1, .int i1), (2, .int i2)] [.ref a0, .ref r17] rfl ?_
  refine sm_gI rfl h12 rfl ?_
  show sm _ _ _ _ 73 [(0, .ref a0), (1, .int i1), (2, .int i2)] [.int (cm_I (cm_sI w r13 (cm_I w a0 38).toNatClampNeg i1) a0 38), .ref r17] _ _
  refine sm_seg 1 74 [(0, .ref a0), (1, .int i1), (2, .int i2)] [.int i2, .int (cm_I (cm_sI w r13 (cm_I w a0 38).toNatClampNeg i1) a0 38), .ref r17] rfl ?_
  refine sm_gd fun h19 => ?_
  refine sm_gd fun h20 => ?_
  refine sm_si rfl h19 h20 rfl rfl ?_
  show sm _ _ _ _ 75 [(0, .ref a0), (1, .int i1), (2, .int i2)] [] _ _
  refine sm_seg 1 76 [(0, .ref a0), (1, .int i1), (2, .int i2)] [.ref a0] rfl ?_
  refine sm_gR rfl h12 rfl rfl fun r21 h22 => ?_
  show sm _ _ _ _ 79 [(0, .ref a0), (1, .int i1), (2, .int i2)] [.ref r21] _ _
  refine sm_seg 1 80 [(0, .ref a0), (1, .int i1), (2, .int i2)] [.ref a0, .ref r21] rfl ?_
  refine sm_gI rfl h12 rfl ?_
  show sm _ _ _ _ 83 [(0, .ref a0), (1, .int i1), (2, .int i2)] [.int (cm_I (cm_sI (cm_sI w r13 (cm_I w a0 38).toNatClampNeg i1) r17 (cm_I (cm_sI w r13 (cm_I w a0 38).toNatClampNeg i1) a0 38).toNatClampNeg i2) a0 38), .ref r21] _ _
  refine sm_seg 1 84 [(0, .ref a0), (1, .int i1), (2, .int i2)] [.int i1, .int (cm_I (cm_sI (cm_sI w r13 (cm_I w a0 38).toNatClampNeg i1) r17 (cm_I (cm_sI w r13 (cm_I w a0 38).toNatClampNeg i1) a0 38).toNatClampNeg i2) a0 38), .ref r21] rfl ?_
  refine sm_gd fun h23 => ?_
  refine sm_gd fun h24 => ?_
  refine sm_si rfl h23 h24 rfl rfl ?_
  show sm _ _ _ _ 85 [(0, .ref a0), (1, .int i1), (2, .int i2)] [] _ _
  refine sm_seg 1 86 [(0, .ref a0), (1, .int i1), (2, .int i2)] [.ref a0] rfl ?_
  refine sm_gR rfl h12 rfl rfl fun r25 h26 => ?_
  show sm _ _ _ _ 89 [(0, .ref a0), (1, .int i1), (2, .int i2)] [.ref r25] _ _
  refine sm_seg 1 90 [(0, .ref a0), (1, .int i1), (2, .int i2)] [.ref a0, .ref r25] rfl ?_
  refine sm_gI rfl h12 rfl ?_
  show sm _ _ _ _ 93 [(0, .ref a0), (1, .int i1), (2, .int i2)] [.int (cm_I (cm_sI (cm_sI (cm_sI w r13 (cm_I w a0 38).toNatClampNeg i1) r17 (cm_I (cm_sI w r13 (cm_I w a0 38).toNatClampNeg i1) a0 38).toNatClampNeg i2) r21 (cm_I (cm_sI (cm_sI w r13 (cm_I w a0 38).toNatClampNeg i1) r17 (cm_I (cm_sI w r13 (cm_I w a0 38).toNatClampNeg i1) a0 38).toNatClampNeg i2) a0 38).toNatClampNeg i1) a0 38), .ref r25] _ _
  refine sm_seg 1 94 [(0, .ref a0), (1, .int i1), (2, .int i2)] [.int (-1 : Int32), .int (cm_I (cm_sI (cm_sI (cm_sI w r13 (cm_I w a0 38).toNatClampNeg i1) r17 (cm_I (cm_sI w r13 (cm_I w a0 38).toNatClampNeg i1) a0 38).toNatClampNeg i2) r21 (cm_I (cm_sI (cm_sI w r13 (cm_I w a0 38).toNatClampNeg i1) r17 (cm_I (cm_sI w r13 (cm_I w a0 38).toNatClampNeg i1) a0 38).toNatClampNeg i2) a0 38).toNatClampNeg i1) a0 38), .ref r25] rfl ?_
  refine sm_gd fun h27 => ?_
  refine sm_gd fun h28 => ?_
  refine sm_si rfl h27 h28 rfl rfl ?_
  show sm _ _ _ _ 95 [(0, .ref a0), (1, .int i1), (2, .int i2)] [] _ _
  refine sm_seg 1 96 [(0, .ref a0), (1, .int i1), (2, .int i2)] [.ref a0] rfl ?_
  refine sm_gR rfl h12 rfl rfl fun r29 h30 => ?_
  show sm _ _ _ _ 99 [(0, .ref a0), (1, .int i1), (2, .int i2)] [.ref r29] _ _
  refine sm_seg 1 100 [(0, .ref a0), (1, .int i1), (2, .int i2)] [.ref a0, .ref r29] rfl ?_
  refine sm_gI rfl h12 rfl ?_
  show sm _ _ _ _ 103 [(0, .ref a0), (1, .int i1), (2, .int i2)] [.int (cm_I (cm_sI (cm_sI (cm_sI (cm_sI w r13 (cm_I w a0 38).toNatClampNeg i1) r17 (cm_I (cm_sI w r13 (cm_I w a0 38).toNatClampNeg i1) a0 38).toNatClampNeg i2) r21 (cm_I (cm_sI (cm_sI w r13 (cm_I w a0 38).toNatClampNeg i1) r17 (cm_I (cm_sI w r13 (cm_I w a0 38).toNatClampNeg i1) a0 38).toNatClampNeg i2) a0 38).toNatClampNeg i1) r25 (cm_I (cm_sI (cm_sI (cm_sI w r13 (cm_I w a0 38).toNatClampNeg i1) r17 (cm_I (cm_sI w r13 (cm_I w a0 38).toNatClampNeg i1) a0 38).toNatClampNeg i2) r21 (cm_I (cm_sI (cm_sI w r13 (cm_I w a0 38).toNatClampNeg i1) r17 (cm_I (cm_sI w r13 (cm_I w a0 38).toNatClampNeg i1) a0 38).toNatClampNeg i2) a0 38).toNatClampNeg i1) a0 38).toNatClampNeg (-1 : Int32)) a0 38), .ref r29] _ _
  refine sm_seg 3 106 [(0, .ref a0), (1, .int i1), (2, .int i2)] [.int ((1 : Int32) <<< (i1 &&& 31)), .int (cm_I (cm_sI (cm_sI (cm_sI (cm_sI w r13 (cm_I w a0 38).toNatClampNeg i1) r17 (cm_I (cm_sI w r13 (cm_I w a0 38).toNatClampNeg i1) a0 38).toNatClampNeg i2) r21 (cm_I (cm_sI (cm_sI w r13 (cm_I w a0 38).toNatClampNeg i1) r17 (cm_I (cm_sI w r13 (cm_I w a0 38).toNatClampNeg i1) a0 38).toNatClampNeg i2) a0 38).toNatClampNeg i1) r25 (cm_I (cm_sI (cm_sI (cm_sI w r13 (cm_I w a0 38).toNatClampNeg i1) r17 (cm_I (cm_sI w r13 (cm_I w a0 38).toNatClampNeg i1) a0 38).toNatClampNeg i2) r21 (cm_I (cm_sI (cm_sI w r13 (cm_I w a0 38).toNatClampNeg i1) r17 (cm_I (cm_sI w r13 (cm_I w a0 38).toNatClampNeg i1) a0 38).toNatClampNeg i2) a0 38).toNatClampNeg i1) a0 38).toNatClampNeg (-1 : Int32)) a0 38), .ref r29] rfl ?_
  refine sm_gd fun h31 => ?_
  refine sm_gd fun h32 => ?_
  refine sm_si rfl h31 h32 rfl rfl ?_
  show sm _ _ _ _ 107 [(0, .ref a0), (1, .int i1), (2, .int i2)] [] _ _
  refine sm_seg 1 108 [(0, .ref a0), (1, .int i1), (2, .int i2)] [.ref a0] rfl ?_
  refine sm_gR rfl h12 rfl rfl fun r33 h34 => ?_
  show sm _ _ _ _ 111 [(0, .ref a0), (1, .int i1), (2, .int i2)] [.ref r33] _ _
  refine sm_seg 1 112 [(0, .ref a0), (1, .int i1), (2, .int i2)] [.ref a0, .ref r33] rfl ?_
  refine sm_gI rfl h12 rfl ?_
  show sm _ _ _ _ 115 [(0, .ref a0), (1, .int i1), (2, .int i2)] [.int (cm_I (cm_sI (cm_sI (cm_sI (cm_sI (cm_sI w r13 (cm_I w a0 38).toNatClampNeg i1) r17 (cm_I (cm_sI w r13 (cm_I w a0 38).toNatClampNeg i1) a0 38).toNatClampNeg i2) r21 (cm_I (cm_sI (cm_sI w r13 (cm_I w a0 38).toNatClampNeg i1) r17 (cm_I (cm_sI w r13 (cm_I w a0 38).toNatClampNeg i1) a0 38).toNatClampNeg i2) a0 38).toNatClampNeg i1) r25 (cm_I (cm_sI (cm_sI (cm_sI w r13 (cm_I w a0 38).toNatClampNeg i1) r17 (cm_I (cm_sI w r13 (cm_I w a0 38).toNatClampNeg i1) a0 38).toNatClampNeg i2) r21 (cm_I (cm_sI (cm_sI w r13 (cm_I w a0 38).toNatClampNeg i1) r17 (cm_I (cm_sI w r13 (cm_I w a0 38).toNatClampNeg i1) a0 38).toNatClampNeg i2) a0 38).toNatClampNeg i1) a0 38).toNatClampNeg (-1 : Int32)) r29 (cm_I (cm_sI (cm_sI (cm_sI (cm_sI w r13 (cm_I w a0 38).toNatClampNeg i1) r17 (cm_I (cm_sI w r13 (cm_I w a0 38).toNatClampNeg i1) a0 38).toNatClampNeg i2) r21 (cm_I (cm_sI (cm_sI w r13 (cm_I w a0 38).toNatClampNeg i1) r17 (cm_I (cm_sI w r13 (cm_I w a0 38).toNatClampNeg i1) a0 38).toNatClampNeg i2) a0 38).toNatClampNeg i1) r25 (cm_I (cm_sI (cm_sI (cm_sI w r13 (cm_I w a0 38).toNatClampNeg i1) r17 (cm_I (cm_sI w r13 (cm_I w a0 38).toNatClampNeg i1) a0 38).toNatClampNeg i2) r21 (cm_I (cm_sI (cm_sI w r13 (cm_I w a0 38).toNatClampNeg i1) r17 (cm_I (cm_sI w r13 (cm_I w a0 38).toNatClampNeg i1) a0 38).toNatClampNeg i2) a0 38).toNatClampNeg i1) a0 38).toNatClampNeg (-1 : Int32)) a0 38).toNatClampNeg ((1 : Int32) <<< (i1 &&& 31))) a0 38), .ref r33] _ _
  refine sm_seg 1 116 [(0, .ref a0), (1, .int i1), (2, .int i2)] [.ref a0, .int (cm_I (cm_sI (cm_sI (cm_sI (cm_sI (cm_sI w r13 (cm_I w a0 38).toNatClampNeg i1) r17 (cm_I (cm_sI w r13 (cm_I w a0 38).toNatClampNeg i1) a0 38).toNatClampNeg i2) r21 (cm_I (cm_sI (cm_sI w r13 (cm_I w a0 38).toNatClampNeg i1) r17 (cm_I (cm_sI w r13 (cm_I w a0 38).toNatClampNeg i1) a0 38).toNatClampNeg i2) a0 38).toNatClampNeg i1) r25 (cm_I (cm_sI (cm_sI (cm_sI w r13 (cm_I w a0 38).toNatClampNeg i1) r17 (cm_I (cm_sI w r13 (cm_I w a0 38).toNatClampNeg i1) a0 38).toNatClampNeg i2) r21 (cm_I (cm_sI (cm_sI w r13 (cm_I w a0 38).toNatClampNeg i1) r17 (cm_I (cm_sI w r13 (cm_I w a0 38).toNatClampNeg i1) a0 38).toNatClampNeg i2) a0 38).toNatClampNeg i1) a0 38).toNatClampNeg (-1 : Int32)) r29 (cm_I (cm_sI (cm_sI (cm_sI (cm_sI w r13 (cm_I w a0 38).toNatClampNeg i1) r17 (cm_I (cm_sI w r13 (cm_I w a0 38).toNatClampNeg i1) a0 38).toNatClampNeg i2) r21 (cm_I (cm_sI (cm_sI w r13 (cm_I w a0 38).toNatClampNeg i1) r17 (cm_I (cm_sI w r13 (cm_I w a0 38).toNatClampNeg i1) a0 38).toNatClampNeg i2) a0 38).toNatClampNeg i1) r25 (cm_I (cm_sI (cm_sI (cm_sI w r13 (cm_I w a0 38).toNatClampNeg i1) r17 (cm_I (cm_sI w r13 (cm_I w a0 38).toNatClampNeg i1) a0 38).toNatClampNeg i2) r21 (cm_I (cm_sI (cm_sI w r13 (cm_I w a0 38).toNatClampNeg i1) r17 (cm_I (cm_sI w r13 (cm_I w a0 38).toNatClampNeg i1) a0 38).toNatClampNeg i2) a0 38).toNatClampNeg i1) a0 38).toNatClampNeg (-1 : Int32)) a0 38).toNatClampNeg ((1 : Int32) <<< (i1 &&& 31))) a0 38), .ref r33] rfl ?_
  refine sm_gI rfl h12 rfl ?_
  show sm _ _ _ _ 119 [(0, .ref a0), (1, .int i1), (2, .int i2)] [.int (cm_I (cm_sI (cm_sI (cm_sI (cm_sI (cm_sI w r13 (cm_I w a0 38).toNatClampNeg i1) r17 (cm_I (cm_sI w r13 (cm_I w a0 38).toNatClampNeg i1) a0 38).toNatClampNeg i2) r21 (cm_I (cm_sI (cm_sI w r13 (cm_I w a0 38).toNatClampNeg i1) r17 (cm_I (cm_sI w r13 (cm_I w a0 38).toNatClampNeg i1) a0 38).toNatClampNeg i2) a0 38).toNatClampNeg i1) r25 (cm_I (cm_sI (cm_sI (cm_sI w r13 (cm_I w a0 38).toNatClampNeg i1) r17 (cm_I (cm_sI w r13 (cm_I w a0 38).toNatClampNeg i1) a0 38).toNatClampNeg i2) r21 (cm_I (cm_sI (cm_sI w r13 (cm_I w a0 38).toNatClampNeg i1) r17 (cm_I (cm_sI w r13 (cm_I w a0 38).toNatClampNeg i1) a0 38).toNatClampNeg i2) a0 38).toNatClampNeg i1) a0 38).toNatClampNeg (-1 : Int32)) r29 (cm_I (cm_sI (cm_sI (cm_sI (cm_sI w r13 (cm_I w a0 38).toNatClampNeg i1) r17 (cm_I (cm_sI w r13 (cm_I w a0 38).toNatClampNeg i1) a0 38).toNatClampNeg i2) r21 (cm_I (cm_sI (cm_sI w r13 (cm_I w a0 38).toNatClampNeg i1) r17 (cm_I (cm_sI w r13 (cm_I w a0 38).toNatClampNeg i1) a0 38).toNatClampNeg i2) a0 38).toNatClampNeg i1) r25 (cm_I (cm_sI (cm_sI (cm_sI w r13 (cm_I w a0 38).toNatClampNeg i1) r17 (cm_I (cm_sI w r13 (cm_I w a0 38).toNatClampNeg i1) a0 38).toNatClampNeg i2) r21 (cm_I (cm_sI (cm_sI w r13 (cm_I w a0 38).toNatClampNeg i1) r17 (cm_I (cm_sI w r13 (cm_I w a0 38).toNatClampNeg i1) a0 38).toNatClampNeg i2) a0 38).toNatClampNeg i1) a0 38).toNatClampNeg (-1 : Int32)) a0 38).toNatClampNeg ((1 : Int32) <<< (i1 &&& 31))) a0 8), .int (cm_I (cm_sI (cm_sI (cm_sI (cm_sI (cm_sI w r13 (cm_I w a0 38).toNatClampNeg i1) r17 (cm_I (cm_sI w r13 (cm_I w a0 38).toNatClampNeg i1) a0 38).toNatClampNeg i2) r21 (cm_I (cm_sI (cm_sI w r13 (cm_I w a0 38).toNatClampNeg i1) r17 (cm_I (cm_sI w r13 (cm_I w a0 38).toNatClampNeg i1) a0 38).toNatClampNeg i2) a0 38).toNatClampNeg i1) r25 (cm_I (cm_sI (cm_sI (cm_sI w r13 (cm_I w a0 38).toNatClampNeg i1) r17 (cm_I (cm_sI w r13 (cm_I w a0 38).toNatClampNeg i1) a0 38).toNatClampNeg i2) r21 (cm_I (cm_sI (cm_sI w r13 (cm_I w a0 38).toNatClampNeg i1) r17 (cm_I (cm_sI w r13 (cm_I w a0 38).toNatClampNeg i1) a0 38).toNatClampNeg i2) a0 38).toNatClampNeg i1) a0 38).toNatClampNeg (-1 : Int32)) r29 (cm_I (cm_sI (cm_sI (cm_sI (cm_sI w r13 (cm_I w a0 38).toNatClampNeg i1) r17 (cm_I (cm_sI w r13 (cm_I w a0 38).toNatClampNeg i1) a0 38).toNatClampNeg i2) r21 (cm_I (cm_sI (cm_sI w r13 (cm_I w a0 38).toNatClampNeg i1) r17 (cm_I (cm_sI w r13 (cm_I w a0 38).toNatClampNeg i1) a0 38).toNatClampNeg i2) a0 38).toNatClampNeg i1) r25 (cm_I (cm_sI (cm_sI (cm_sI w r13 (cm_I w a0 38).toNatClampNeg i1) r17 (cm_I (cm_sI w r13 (cm_I w a0 38).toNatClampNeg i1) a0 38).toNatClampNeg i2) r21 (cm_I (cm_sI (cm_sI w r13 (cm_I w a0 38).toNatClampNeg i1) r17 (cm_I (cm_sI w r13 (cm_I w a0 38).toNatClampNeg i1) a0 38).toNatClampNeg i2) a0 38).toNatClampNeg i1) a0 38).toNatClampNeg (-1 : Int32)) a0 38).toNatClampNeg ((1 : Int32) <<< (i1 &&& 31))) a0 38), .ref r33] _ _
  refine sm_gd fun h35 => ?_
  refine sm_gd fun h36 => ?_
  refine sm_si rfl h35 h36 rfl rfl ?_
  show sm _ _ _ _ 120 [(0, .ref a0), (1, .int i1), (2, .int i2)] [] _ _
  refine sm_seg 1 121 [(0, .ref a0), (1, .int i1), (2, .int i2)] [.ref a0] rfl ?_
  refine sm_gR rfl h12 rfl rfl fun r37 h38 => ?_
  show sm _ _ _ _ 124 [(0, .ref a0), (1, .int i1), (2, .int i2)] [.ref r37] _ _
  refine sm_seg 1 125 [(0, .ref a0), (1, .int i1), (2, .int i2)] [.ref a0, .ref r37] rfl ?_
  refine sm_gI rfl h12 rfl ?_
  show sm _ _ _ _ 128 [(0, .ref a0), (1, .int i1), (2, .int i2)] [.int (cm_I (cm_sI (cm_sI (cm_sI (cm_sI (cm_sI (cm_sI w r13 (cm_I w a0 38).toNatClampNeg i1) r17 (cm_I (cm_sI w r13 (cm_I w a0 38).toNatClampNeg i1) a0 38).toNatClampNeg i2) r21 (cm_I (cm_sI (cm_sI w r13 (cm_I w a0 38).toNatClampNeg i1) r17 (cm_I (cm_sI w r13 (cm_I w a0 38).toNatClampNeg i1) a0 38).toNatClampNeg i2) a0 38).toNatClampNeg i1) r25 (cm_I (cm_sI (cm_sI (cm_sI w r13 (cm_I w a0 38).toNatClampNeg i1) r17 (cm_I (cm_sI w r13 (cm_I w a0 38).toNatClampNeg i1) a0 38).toNatClampNeg i2) r21 (cm_I (cm_sI (cm_sI w r13 (cm_I w a0 38).toNatClampNeg i1) r17 (cm_I (cm_sI w r13 (cm_I w a0 38).toNatClampNeg i1) a0 38).toNatClampNeg i2) a0 38).toNatClampNeg i1) a0 38).toNatClampNeg (-1 : Int32)) r29 (cm_I (cm_sI (cm_sI (cm_sI (cm_sI w r13 (cm_I w a0 38).toNatClampNeg i1) r17 (cm_I (cm_sI w r13 (cm_I w a0 38).toNatClampNeg i1) a0 38).toNatClampNeg i2) r21 (cm_I (cm_sI (cm_sI w r13 (cm_I w a0 38).toNatClampNeg i1) r17 (cm_I (cm_sI w r13 (cm_I w a0 38).toNatClampNeg i1) a0 38).toNatClampNeg i2) a0 38).toNatClampNeg i1) r25 (cm_I (cm_sI (cm_sI (cm_sI w r13 (cm_I w a0 38).toNatClampNeg i1) r17 (cm_I (cm_sI w r13 (cm_I w a0 38).toNatClampNeg i1) a0 38).toNatClampNeg i2) r21 (cm_I (cm_sI (cm_sI w r13 (cm_I w a0 38).toNatClampNeg i1) r17 (cm_I (cm_sI w r13 (cm_I w a0 38).toNatClampNeg i1) a0 38).toNatClampNeg i2) a0 38).toNatClampNeg i1) a0 38).toNatClampNeg (-1 : Int32)) a0 38).toNatClampNeg ((1 : Int32) <<< (i1 &&& 31))) r33 (cm_I (cm_sI (cm_sI (cm_sI (cm_sI (cm_sI w r13 (cm_I w a0 38).toNatClampNeg i1) r17 (cm_I (cm_sI w r13 (cm_I w a0 38).toNatClampNeg i1) a0 38).toNatClampNeg i2) r21 (cm_I (cm_sI (cm_sI w r13 (cm_I w a0 38).toNatClampNeg i1) r17 (cm_I (cm_sI w r13 (cm_I w a0 38).toNatClampNeg i1) a0 38).toNatClampNeg i2) a0 38).toNatClampNeg i1) r25 (cm_I (cm_sI (cm_sI (cm_sI w r13 (cm_I w a0 38).toNatClampNeg i1) r17 (cm_I (cm_sI w r13 (cm_I w a0 38).toNatClampNeg i1) a0 38).toNatClampNeg i2) r21 (cm_I (cm_sI (cm_sI w r13 (cm_I w a0 38).toNatClampNeg i1) r17 (cm_I (cm_sI w r13 (cm_I w a0 38).toNatClampNeg i1) a0 38).toNatClampNeg i2) a0 38).toNatClampNeg i1) a0 38).toNatClampNeg (-1 : Int32)) r29 (cm_I (cm_sI (cm_sI (cm_sI (cm_sI w r13 (cm_I w a0 38).toNatClampNeg i1) r17 (cm_I (cm_sI w r13 (cm_I w a0 38).toNatClampNeg i1) a0 38).toNatClampNeg i2) r21 (cm_I (cm_sI (cm_sI w r13 (cm_I w a0 38).toNatClampNeg i1) r17 (cm_I (cm_sI w r13 (cm_I w a0 38).toNatClampNeg i1) a0 38).toNatClampNeg i2) a0 38).toNatClampNeg i1) r25 (cm_I (cm_sI (cm_sI (cm_sI w r13 (cm_I w a0 38).toNatClampNeg i1) r17 (cm_I (cm_sI w r13 (cm_I w a0 38).toNatClampNeg i1) a0 38).toNatClampNeg i2) r21 (cm_I (cm_sI (cm_sI w r13 (cm_I w a0 38).toNatClampNeg i1) r17 (cm_I (cm_sI w r13 (cm_I w a0 38).toNatClampNeg i1) a0 38).toNatClampNeg i2) a0 38).toNatClampNeg i1) a0 38).toNatClampNeg (-1 : Int32)) a0 38).toNatClampNeg ((1 : Int32) <<< (i1 &&& 31))) a0 38).toNatClampNeg (cm_I (cm_sI (cm_sI (cm_sI (cm_sI (cm_sI w r13 (cm_I w a0 38).toNatClampNeg i1) r17 (cm_I (cm_sI w r13 (cm_I w a0 38).toNatClampNeg i1) a0 38).toNatClampNeg i2) r21 (cm_I (cm_sI (cm_sI w r13 (cm_I w a0 38).toNatClampNeg i1) r17 (cm_I (cm_sI w r13 (cm_I w a0 38).toNatClampNeg i1) a0 38).toNatClampNeg i2) a0 38).toNatClampNeg i1) r25 (cm_I (cm_sI (cm_sI (cm_sI w r13 (cm_I w a0 38).toNatClampNeg i1) r17 (cm_I (cm_sI w r13 (cm_I w a0 38).toNatClampNeg i1) a0 38).toNatClampNeg i2) r21 (cm_I (cm_sI (cm_sI w r13 (cm_I w a0 38).toNatClampNeg i1) r17 (cm_I (cm_sI w r13 (cm_I w a0 38).toNatClampNeg i1) a0 38).toNatClampNeg i2) a0 38).toNatClampNeg i1) a0 38).toNatClampNeg (-1 : Int32)) r29 (cm_I (cm_sI (cm_sI (cm_sI (cm_sI w r13 (cm_I w a0 38).toNatClampNeg i1) r17 (cm_I (cm_sI w r13 (cm_I w a0 38).toNatClampNeg i1) a0 38).toNatClampNeg i2) r21 (cm_I (cm_sI (cm_sI w r13 (cm_I w a0 38).toNatClampNeg i1) r17 (cm_I (cm_sI w r13 (cm_I w a0 38).toNatClampNeg i1) a0 38).toNatClampNeg i2) a0 38).toNatClampNeg i1) r25 (cm_I (cm_sI (cm_sI (cm_sI w r13 (cm_I w a0 38).toNatClampNeg i1) r17 (cm_I (cm_sI w r13 (cm_I w a0 38).toNatClampNeg i1) a0 38).toNatClampNeg i2) r21 (cm_I (cm_sI (cm_sI w r13 (cm_I w a0 38).toNatClampNeg i1) r17 (cm_I (cm_sI w r13 (cm_I w a0 38).toNatClampNeg i1) a0 38).toNatClampNeg i2) a0 38).toNatClampNeg i1) a0 38).toNatClampNeg (-1 : Int32)) a0 38).toNatClampNeg ((1 : Int32) <<< (i1 &&& 31))) a0 8)) a0 38), .ref r37] _ _
  refine sm_seg 1 129 [(0, .ref a0), (1, .int i1), (2, .int i2)] [.int (0 : Int32), .int (cm_I (cm_sI (cm_sI (cm_sI (cm_sI (cm_sI (cm_sI w r13 (cm_I w a0 38).toNatClampNeg i1) r17 (cm_I (cm_sI w r13 (cm_I w a0 38).toNatClampNeg i1) a0 38).toNatClampNeg i2) r21 (cm_I (cm_sI (cm_sI w r13 (cm_I w a0 38).toNatClampNeg i1) r17 (cm_I (cm_sI w r13 (cm_I w a0 38).toNatClampNeg i1) a0 38).toNatClampNeg i2) a0 38).toNatClampNeg i1) r25 (cm_I (cm_sI (cm_sI (cm_sI w r13 (cm_I w a0 38).toNatClampNeg i1) r17 (cm_I (cm_sI w r13 (cm_I w a0 38).toNatClampNeg i1) a0 38).toNatClampNeg i2) r21 (cm_I (cm_sI (cm_sI w r13 (cm_I w a0 38).toNatClampNeg i1) r17 (cm_I (cm_sI w r13 (cm_I w a0 38).toNatClampNeg i1) a0 38).toNatClampNeg i2) a0 38).toNatClampNeg i1) a0 38).toNatClampNeg (-1 : Int32)) r29 (cm_I (cm_sI (cm_sI (cm_sI (cm_sI w r13 (cm_I w a0 38).toNatClampNeg i1) r17 (cm_I (cm_sI w r13 (cm_I w a0 38).toNatClampNeg i1) a0 38).toNatClampNeg i2) r21 (cm_I (cm_sI (cm_sI w r13 (cm_I w a0 38).toNatClampNeg i1) r17 (cm_I (cm_sI w r13 (cm_I w a0 38).toNatClampNeg i1) a0 38).toNatClampNeg i2) a0 38).toNatClampNeg i1) r25 (cm_I (cm_sI (cm_sI (cm_sI w r13 (cm_I w a0 38).toNatClampNeg i1) r17 (cm_I (cm_sI w r13 (cm_I w a0 38).toNatClampNeg i1) a0 38).toNatClampNeg i2) r21 (cm_I (cm_sI (cm_sI w r13 (cm_I w a0 38).toNatClampNeg i1) r17 (cm_I (cm_sI w r13 (cm_I w a0 38).toNatClampNeg i1) a0 38).toNatClampNeg i2) a0 38).toNatClampNeg i1) a0 38).toNatClampNeg (-1 : Int32)) a0 38).toNatClampNeg ((1 : Int32) <<< (i1 &&& 31))) r33 (cm_I (cm_sI (cm_sI (cm_sI (cm_sI (cm_sI w r13 (cm_I w a0 38).toNatClampNeg i1) r17 (cm_I (cm_sI w r13 (cm_I w a0 38).toNatClampNeg i1) a0 38).toNatClampNeg i2) r21 (cm_I (cm_sI (cm_sI w r13 (cm_I w a0 38).toNatClampNeg i1) r17 (cm_I (cm_sI w r13 (cm_I w a0 38).toNatClampNeg i1) a0 38).toNatClampNeg i2) a0 38).toNatClampNeg i1) r25 (cm_I (cm_sI (cm_sI (cm_sI w r13 (cm_I w a0 38).toNatClampNeg i1) r17 (cm_I (cm_sI w r13 (cm_I w a0 38).toNatClampNeg i1) a0 38).toNatClampNeg i2) r21 (cm_I (cm_sI (cm_sI w r13 (cm_I w a0 38).toNatClampNeg i1) r17 (cm_I (cm_sI w r13 (cm_I w a0 38).toNatClampNeg i1) a0 38).toNatClampNeg i2) a0 38).toNatClampNeg i1) a0 38).toNatClampNeg (-1 : Int32)) r29 (cm_I (cm_sI (cm_sI (cm_sI (cm_sI w r13 (cm_I w a0 38).toNatClampNeg i1) r17 (cm_I (cm_sI w r13 (cm_I w a0 38).toNatClampNeg i1) a0 38).toNatClampNeg i2) r21 (cm_I (cm_sI (cm_sI w r13 (cm_I w a0 38).toNatClampNeg i1) r17 (cm_I (cm_sI w r13 (cm_I w a0 38).toNatClampNeg i1) a0 38).toNatClampNeg i2) a0 38).toNatClampNeg i1) r25 (cm_I (cm_sI (cm_sI (cm_sI w r13 (cm_I w a0 38).toNatClampNeg i1) r17 (cm_I (cm_sI w r13 (cm_I w a0 38).toNatClampNeg i1) a0 38).toNatClampNeg i2) r21 (cm_I (cm_sI (cm_sI w r13 (cm_I w a0 38).toNatClampNeg i1) r17 (cm_I (cm_sI w r13 (cm_I w a0 38).toNatClampNeg i1) a0 38).toNatClampNeg i2) a0 38).toNatClampNeg i1) a0 38).toNatClampNeg (-1 : Int32)) a0 38).toNatClampNeg ((1 : Int32) <<< (i1 &&& 31))) a0 38).toNatClampNeg (cm_I (cm_sI (cm_sI (cm_sI (cm_sI (cm_sI w r13 (cm_I w a0 38).toNatClampNeg i1) r17 (cm_I (cm_sI w r13 (cm_I w a0 38).toNatClampNeg i1) a0 38).toNatClampNeg i2) r21 (cm_I (cm_sI (cm_sI w r13 (cm_I w a0 38).toNatClampNeg i1) r17 (cm_I (cm_sI w r13 (cm_I w a0 38).toNatClampNeg i1) a0 38).toNatClampNeg i2) a0 38).toNatClampNeg i1) r25 (cm_I (cm_sI (cm_sI (cm_sI w r13 (cm_I w a0 38).toNatClampNeg i1) r17 (cm_I (cm_sI w r13 (cm_I w a0 38).toNatClampNeg i1) a0 38).toNatClampNeg i2) r21 (cm_I (cm_sI (cm_sI w r13 (cm_I w a0 38).toNatClampNeg i1) r17 (cm_I (cm_sI w r13 (cm_I w a0 38).toNatClampNeg i1) a0 38).toNatClampNeg i2) a0 38).toNatClampNeg i1) a0 38).toNatClampNeg (-1 : Int32)) r29 (cm_I (cm_sI (cm_sI (cm_sI (cm_sI w r13 (cm_I w a0 38).toNatClampNeg i1) r17 (cm_I (cm_sI w r13 (cm_I w a0 38).toNatClampNeg i1) a0 38).toNatClampNeg i2) r21 (cm_I (cm_sI (cm_sI w r13 (cm_I w a0 38).toNatClampNeg i1) r17 (cm_I (cm_sI w r13 (cm_I w a0 38).toNatClampNeg i1) a0 38).toNatClampNeg i2) a0 38).toNatClampNeg i1) r25 (cm_I (cm_sI (cm_sI (cm_sI w r13 (cm_I w a0 38).toNatClampNeg i1) r17 (cm_I (cm_sI w r13 (cm_I w a0 38).toNatClampNeg i1) a0 38).toNatClampNeg i2) r21 (cm_I (cm_sI (cm_sI w r13 (cm_I w a0 38).toNatClampNeg i1) r17 (cm_I (cm_sI w r13 (cm_I w a0 38).toNatClampNeg i1) a0 38).toNatClampNeg i2) a0 38).toNatClampNeg i1) a0 38).toNatClampNeg (-1 : Int32)) a0 38).toNatClampNeg ((1 : Int32) <<< (i1 &&& 31))) a0 8)) a0 38), .ref r37] rfl ?_
  refine sm_gd fun h39 => ?_
  refine sm_gd fun h40 => ?_
  refine sm_si rfl h39 h40 rfl rfl ?_
  show sm _ _ _ _ 130 [(0, .ref a0), (1, .int i1), (2, .int i2)] [] _ _
  refine sm_seg 2 132 [(0, .ref a0), (3, .int (0 : Int32))] [] rfl ?_
  exact jt_235_132  cm_N a0 (0 : Int32) (cm_sI (cm_sI (cm_sI (cm_sI (cm_sI (cm_sI (cm_sI w r13 (cm_I w a0 38).toNatClampNeg i1) r17 (cm_I (cm_sI w r13 (cm_I w a0 38).toNatClampNeg i1) a0 38).toNatClampNeg i2) r21 (cm_I (cm_sI (cm_sI w r13 (cm_I w a0 38).toNatClampNeg i1) r17 (cm_I (cm_sI w r13 (cm_I w a0 38).toNatClampNeg i1) a0 38).toNatClampNeg i2) a0 38).toNatClampNeg i1) r25 (cm_I (cm_sI (cm_sI (cm_sI w r13 (cm_I w a0 38).toNatClampNeg i1) r17 (cm_I (cm_sI w r13 (cm_I w a0 38).toNatClampNeg i1) a0 38).toNatClampNeg i2) r21 (cm_I (cm_sI (cm_sI w r13 (cm_I w a0 38).toNatClampNeg i1) r17 (cm_I (cm_sI w r13 (cm_I w a0 38).toNatClampNeg i1) a0 38).toNatClampNeg i2) a0 38).toNatClampNeg i1) a0 38).toNatClampNeg (-1 : Int32)) r29 (cm_I (cm_sI (cm_sI (cm_sI (cm_sI w r13 (cm_I w a0 38).toNatClampNeg i1) r17 (cm_I (cm_sI w r13 (cm_I w a0 38).toNatClampNeg i1) a0 38).toNatClampNeg i2) r21 (cm_I (cm_sI (cm_sI w r13 (cm_I w a0 38).toNatClampNeg i1) r17 (cm_I (cm_sI w r13 (cm_I w a0 38).toNatClampNeg i1) a0 38).toNatClampNeg i2) a0 38).toNatClampNeg i1) r25 (cm_I (cm_sI (cm_sI (cm_sI w r13 (cm_I w a0 38).toNatClampNeg i1) r17 (cm_I (cm_sI w r13 (cm_I w a0 38).toNatClampNeg i1) a0 38).toNatClampNeg i2) r21 (cm_I (cm_sI (cm_sI w r13 (cm_I w a0 38).toNatClampNeg i1) r17 (cm_I (cm_sI w r13 (cm_I w a0 38).toNatClampNeg i1) a0 38).toNatClampNeg i2) a0 38).toNatClampNeg i1) a0 38).toNatClampNeg (-1 : Int32)) a0 38).toNatClampNeg ((1 : Int32) <<< (i1 &&& 31))) r33 (cm_I (cm_sI (cm_sI (cm_sI (cm_sI (cm_sI w r13 (cm_I w a0 38).toNatClampNeg i1) r17 (cm_I (cm_sI w r13 (cm_I w a0 38).toNatClampNeg i1) a0 38).toNatClampNeg i2) r21 (cm_I (cm_sI (cm_sI w r13 (cm_I w a0 38).toNatClampNeg i1) r17 (cm_I (cm_sI w r13 (cm_I w a0 38).toNatClampNeg i1) a0 38).toNatClampNeg i2) a0 38).toNatClampNeg i1) r25 (cm_I (cm_sI (cm_sI (cm_sI w r13 (cm_I w a0 38).toNatClampNeg i1) r17 (cm_I (cm_sI w r13 (cm_I w a0 38).toNatClampNeg i1) a0 38).toNatClampNeg i2) r21 (cm_I (cm_sI (cm_sI w r13 (cm_I w a0 38).toNatClampNeg i1) r17 (cm_I (cm_sI w r13 (cm_I w a0 38).toNatClampNeg i1) a0 38).toNatClampNeg i2) a0 38).toNatClampNeg i1) a0 38).toNatClampNeg (-1 : Int32)) r29 (cm_I (cm_sI (cm_sI (cm_sI (cm_sI w r13 (cm_I w a0 38).toNatClampNeg i1) r17 (cm_I (cm_sI w r13 (cm_I w a0 38).toNatClampNeg i1) a0 38).toNatClampNeg i2) r21 (cm_I (cm_sI (cm_sI w r13 (cm_I w a0 38).toNatClampNeg i1) r17 (cm_I (cm_sI w r13 (cm_I w a0 38).toNatClampNeg i1) a0 38).toNatClampNeg i2) a0 38).toNatClampNeg i1) r25 (cm_I (cm_sI (cm_sI (cm_sI w r13 (cm_I w a0 38).toNatClampNeg i1) r17 (cm_I (cm_sI w r13 (cm_I w a0 38).toNatClampNeg i1) a0 38).toNatClampNeg i2) r21 (cm_I (cm_sI (cm_sI w r13 (cm_I w a0 38).toNatClampNeg i1) r17 (cm_I (cm_sI w r13 (cm_I w a0 38).toNatClampNeg i1) a0 38).toNatClampNeg i2) a0 38).toNatClampNeg i1) a0 38).toNatClampNeg (-1 : Int32)) a0 38).toNatClampNeg ((1 : Int32) <<< (i1 &&& 31))) a0 38).toNatClampNeg (cm_I (cm_sI (cm_sI (cm_sI (cm_sI (cm_sI w r13 (cm_I w a0 38).toNatClampNeg i1) r17 (cm_I (cm_sI w r13 (cm_I w a0 38).toNatClampNeg i1) a0 38).toNatClampNeg i2) r21 (cm_I (cm_sI (cm_sI w r13 (cm_I w a0 38).toNatClampNeg i1) r17 (cm_I (cm_sI w r13 (cm_I w a0 38).toNatClampNeg i1) a0 38).toNatClampNeg i2) a0 38).toNatClampNeg i1) r25 (cm_I (cm_sI (cm_sI (cm_sI w r13 (cm_I w a0 38).toNatClampNeg i1) r17 (cm_I (cm_sI w r13 (cm_I w a0 38).toNatClampNeg i1) a0 38).toNatClampNeg i2) r21 (cm_I (cm_sI (cm_sI w r13 (cm_I w a0 38).toNatClampNeg i1) r17 (cm_I (cm_sI w r13 (cm_I w a0 38).toNatClampNeg i1) a0 38).toNatClampNeg i2) a0 38).toNatClampNeg i1) a0 38).toNatClampNeg (-1 : Int32)) r29 (cm_I (cm_sI (cm_sI (cm_sI (cm_sI w r13 (cm_I w a0 38).toNatClampNeg i1) r17 (cm_I (cm_sI w r13 (cm_I w a0 38).toNatClampNeg i1) a0 38).toNatClampNeg i2) r21 (cm_I (cm_sI (cm_sI w r13 (cm_I w a0 38).toNatClampNeg i1) r17 (cm_I (cm_sI w r13 (cm_I w a0 38).toNatClampNeg i1) a0 38).toNatClampNeg i2) a0 38).toNatClampNeg i1) r25 (cm_I (cm_sI (cm_sI (cm_sI w r13 (cm_I w a0 38).toNatClampNeg i1) r17 (cm_I (cm_sI w r13 (cm_I w a0 38).toNatClampNeg i1) a0 38).toNatClampNeg i2) r21 (cm_I (cm_sI (cm_sI w r13 (cm_I w a0 38).toNatClampNeg i1) r17 (cm_I (cm_sI w r13 (cm_I w a0 38).toNatClampNeg i1) a0 38).toNatClampNeg i2) a0 38).toNatClampNeg i1) a0 38).toNatClampNeg (-1 : Int32)) a0 38).toNatClampNeg ((1 : Int32) <<< (i1 &&& 31))) a0 8)) r37 (cm_I (cm_sI (cm_sI (cm_sI (cm_sI (cm_sI (cm_sI w r13 (cm_I w a0 38).toNatClampNeg i1) r17 (cm_I (cm_sI w r13 (cm_I w a0 38).toNatClampNeg i1) a0 38).toNatClampNeg i2) r21 (cm_I (cm_sI (cm_sI w r13 (cm_I w a0 38).toNatClampNeg i1) r17 (cm_I (cm_sI w r13 (cm_I w a0 38).toNatClampNeg i1) a0 38).toNatClampNeg i2) a0 38).toNatClampNeg i1) r25 (cm_I (cm_sI (cm_sI (cm_sI w r13 (cm_I w a0 38).toNatClampNeg i1) r17 (cm_I (cm_sI w r13 (cm_I w a0 38).toNatClampNeg i1) a0 38).toNatClampNeg i2) r21 (cm_I (cm_sI (cm_sI w r13 (cm_I w a0 38).toNatClampNeg i1) r17 (cm_I (cm_sI w r13 (cm_I w a0 38).toNatClampNeg i1) a0 38).toNatClampNeg i2) a0 38).toNatClampNeg i1) a0 38).toNatClampNeg (-1 : Int32)) r29 (cm_I (cm_sI (cm_sI (cm_sI (cm_sI w r13 (cm_I w a0 38).toNatClampNeg i1) r17 (cm_I (cm_sI w r13 (cm_I w a0 38).toNatClampNeg i1) a0 38).toNatClampNeg i2) r21 (cm_I (cm_sI (cm_sI w r13 (cm_I w a0 38).toNatClampNeg i1) r17 (cm_I (cm_sI w r13 (cm_I w a0 38).toNatClampNeg i1) a0 38).toNatClampNeg i2) a0 38).toNatClampNeg i1) r25 (cm_I (cm_sI (cm_sI (cm_sI w r13 (cm_I w a0 38).toNatClampNeg i1) r17 (cm_I (cm_sI w r13 (cm_I w a0 38).toNatClampNeg i1) a0 38).toNatClampNeg i2) r21 (cm_I (cm_sI (cm_sI w r13 (cm_I w a0 38).toNatClampNeg i1) r17 (cm_I (cm_sI w r13 (cm_I w a0 38).toNatClampNeg i1) a0 38).toNatClampNeg i2) a0 38).toNatClampNeg i1) a0 38).toNatClampNeg (-1 : Int32)) a0 38).toNatClampNeg ((1 : Int32) <<< (i1 &&& 31))) r33 (cm_I (cm_sI (cm_sI (cm_sI (cm_sI (cm_sI w r13 (cm_I w a0 38).toNatClampNeg i1) r17 (cm_I (cm_sI w r13 (cm_I w a0 38).toNatClampNeg i1) a0 38).toNatClampNeg i2) r21 (cm_I (cm_sI (cm_sI w r13 (cm_I w a0 38).toNatClampNeg i1) r17 (cm_I (cm_sI w r13 (cm_I w a0 38).toNatClampNeg i1) a0 38).toNatClampNeg i2) a0 38).toNatClampNeg i1) r25 (cm_I (cm_sI (cm_sI (cm_sI w r13 (cm_I w a0 38).toNatClampNeg i1) r17 (cm_I (cm_sI w r13 (cm_I w a0 38).toNatClampNeg i1) a0 38).toNatClampNeg i2) r21 (cm_I (cm_sI (cm_sI w r13 (cm_I w a0 38).toNatClampNeg i1) r17 (cm_I (cm_sI w r13 (cm_I w a0 38).toNatClampNeg i1) a0 38).toNatClampNeg i2) a0 38).toNatClampNeg i1) a0 38).toNatClampNeg (-1 : Int32)) r29 (cm_I (cm_sI (cm_sI (cm_sI (cm_sI w r13 (cm_I w a0 38).toNatClampNeg i1) r17 (cm_I (cm_sI w r13 (cm_I w a0 38).toNatClampNeg i1) a0 38).toNatClampNeg i2) r21 (cm_I (cm_sI (cm_sI w r13 (cm_I w a0 38).toNatClampNeg i1) r17 (cm_I (cm_sI w r13 (cm_I w a0 38).toNatClampNeg i1) a0 38).toNatClampNeg i2) a0 38).toNatClampNeg i1) r25 (cm_I (cm_sI (cm_sI (cm_sI w r13 (cm_I w a0 38).toNatClampNeg i1) r17 (cm_I (cm_sI w r13 (cm_I w a0 38).toNatClampNeg i1) a0 38).toNatClampNeg i2) r21 (cm_I (cm_sI (cm_sI w r13 (cm_I w a0 38).toNatClampNeg i1) r17 (cm_I (cm_sI w r13 (cm_I w a0 38).toNatClampNeg i1) a0 38).toNatClampNeg i2) a0 38).toNatClampNeg i1) a0 38).toNatClampNeg (-1 : Int32)) a0 38).toNatClampNeg ((1 : Int32) <<< (i1 &&& 31))) a0 38).toNatClampNeg (cm_I (cm_sI (cm_sI (cm_sI (cm_sI (cm_sI w r13 (cm_I w a0 38).toNatClampNeg i1) r17 (cm_I (cm_sI w r13 (cm_I w a0 38).toNatClampNeg i1) a0 38).toNatClampNeg i2) r21 (cm_I (cm_sI (cm_sI w r13 (cm_I w a0 38).toNatClampNeg i1) r17 (cm_I (cm_sI w r13 (cm_I w a0 38).toNatClampNeg i1) a0 38).toNatClampNeg i2) a0 38).toNatClampNeg i1) r25 (cm_I (cm_sI (cm_sI (cm_sI w r13 (cm_I w a0 38).toNatClampNeg i1) r17 (cm_I (cm_sI w r13 (cm_I w a0 38).toNatClampNeg i1) a0 38).toNatClampNeg i2) r21 (cm_I (cm_sI (cm_sI w r13 (cm_I w a0 38).toNatClampNeg i1) r17 (cm_I (cm_sI w r13 (cm_I w a0 38).toNatClampNeg i1) a0 38).toNatClampNeg i2) a0 38).toNatClampNeg i1) a0 38).toNatClampNeg (-1 : Int32)) r29 (cm_I (cm_sI (cm_sI (cm_sI (cm_sI w r13 (cm_I w a0 38).toNatClampNeg i1) r17 (cm_I (cm_sI w r13 (cm_I w a0 38).toNatClampNeg i1) a0 38).toNatClampNeg i2) r21 (cm_I (cm_sI (cm_sI w r13 (cm_I w a0 38).toNatClampNeg i1) r17 (cm_I (cm_sI w r13 (cm_I w a0 38).toNatClampNeg i1) a0 38).toNatClampNeg i2) a0 38).toNatClampNeg i1) r25 (cm_I (cm_sI (cm_sI (cm_sI w r13 (cm_I w a0 38).toNatClampNeg i1) r17 (cm_I (cm_sI w r13 (cm_I w a0 38).toNatClampNeg i1) a0 38).toNatClampNeg i2) r21 (cm_I (cm_sI (cm_sI w r13 (cm_I w a0 38).toNatClampNeg i1) r17 (cm_I (cm_sI w r13 (cm_I w a0 38).toNatClampNeg i1) a0 38).toNatClampNeg i2) a0 38).toNatClampNeg i1) a0 38).toNatClampNeg (-1 : Int32)) a0 38).toNatClampNeg ((1 : Int32) <<< (i1 &&& 31))) a0 8)) a0 38).toNatClampNeg (0 : Int32))
def fn_235_39 (a0 : Nat) (i1 : Int32) (i2 : Int32) (w : cm_W) : Option (Int32 × cm_W) := (if cm_sh w a0 = some (.inl 11) then (if ¬ (cm_I w a0 38) = (40 : Int32) then fn_235_55  a0 i1 i2 w else (fn_199 a0 (1 : Int32) (-1 : Int32) w).bind fun v43 => some (v43.1, v43.2)) else none)
theorem jt_235_39 (a0 : Nat) (i1 : Int32) (i2 : Int32) (w : cm_W) : sm cm_g 235 ck_235 kq_235 39 [(0, .ref a0), (1, .int i1), (2, .int i2)] [] w ((fn_235_39 a0 i1 i2 w).map cm_gI) := by
  unfold fn_235_39
  refine sm_seg 1 40 [(0, .ref a0), (1, .int i1), (2, .int i2)] [.ref a0] rfl ?_
  refine sm_gd fun h41 => ?_
  refine sm_gI rfl h41 rfl ?_
  show sm _ _ _ _ 43 [(0, .ref a0), (1, .int i1), (2, .int i2)] [.int (cm_I w a0 38)] _ _
  refine sm_seg 1 45 [(0, .ref a0), (1, .int i1), (2, .int i2)] [.int (40 : Int32), .int (cm_I w a0 38)] rfl ?_
  refine sm_if (pc1 := 55) (lv1 := [(0, .ref a0), (1, .int i1), (2, .int i2)]) (pc2 := 48) (lv2 := [(0, .ref a0), (1, .int i1), (2, .int i2)]) (st1 := []) rfl rfl rfl (fun h42 => ?_) (fun h42 => ?_)
  · exact jt_235_55  a0 i1 i2 w
  · refine sm_seg 3 51 [(0, .ref a0), (1, .int i1), (2, .int i2)] [.int (-1 : Int32), .int (1 : Int32), .ref a0] rfl ?_
    refine sm_cV (as := [.int (1 : Int32), .int (-1 : Int32)]) (rest := []) rfl rfl rfl rfl h41 (Nat.le_of_ble_eq_true rfl) (ca_199  a0 (1 : Int32) (-1 : Int32) w) fun v43 h44 => ?_
    show sm _ _ _ _ 54 [(0, .ref a0), (1, .int i1), (2, .int i2)] [.int v43.1] _ _
    exact sm_rIW rfl rfl
def fn_235 (a0 : Nat) (i1 : Int32) (i2 : Int32) (w : cm_W) : Option (Int32 × cm_W) := (if cm_sh w a0 = some (.inl 11) then (fn_225 w a0 i1).bind fun v46 => (if (cm_b v46) = 0 then fn_235_32  a0 w else (fn_224 w a0 i2).bind fun v49 => (if (cm_b v49) = 0 then fn_235_32  a0 w else (fn_228 w a0 i1 i2).bind fun v52 => (if v52 = 0 then fn_235_32  a0 w else (fn_234 w a0).bind fun v55 => (if ¬ (cm_b v55) = 0 then fn_235_39  a0 i1 i2 w else fn_235_32  a0 w)))) else none)
theorem jt_235_0 (a0 : Nat) (i1 : Int32) (i2 : Int32) (w : cm_W) : sm cm_g 235 ck_235 kq_235 0 [(0, .ref a0), (1, .int i1), (2, .int i2)] [] w ((fn_235 a0 i1 i2 w).map cm_gI) := by
  unfold fn_235
  refine sm_seg 2 2 [(0, .ref a0), (1, .int i1), (2, .int i2)] [.int i1, .ref a0] rfl ?_
  refine sm_gd fun h45 => ?_
  refine sm_cV (as := [.int i1]) (rest := []) rfl rfl rfl rfl h45 (Nat.le_of_ble_eq_true rfl) (ca_225 w a0 i1) fun v46 h47 => ?_
  show sm _ _ _ _ 5 [(0, .ref a0), (1, .int i1), (2, .int i2)] [.int (cm_b v46)] _ _
  refine sm_if (pc1 := 32) (lv1 := [(0, .ref a0)]) (pc2 := 8) (lv2 := [(0, .ref a0), (1, .int i1), (2, .int i2)]) (st1 := []) rfl rfl rfl (fun h48 => ?_) (fun h48 => ?_)
  · exact jt_235_32  a0 w
  · refine sm_seg 2 10 [(0, .ref a0), (1, .int i1), (2, .int i2)] [.int i2, .ref a0] rfl ?_
    refine sm_cV (as := [.int i2]) (rest := []) rfl rfl rfl rfl h45 (Nat.le_of_ble_eq_true rfl) (ca_224 w a0 i2) fun v49 h50 => ?_
    show sm _ _ _ _ 13 [(0, .ref a0), (1, .int i1), (2, .int i2)] [.int (cm_b v49)] _ _
    refine sm_if (pc1 := 32) (lv1 := [(0, .ref a0)]) (pc2 := 16) (lv2 := [(0, .ref a0), (1, .int i1), (2, .int i2)]) (st1 := []) rfl rfl rfl (fun h51 => ?_) (fun h51 => ?_)
    · exact jt_235_32  a0 w
    · refine sm_seg 3 19 [(0, .ref a0), (1, .int i1), (2, .int i2)] [.int i2, .int i1, .ref a0] rfl ?_
      refine sm_cV (as := [.int i1, .int i2]) (rest := []) rfl rfl rfl rfl h45 (Nat.le_of_ble_eq_true rfl) (ca_228 w a0 i1 i2) fun v52 h53 => ?_
      show sm _ _ _ _ 22 [(0, .ref a0), (1, .int i1), (2, .int i2)] [.int v52] _ _
      refine sm_if (pc1 := 32) (lv1 := [(0, .ref a0)]) (pc2 := 25) (lv2 := [(0, .ref a0), (1, .int i1), (2, .int i2)]) (st1 := []) rfl rfl rfl (fun h54 => ?_) (fun h54 => ?_)
      · exact jt_235_32  a0 w
      · refine sm_seg 1 26 [(0, .ref a0), (1, .int i1), (2, .int i2)] [.ref a0] rfl ?_
        refine sm_cV (as := []) (rest := []) rfl rfl rfl rfl h45 (Nat.le_of_ble_eq_true rfl) (ca_234 w a0) fun v55 h56 => ?_
        show sm _ _ _ _ 29 [(0, .ref a0), (1, .int i1), (2, .int i2)] [.int (cm_b v55)] _ _
        refine sm_if (pc1 := 39) (lv1 := [(0, .ref a0), (1, .int i1), (2, .int i2)]) (pc2 := 32) (lv2 := [(0, .ref a0)]) (st1 := []) rfl rfl rfl (fun h57 => ?_) (fun h57 => ?_)
        · exact jt_235_39  a0 i1 i2 w
        · exact jt_235_32  a0 w
theorem ca_235 (a0 : Nat) (i1 : Int32) (i2 : Int32) (w : cm_W) : cm_ca cm_g 235 [.ref a0, .int i1, .int i2] w ((fn_235 a0 i1 i2 w).map cm_gI) := cm_ca_of (cm_me_of rfl rfl) rfl (jt_235_0 a0 i1 i2 w)
-- NailedBoxesModel.into(II)Z
def fn_236_63 (a0 : Nat) (w : cm_W) : Option (Bool × cm_W) := (if cm_sh w a0 = some (.inl 11) then (fn_198 a0 (0 : Int32) w).bind fun v2 => some (v2.1, v2.2) else none)
theorem jt_236_63 (a0 : Nat) (w : cm_W) : sm cm_g 236 ck_236 kq_236 63 [(0, .ref a0)] [] w ((fn_236_63 a0 w).map cm_gB) := by
  unfold fn_236_63
  refine sm_seg 2 65 [(0, .ref a0)] [.int (0 : Int32), .ref a0] rfl ?_
  refine sm_gd fun h1 => ?_
  refine sm_cV (as := [.int (0 : Int32)]) (rest := []) rfl rfl rfl rfl h1 (Nat.le_of_ble_eq_true rfl) (ca_198  a0 (0 : Int32) w) fun v2 h3 => ?_
  show sm _ _ _ _ 68 [(0, .ref a0)] [.int (cm_b v2.1)] _ _
  exact sm_rBW (b := v2.1) rfl rfl
def fn_236_69 (a0 : Nat) (i1 : Int32) (i2 : Int32) (w : cm_W) : Option (Bool × cm_W) := (if cm_sh w a0 = some (.inl 11) then (cm_R w a0 43).bind fun r5 => (if cm_ga w .int r5 i1 = true then (if cm_w2 96 143 r5 = true then some (true, (cm_sI w r5 i1.toNatClampNeg i2)) else none) else none) else none)
theorem jt_236_69 (a0 : Nat) (i1 : Int32) (i2 : Int32) (w : cm_W) : sm cm_g 236 ck_236 kq_236 69 [(0, .ref a0), (1, .int i1), (2, .int i2)] [] w ((fn_236_69 a0 i1 i2 w).map cm_gB) := by
  unfold fn_236_69
  refine sm_seg 1 70 [(0, .ref a0), (1, .int i1), (2, .int i2)] [.ref a0] rfl ?_
  refine sm_gd fun h4 => ?_
  refine sm_gR rfl h4 rfl rfl fun r5 h6 => ?_
  show sm _ _ _ _ 73 [(0, .ref a0), (1, .int i1), (2, .int i2)] [.ref r5] _ _
  refine sm_seg 2 75 [(0, .ref a0), (1, .int i1), (2, .int i2)] [.int i2, .int i1, .ref r5] rfl ?_
  refine sm_gd fun h7 => ?_
  refine sm_gd fun h8 => ?_
  refine sm_si rfl h7 h8 rfl rfl ?_
  show sm _ _ _ _ 76 [(0, .ref a0), (1, .int i1), (2, .int i2)] [] _ _
  refine sm_seg 1 77 [(0, .ref a0), (1, .int i1), (2, .int i2)] [.int (1 : Int32)] rfl ?_
  exact sm_rBW (b := true) rfl rfl
def fn_236 (a0 : Nat) (i1 : Int32) (i2 : Int32) (w : cm_W) : Option (Bool × cm_W) := (if cm_sh w a0 = some (.inl 11) then (fn_233 w a0 i1).bind fun v10 => (if (cm_b v10) = 0 then fn_236_63  a0 w else (fn_233 w a0 i2).bind fun v13 => (if (cm_b v13) = 0 then fn_236_63  a0 w else (if i1 = i2 then fn_236_63  a0 w else (fn_234 w a0).bind fun v17 => (if (cm_b v17) = 0 then fn_236_63  a0 w else (cm_R w a0 43).bind fun r20 => (if cm_ga w .int r20 i1 = true then (if ¬ (cm_I w r20 i1.toNatClampNeg) = (-1 : Int32) then fn_236_63  a0 w else (cm_R w a0 43).bind fun r24 => (if cm_ga w .int r24 i2 = true then (if ¬ (cm_I w r24 i2.toNatClampNeg) = (-1 : Int32) then fn_236_63  a0 w else (cm_R w a0 42).bind fun r28 => (if cm_ga w .int r28 i1 = true then (cm_R w a0 42).bind fun r31 => (if cm_ga w .int r31 i2 = true then (if (cm_I w r28 i1.toNatClampNeg) = (cm_I w r31 i2.toNatClampNeg) then fn_236_69  a0 i1 i2 w else fn_236_63  a0 w) else none) else none)) else none)) else none))))) else none)
theorem jt_236_0 (a0 : Nat) (i1 : Int32) (i2 : Int32) (w : cm_W) : sm cm_g 236 ck_236 kq_236 0 [(0, .ref a0), (1, .int i1), (2, .int i2)] [] w ((fn_236 a0 i1 i2 w).map cm_gB) := by
  unfold fn_236
  refine sm_seg 2 2 [(0, .ref a0), (1, .int i1), (2, .int i2)] [.int i1, .ref a0] rfl ?_
  refine sm_gd fun h9 => ?_
  refine sm_cV (as := [.int i1]) (rest := []) rfl rfl rfl rfl h9 (Nat.le_of_ble_eq_true rfl) (ca_233 w a0 i1) fun v10 h11 => ?_
  show sm _ _ _ _ 5 [(0, .ref a0), (1, .int i1), (2, .int i2)] [.int (cm_b v10)] _ _
  refine sm_if (pc1 := 63) (lv1 := [(0, .ref a0)]) (pc2 := 8) (lv2 := [(0, .ref a0), (1, .int i1), (2, .int i2)]) (st1 := []) rfl rfl rfl (fun h12 => ?_) (fun h12 => ?_)
  · exact jt_236_63  a0 w
  · refine sm_seg 2 10 [(0, .ref a0), (1, .int i1), (2, .int i2)] [.int i2, .ref a0] rfl ?_
    refine sm_cV (as := [.int i2]) (rest := []) rfl rfl rfl rfl h9 (Nat.le_of_ble_eq_true rfl) (ca_233 w a0 i2) fun v13 h14 => ?_
    show sm _ _ _ _ 13 [(0, .ref a0), (1, .int i1), (2, .int i2)] [.int (cm_b v13)] _ _
    refine sm_if (pc1 := 63) (lv1 := [(0, .ref a0)]) (pc2 := 16) (lv2 := [(0, .ref a0), (1, .int i1), (2, .int i2)]) (st1 := []) rfl rfl rfl (fun h15 => ?_) (fun h15 => ?_)
    · exact jt_236_63  a0 w
    · refine sm_seg 2 18 [(0, .ref a0), (1, .int i1), (2, .int i2)] [.int i2, .int i1] rfl ?_
      refine sm_if (pc1 := 63) (lv1 := [(0, .ref a0)]) (pc2 := 21) (lv2 := [(0, .ref a0), (1, .int i1), (2, .int i2)]) (st1 := []) rfl rfl rfl (fun h16 => ?_) (fun h16 => ?_)
      · exact jt_236_63  a0 w
      · refine sm_seg 1 22 [(0, .ref a0), (1, .int i1), (2, .int i2)] [.ref a0] rfl ?_
        refine sm_cV (as := []) (rest := []) rfl rfl rfl rfl h9 (Nat.le_of_ble_eq_true rfl) (ca_234 w a0) fun v17 h18 => ?_
        show sm _ _ _ _ 25 [(0, .ref a0), (1, .int i1), (2, .int i2)] [.int (cm_b v17)] _ _
        refine sm_if (pc1 := 63) (lv1 := [(0, .ref a0)]) (pc2 := 28) (lv2 := [(0, .ref a0), (1, .int i1), (2, .int i2)]) (st1 := []) rfl rfl rfl (fun h19 => ?_) (fun h19 => ?_)
        · exact jt_236_63  a0 w
        · refine sm_seg 1 29 [(0, .ref a0), (1, .int i1), (2, .int i2)] [.ref a0] rfl ?_
          refine sm_gR rfl h9 rfl rfl fun r20 h21 => ?_
          show sm _ _ _ _ 32 [(0, .ref a0), (1, .int i1), (2, .int i2)] [.ref r20] _ _
          refine sm_seg 1 33 [(0, .ref a0), (1, .int i1), (2, .int i2)] [.int i1, .ref r20] rfl ?_
          refine sm_gd fun h22 => ?_
          refine sm_ai rfl h22 rfl ?_
          show sm _ _ _ _ 34 [(0, .ref a0), (1, .int i1), (2, .int i2)] [.int (cm_I w r20 i1.toNatClampNeg)] _ _
          refine sm_seg 1 35 [(0, .ref a0), (1, .int i1), (2, .int i2)] [.int (-1 : Int32), .int (cm_I w r20 i1.toNatClampNeg)] rfl ?_
          refine sm_if (pc1 := 63) (lv1 := [(0, .ref a0)]) (pc2 := 38) (lv2 := [(0, .ref a0), (1, .int i1), (2, .int i2)]) (st1 := []) rfl rfl rfl (fun h23 => ?_) (fun h23 => ?_)
          · exact jt_236_63  a0 w
          · refine sm_seg 1 39 [(0, .ref a0), (1, .int i1), (2, .int i2)] [.ref a0] rfl ?_
            refine sm_gR rfl h9 rfl rfl fun r24 h25 => ?_
            show sm _ _ _ _ 42 [(0, .ref a0), (1, .int i1), (2, .int i2)] [.ref r24] _ _
            refine sm_seg 1 43 [(0, .ref a0), (1, .int i1), (2, .int i2)] [.int i2, .ref r24] rfl ?_
            refine sm_gd fun h26 => ?_
            refine sm_ai rfl h26 rfl ?_
            show sm _ _ _ _ 44 [(0, .ref a0), (1, .int i1), (2, .int i2)] [.int (cm_I w r24 i2.toNatClampNeg)] _ _
            refine sm_seg 1 45 [(0, .ref a0), (1, .int i1), (2, .int i2)] [.int (-1 : Int32), .int (cm_I w r24 i2.toNatClampNeg)] rfl ?_
            refine sm_if (pc1 := 63) (lv1 := [(0, .ref a0)]) (pc2 := 48) (lv2 := [(0, .ref a0), (1, .int i1), (2, .int i2)]) (st1 := []) rfl rfl rfl (fun h27 => ?_) (fun h27 => ?_)
            · exact jt_236_63  a0 w
            · refine sm_seg 1 49 [(0, .ref a0), (1, .int i1), (2, .int i2)] [.ref a0] rfl ?_
              refine sm_gR rfl h9 rfl rfl fun r28 h29 => ?_
              show sm _ _ _ _ 52 [(0, .ref a0), (1, .int i1), (2, .int i2)] [.ref r28] _ _
              refine sm_seg 1 53 [(0, .ref a0), (1, .int i1), (2, .int i2)] [.int i1, .ref r28] rfl ?_
              refine sm_gd fun h30 => ?_
              refine sm_ai rfl h30 rfl ?_
              show sm _ _ _ _ 54 [(0, .ref a0), (1, .int i1), (2, .int i2)] [.int (cm_I w r28 i1.toNatClampNeg)] _ _
              refine sm_seg 1 55 [(0, .ref a0), (1, .int i1), (2, .int i2)] [.ref a0, .int (cm_I w r28 i1.toNatClampNeg)] rfl ?_
              refine sm_gR rfl h9 rfl rfl fun r31 h32 => ?_
              show sm _ _ _ _ 58 [(0, .ref a0), (1, .int i1), (2, .int i2)] [.ref r31, .int (cm_I w r28 i1.toNatClampNeg)] _ _
              refine sm_seg 1 59 [(0, .ref a0), (1, .int i1), (2, .int i2)] [.int i2, .ref r31, .int (cm_I w r28 i1.toNatClampNeg)] rfl ?_
              refine sm_gd fun h33 => ?_
              refine sm_ai rfl h33 rfl ?_
              show sm _ _ _ _ 60 [(0, .ref a0), (1, .int i1), (2, .int i2)] [.int (cm_I w r31 i2.toNatClampNeg), .int (cm_I w r28 i1.toNatClampNeg)] _ _
              refine sm_if (pc1 := 69) (lv1 := [(0, .ref a0), (1, .int i1), (2, .int i2)]) (pc2 := 63) (lv2 := [(0, .ref a0)]) (st1 := []) rfl rfl rfl (fun h34 => ?_) (fun h34 => ?_)
              · exact jt_236_69  a0 i1 i2 w
              · exact jt_236_63  a0 w
theorem ca_236 (a0 : Nat) (i1 : Int32) (i2 : Int32) (w : cm_W) : cm_ca cm_g 236 [.ref a0, .int i1, .int i2] w ((fn_236 a0 i1 i2 w).map cm_gB) := cm_ca_of (cm_me_of rfl rfl) rfl (jt_236_0 a0 i1 i2 w)
-- NailedBoxesModel.month()I
def fn_237_20 (a0 : Nat) (w : cm_W) : Option (Int32 × cm_W) := (if cm_sh w a0 = some (.inl 11) then (fn_199 a0 (0 : Int32) (-1 : Int32) w).bind fun v2 => some (v2.1, v2.2) else none)
theorem jt_237_20 (a0 : Nat) (w : cm_W) : sm cm_g 237 ck_237 kq_237 20 [(0, .ref a0)] [] w ((fn_237_20 a0 w).map cm_gI) := by
  unfold fn_237_20
  refine sm_seg 3 23 [(0, .ref a0)] [.int (-1 : Int32), .int (0 : Int32), .ref a0] rfl ?_
  refine sm_gd fun h1 => ?_
  refine sm_cV (as := [.int (0 : Int32), .int (-1 : Int32)]) (rest := []) rfl rfl rfl rfl h1 (Nat.le_of_ble_eq_true rfl) (ca_199  a0 (0 : Int32) (-1 : Int32) w) fun v2 h3 => ?_
  show sm _ _ _ _ 26 [(0, .ref a0)] [.int v2.1] _ _
  exact sm_rIW rfl rfl
def fn_237_27 (a0 : Nat) (w : cm_W) : Option (Int32 × cm_W) := (if cm_sh w a0 = some (.inl 11) then (if cm_w2 96 143 a0 = true then some ((cm_I (cm_sI w a0 8 ((cm_I w a0 8) + (1 : Int32))) a0 8), (cm_sI w a0 8 ((cm_I w a0 8) + (1 : Int32)))) else none) else none)
theorem jt_237_27 (a0 : Nat) (w : cm_W) : sm cm_g 237 ck_237 kq_237 27 [(0, .ref a0)] [] w ((fn_237_27 a0 w).map cm_gI) := by
  unfold fn_237_27
  refine sm_seg 2 29 [(0, .ref a0)] [.ref a0, .ref a0] rfl ?_
  refine sm_gd fun h4 => ?_
  refine sm_gI rfl h4 rfl ?_
  show sm _ _ _ _ 32 [(0, .ref a0)] [.int (cm_I w a0 8), .ref a0] _ _
  refine sm_seg 2 34 [(0, .ref a0)] [.int ((cm_I w a0 8) + (1 : Int32)), .ref a0] rfl ?_
  refine sm_gd fun h5 => ?_
  refine sm_pI rfl h4 rfl h5 rfl ?_
  show sm _ _ _ _ 37 [(0, .ref a0)] [] _ _
  refine sm_seg 1 38 [(0, .ref a0)] [.ref a0] rfl ?_
  refine sm_gI rfl h4 rfl ?_
  show sm _ _ _ _ 41 [(0, .ref a0)] [.int (cm_I (cm_sI w a0 8 ((cm_I w a0 8) + (1 : Int32))) a0 8)] _ _
  exact sm_rIW rfl rfl
def fn_237 (a0 : Nat) (w : cm_W) : Option (Int32 × cm_W) := (if cm_sh w a0 = some (.inl 11) then (if (cm_I w a0 8) = (5 : Int32) then fn_237_20  a0 w else (if ¬ ((cm_I w a0 1) + (cm_I w a0 2)) = 0 then fn_237_27  a0 w else fn_237_20  a0 w)) else none)
theorem jt_237_0 (a0 : Nat) (w : cm_W) : sm cm_g 237 ck_237 kq_237 0 [(0, .ref a0)] [] w ((fn_237 a0 w).map cm_gI) := by
  unfold fn_237
  refine sm_seg 1 1 [(0, .ref a0)] [.ref a0] rfl ?_
  refine sm_gd fun h6 => ?_
  refine sm_gI rfl h6 rfl ?_
  show sm _ _ _ _ 4 [(0, .ref a0)] [.int (cm_I w a0 8)] _ _
  refine sm_seg 1 5 [(0, .ref a0)] [.int (5 : Int32), .int (cm_I w a0 8)] rfl ?_
  refine sm_if (pc1 := 20) (lv1 := [(0, .ref a0)]) (pc2 := 8) (lv2 := [(0, .ref a0)]) (st1 := []) rfl rfl rfl (fun h7 => ?_) (fun h7 => ?_)
  · exact jt_237_20  a0 w
  · refine sm_seg 1 9 [(0, .ref a0)] [.ref a0] rfl ?_
    refine sm_gI rfl h6 rfl ?_
    show sm _ _ _ _ 12 [(0, .ref a0)] [.int (cm_I w a0 1)] _ _
    refine sm_seg 1 13 [(0, .ref a0)] [.ref a0, .int (cm_I w a0 1)] rfl ?_
    refine sm_gI rfl h6 rfl ?_
    show sm _ _ _ _ 16 [(0, .ref a0)] [.int (cm_I w a0 2), .int (cm_I w a0 1)] _ _
    refine sm_seg 1 17 [(0, .ref a0)] [.int ((cm_I w a0 1) + (cm_I w a0 2))] rfl ?_
    refine sm_if (pc1 := 27) (lv1 := [(0, .ref a0)]) (pc2 := 20) (lv2 := [(0, .ref a0)]) (st1 := []) rfl rfl rfl (fun h8 => ?_) (fun h8 => ?_)
    · exact jt_237_27  a0 w
    · exact jt_237_20  a0 w
theorem ca_237 (a0 : Nat) (w : cm_W) : cm_ca cm_g 237 [.ref a0] w ((fn_237 a0 w).map cm_gI) := cm_ca_of (cm_me_of rfl rfl) rfl (jt_237_0 a0 w)
-- NailedBoxesModel.records(IIIII)V
def fn_238 (a0 : Nat) (i1 : Int32) (i2 : Int32) (i3 : Int32) (i4 : Int32) (i5 : Int32) (w : cm_W) : Option cm_W := (if cm_sh w a0 = some (.inl 11) then (cm_R w a0 48).bind fun r2 => (if cm_ga w .int r2 ((7 : Int32) * (cm_I w a0 39)) = true then (if cm_w2 96 143 r2 = true then (cm_R (cm_sI w r2 ((7 : Int32) * (cm_I w a0 39)).toNatClampNeg i1) a0 48).bind fun r6 => (if cm_ga w .int r6 (((7 : Int32) * (cm_I w a0 39)) + (1 : Int32)) = true then (if cm_w2 96 143 r6 = true then (cm_R (cm_sI (cm_sI w r2 ((7 : Int32) * (cm_I w a0 39)).toNatClampNeg i1) r6 (((7 : Int32) * (cm_I w a0 39)) + (1 : Int32)).toNatClampNeg i2) a0 48).bind fun r10 => (if cm_ga w .int r10 (((7 : Int32) * (cm_I w a0 39)) + (2 : Int32)) = true then (if cm_w2 96 143 r10 = true then (cm_R (cm_sI (cm_sI (cm_sI w r2 ((7 : Int32) * (cm_I w a0 39)).toNatClampNeg i1) r6 (((7 : Int32) * (cm_I w a0 39)) + (1 : Int32)).toNatClampNeg i2) r10 (((7 : Int32) * (cm_I w a0 39)) + (2 : Int32)).toNatClampNeg i3) a0 48).bind fun r14 => (if cm_ga w .int r14 (((7 : Int32) * (cm_I w a0 39)) + (3 : Int32)) = true then (if cm_w2 96 143 r14 = true then (cm_R (cm_sI (cm_sI (cm_sI (cm_sI w r2 ((7 : Int32) * (cm_I w a0 39)).toNatClampNeg i1) r6 (((7 : Int32) * (cm_I w a0 39)) + (1 : Int32)).toNatClampNeg i2) r10 (((7 : Int32) * (cm_I w a0 39)) + (2 : Int32)).toNatClampNeg i3) r14 (((7 : Int32) * (cm_I w a0 39)) + (3 : Int32)).toNatClampNeg i4) a0 48).bind fun r18 => (if cm_ga w .int r18 (((7 : Int32) * (cm_I w a0 39)) + (4 : Int32)) = true then (if cm_w2 96 143 r18 = true then (cm_R (cm_sI (cm_sI (cm_sI (cm_sI (cm_sI w r2 ((7 : Int32) * (cm_I w a0 39)).toNatClampNeg i1) r6 (((7 : Int32) * (cm_I w a0 39)) + (1 : Int32)).toNatClampNeg i2) r10 (((7 : Int32) * (cm_I w a0 39)) + (2 : Int32)).toNatClampNeg i3) r14 (((7 : Int32) * (cm_I w a0 39)) + (3 : Int32)).toNatClampNeg i4) r18 (((7 : Int32) * (cm_I w a0 39)) + (4 : Int32)).toNatClampNeg i5) a0 48).bind fun r22 => (if cm_ga w .int r22 (((7 : Int32) * (cm_I w a0 39)) + (5 : Int32)) = true then (if cm_w2 96 143 r22 = true then (cm_R (cm_sI (cm_sI (cm_sI (cm_sI (cm_sI (cm_sI w r2 ((7 : Int32) * (cm_I w a0 39)).toNatClampNeg i1) r6 (((7 : Int32) * (cm_I w a0 39)) + (1 : Int32)).toNatClampNeg i2) r10 (((7 : Int32) * (cm_I w a0 39)) + (2 : Int32)).toNatClampNeg i3) r14 (((7 : Int32) * (cm_I w a0 39)) + (3 : Int32)).toNatClampNeg i4) r18 (((7 : Int32) * (cm_I w a0 39)) + (4 : Int32)).toNatClampNeg i5) r22 (((7 : Int32) * (cm_I w a0 39)) + (5 : Int32)).toNatClampNeg (cm_I (cm_sI (cm_sI (cm_sI (cm_sI (cm_sI w r2 ((7 : Int32) * (cm_I w a0 39)).toNatClampNeg i1) r6 (((7 : Int32) * (cm_I w a0 39)) + (1 : Int32)).toNatClampNeg i2) r10 (((7 : Int32) * (cm_I w a0 39)) + (2 : Int32)).toNatClampNeg i3) r14 (((7 : Int32) * (cm_I w a0 39)) + (3 : Int32)).toNatClampNeg i4) r18 (((7 : Int32) * (cm_I w a0 39)) + (4 : Int32)).toNatClampNeg i5) a0 8)) a0 48).bind fun r26 => (if ¬ i3 = (-1 : Int32) then (cm_R (cm_sI (cm_sI (cm_sI (cm_sI (cm_sI (cm_sI w r2 ((7 : Int32) * (cm_I w a0 39)).toNatClampNeg i1) r6 (((7 : Int32) * (cm_I w a0 39)) + (1 : Int32)).toNatClampNeg i2) r10 (((7 : Int32) * (cm_I w a0 39)) + (2 : Int32)).toNatClampNeg i3) r14 (((7 : Int32) * (cm_I w a0 39)) + (3 : Int32)).toNatClampNeg i4) r18 (((7 : Int32) * (cm_I w a0 39)) + (4 : Int32)).toNatClampNeg i5) r22 (((7 : Int32) * (cm_I w a0 39)) + (5 : Int32)).toNatClampNeg (cm_I (cm_sI (cm_sI (cm_sI (cm_sI (cm_sI w r2 ((7 : Int32) * (cm_I w a0 39)).toNatClampNeg i1) r6 (((7 : Int32) * (cm_I w a0 39)) + (1 : Int32)).toNatClampNeg i2) r10 (((7 : Int32) * (cm_I w a0 39)) + (2 : Int32)).toNatClampNeg i3) r14 (((7 : Int32) * (cm_I w a0 39)) + (3 : Int32)).toNatClampNeg i4) r18 (((7 : Int32) * (cm_I w a0 39)) + (4 : Int32)).toNatClampNeg i5) a0 8)) a0 44).bind fun r29 => (if cm_ga w .int r29 i1 = true then (fn_196 (cm_sI (cm_sI (cm_sI (cm_sI (cm_sI (cm_sI w r2 ((7 : Int32) * (cm_I w a0 39)).toNatClampNeg i1) r6 (((7 : Int32) * (cm_I w a0 39)) + (1 : Int32)).toNatClampNeg i2) r10 (((7 : Int32) * (cm_I w a0 39)) + (2 : Int32)).toNatClampNeg i3) r14 (((7 : Int32) * (cm_I w a0 39)) + (3 : Int32)).toNatClampNeg i4) r18 (((7 : Int32) * (cm_I w a0 39)) + (4 : Int32)).toNatClampNeg i5) r22 (((7 : Int32) * (cm_I w a0 39)) + (5 : Int32)).toNatClampNeg (cm_I (cm_sI (cm_sI (cm_sI (cm_sI (cm_sI w r2 ((7 : Int32) * (cm_I w a0 39)).toNatClampNeg i1) r6 (((7 : Int32) * (cm_I w a0 39)) + (1 : Int32)).toNatClampNeg i2) r10 (((7 : Int32) * (cm_I w a0 39)) + (2 : Int32)).toNatClampNeg i3) r14 (((7 : Int32) * (cm_I w a0 39)) + (3 : Int32)).toNatClampNeg i4) r18 (((7 : Int32) * (cm_I w a0 39)) + (4 : Int32)).toNatClampNeg i5) a0 8)) (cm_I (cm_sI (cm_sI (cm_sI (cm_sI (cm_sI (cm_sI w r2 ((7 : Int32) * (cm_I w a0 39)).toNatClampNeg i1) r6 (((7 : Int32) * (cm_I w a0 39)) + (1 : Int32)).toNatClampNeg i2) r10 (((7 : Int32) * (cm_I w a0 39)) + (2 : Int32)).toNatClampNeg i3) r14 (((7 : Int32) * (cm_I w a0 39)) + (3 : Int32)).toNatClampNeg i4) r18 (((7 : Int32) * (cm_I w a0 39)) + (4 : Int32)).toNatClampNeg i5) r22 (((7 : Int32) * (cm_I w a0 39)) + (5 : Int32)).toNatClampNeg (cm_I (cm_sI (cm_sI (cm_sI (cm_sI (cm_sI w r2 ((7 : Int32) * (cm_I w a0 39)).toNatClampNeg i1) r6 (((7 : Int32) * (cm_I w a0 39)) + (1 : Int32)).toNatClampNeg i2) r10 (((7 : Int32) * (cm_I w a0 39)) + (2 : Int32)).toNatClampNeg i3) r14 (((7 : Int32) * (cm_I w a0 39)) + (3 : Int32)).toNatClampNeg i4) r18 (((7 : Int32) * (cm_I w a0 39)) + (4 : Int32)).toNatClampNeg i5) a0 8)) r29 i1.toNatClampNeg) i3).bind fun v32 => (fn_195 (cm_sI (cm_sI (cm_sI (cm_sI (cm_sI (cm_sI w r2 ((7 : Int32) * (cm_I w a0 39)).toNatClampNeg i1) r6 (((7 : Int32) * (cm_I w a0 39)) + (1 : Int32)).toNatClampNeg i2) r10 (((7 : Int32) * (cm_I w a0 39)) + (2 : Int32)).toNatClampNeg i3) r14 (((7 : Int32) * (cm_I w a0 39)) + (3 : Int32)).toNatClampNeg i4) r18 (((7 : Int32) * (cm_I w a0 39)) + (4 : Int32)).toNatClampNeg i5) r22 (((7 : Int32) * (cm_I w a0 39)) + (5 : Int32)).toNatClampNeg (cm_I (cm_sI (cm_sI (cm_sI (cm_sI (cm_sI w r2 ((7 : Int32) * (cm_I w a0 39)).toNatClampNeg i1) r6 (((7 : Int32) * (cm_I w a0 39)) + (1 : Int32)).toNatClampNeg i2) r10 (((7 : Int32) * (cm_I w a0 39)) + (2 : Int32)).toNatClampNeg i3) r14 (((7 : Int32) * (cm_I w a0 39)) + (3 : Int32)).toNatClampNeg i4) r18 (((7 : Int32) * (cm_I w a0 39)) + (4 : Int32)).toNatClampNeg i5) a0 8)) (cm_b v32)).bind fun v34 => (if cm_ga w .int r26 (((7 : Int32) * (cm_I w a0 39)) + (6 : Int32)) = true then (if cm_w2 96 143 r26 = true then (cm_R (cm_sI (cm_sI (cm_sI (cm_sI (cm_sI (cm_sI (cm_sI w r2 ((7 : Int32) * (cm_I w a0 39)).toNatClampNeg i1) r6 (((7 : Int32) * (cm_I w a0 39)) + (1 : Int32)).toNatClampNeg i2) r10 (((7 : Int32) * (cm_I w a0 39)) + (2 : Int32)).toNatClampNeg i3) r14 (((7 : Int32) * (cm_I w a0 39)) + (3 : Int32)).toNatClampNeg i4) r18 (((7 : Int32) * (cm_I w a0 39)) + (4 : Int32)).toNatClampNeg i5) r22 (((7 : Int32) * (cm_I w a0 39)) + (5 : Int32)).toNatClampNeg (cm_I (cm_sI (cm_sI (cm_sI (cm_sI (cm_sI w r2 ((7 : Int32) * (cm_I w a0 39)).toNatClampNeg i1) r6 (((7 : Int32) * (cm_I w a0 39)) + (1 : Int32)).toNatClampNeg i2) r10 (((7 : Int32) * (cm_I w a0 39)) + (2 : Int32)).toNatClampNeg i3) r14 (((7 : Int32) * (cm_I w a0 39)) + (3 : Int32)).toNatClampNeg i4) r18 (((7 : Int32) * (cm_I w a0 39)) + (4 : Int32)).toNatClampNeg i5) a0 8)) r26 (((7 : Int32) * (cm_I w a0 39)) + (6 : Int32)).toNatClampNeg v34) a0 46).bind fun r38 => (if cm_ga w .int r38 i1 = true then (if cm_w2 96 143 r38 = true then (if cm_w2 96 143 a0 = true then some (cm_sI (cm_sI (cm_sI (cm_sI (cm_sI (cm_sI (cm_sI (cm_sI (cm_sI w r2 ((7 : Int32) * (cm_I w a0 39)).toNatClampNeg i1) r6 (((7 : Int32) * (cm_I w a0 39)) + (1 : Int32)).toNatClampNeg i2) r10 (((7 : Int32) * (cm_I w a0 39)) + (2 : Int32)).toNatClampNeg i3) r14 (((7 : Int32) * (cm_I w a0 39)) + (3 : Int32)).toNatClampNeg i4) r18 (((7 : Int32) * (cm_I w a0 39)) + (4 : Int32)).toNatClampNeg i5) r22 (((7 : Int32) * (cm_I w a0 39)) + (5 : Int32)).toNatClampNeg (cm_I (cm_sI (cm_sI (cm_sI (cm_sI (cm_sI w r2 ((7 : Int32) * (cm_I w a0 39)).toNatClampNeg i1) r6 (((7 : Int32) * (cm_I w a0 39)) + (1 : Int32)).toNatClampNeg i2) r10 (((7 : Int32) * (cm_I w a0 39)) + (2 : Int32)).toNatClampNeg i3) r14 (((7 : Int32) * (cm_I w a0 39)) + (3 : Int32)).toNatClampNeg i4) r18 (((7 : Int32) * (cm_I w a0 39)) + (4 : Int32)).toNatClampNeg i5) a0 8)) r26 (((7 : Int32) * (cm_I w a0 39)) + (6 : Int32)).toNatClampNeg v34) r38 i1.toNatClampNeg ((cm_I (cm_sI (cm_sI (cm_sI (cm_sI (cm_sI (cm_sI (cm_sI w r2 ((7 : Int32) * (cm_I w a0 39)).toNatClampNeg i1) r6 (((7 : Int32) * (cm_I w a0 39)) + (1 : Int32)).toNatClampNeg i2) r10 (((7 : Int32) * (cm_I w a0 39)) + (2 : Int32)).toNatClampNeg i3) r14 (((7 : Int32) * (cm_I w a0 39)) + (3 : Int32)).toNatClampNeg i4) r18 (((7 : Int32) * (cm_I w a0 39)) + (4 : Int32)).toNatClampNeg i5) r22 (((7 : Int32) * (cm_I w a0 39)) + (5 : Int32)).toNatClampNeg (cm_I (cm_sI (cm_sI (cm_sI (cm_sI (cm_sI w r2 ((7 : Int32) * (cm_I w a0 39)).toNatClampNeg i1) r6 (((7 : Int32) * (cm_I w a0 39)) + (1 : Int32)).toNatClampNeg i2) r10 (((7 : Int32) * (cm_I w a0 39)) + (2 : Int32)).toNatClampNeg i3) r14 (((7 : Int32) * (cm_I w a0 39)) + (3 : Int32)).toNatClampNeg i4) r18 (((7 : Int32) * (cm_I w a0 39)) + (4 : Int32)).toNatClampNeg i5) a0 8)) r26 (((7 : Int32) * (cm_I w a0 39)) + (6 : Int32)).toNatClampNeg v34) r38 i1.toNatClampNeg) + (1 : Int32))) a0 39 ((cm_I (cm_sI (cm_sI (cm_sI (cm_sI (cm_sI (cm_sI (cm_sI (cm_sI w r2 ((7 : Int32) * (cm_I w a0 39)).toNatClampNeg i1) r6 (((7 : Int32) * (cm_I w a0 39)) + (1 : Int32)).toNatClampNeg i2) r10 (((7 : Int32) * (cm_I w a0 39)) + (2 : Int32)).toNatClampNeg i3) r14 (((7 : Int32) * (cm_I w a0 39)) + (3 : Int32)).toNatClampNeg i4) r18 (((7 : Int32) * (cm_I w a0 39)) + (4 : Int32)).toNatClampNeg i5) r22 (((7 : Int32) * (cm_I w a0 39)) + (5 : Int32)).toNatClampNeg (cm_I (cm_sI (cm_sI (cm_sI (cm_sI (cm_sI w r2 ((7 : Int32) * (cm_I w a0 39)).toNatClampNeg i1) r6 (((7 : Int32) * (cm_I w a0 39)) + (1 : Int32)).toNatClampNeg i2) r10 (((7 : Int32) * (cm_I w a0 39)) + (2 : Int32)).toNatClampNeg i3) r14 (((7 : Int32) * (cm_I w a0 39)) + (3 : Int32)).toNatClampNeg i4) r18 (((7 : Int32) * (cm_I w a0 39)) + (4 : Int32)).toNatClampNeg i5) a0 8)) r26 (((7 : Int32) * (cm_I w a0 39)) + (6 : Int32)).toNatClampNeg v34) r38 i1.toNatClampNeg ((cm_I (cm_sI (cm_sI (cm_sI (cm_sI (cm_sI (cm_sI (cm_sI w r2 ((7 : Int32) * (cm_I w a0 39)).toNatClampNeg i1) r6 (((7 : Int32) * (cm_I w a0 39)) + (1 : Int32)).toNatClampNeg i2) r10 (((7 : Int32) * (cm_I w a0 39)) + (2 : Int32)).toNatClampNeg i3) r14 (((7 : Int32) * (cm_I w a0 39)) + (3 : Int32)).toNatClampNeg i4) r18 (((7 : Int32) * (cm_I w a0 39)) + (4 : Int32)).toNatClampNeg i5) r22 (((7 : Int32) * (cm_I w a0 39)) + (5 : Int32)).toNatClampNeg (cm_I (cm_sI (cm_sI (cm_sI (cm_sI (cm_sI w r2 ((7 : Int32) * (cm_I w a0 39)).toNatClampNeg i1) r6 (((7 : Int32) * (cm_I w a0 39)) + (1 : Int32)).toNatClampNeg i2) r10 (((7 : Int32) * (cm_I w a0 39)) + (2 : Int32)).toNatClampNeg i3) r14 (((7 : Int32) * (cm_I w a0 39)) + (3 : Int32)).toNatClampNeg i4) r18 (((7 : Int32) * (cm_I w a0 39)) + (4 : Int32)).toNatClampNeg i5) a0 8)) r26 (((7 : Int32) * (cm_I w a0 39)) + (6 : Int32)).toNatClampNeg v34) r38 i1.toNatClampNeg) + (1 : Int32))) a0 39) + (1 : Int32))) else none) else none) else none) else none) else none) else none) else (if cm_ga w .int r26 (((7 : Int32) * (cm_I w a0 39)) + (6 : Int32)) = true then (if cm_w2 96 143 r26 = true then (cm_R (cm_sI (cm_sI (cm_sI (cm_sI (cm_sI (cm_sI (cm_sI w r2 ((7 : Int32) * (cm_I w a0 39)).toNatClampNeg i1) r6 (((7 : Int32) * (cm_I w a0 39)) + (1 : Int32)).toNatClampNeg i2) r10 (((7 : Int32) * (cm_I w a0 39)) + (2 : Int32)).toNatClampNeg i3) r14 (((7 : Int32) * (cm_I w a0 39)) + (3 : Int32)).toNatClampNeg i4) r18 (((7 : Int32) * (cm_I w a0 39)) + (4 : Int32)).toNatClampNeg i5) r22 (((7 : Int32) * (cm_I w a0 39)) + (5 : Int32)).toNatClampNeg (cm_I (cm_sI (cm_sI (cm_sI (cm_sI (cm_sI w r2 ((7 : Int32) * (cm_I w a0 39)).toNatClampNeg i1) r6 (((7 : Int32) * (cm_I w a0 39)) + (1 : Int32)).toNatClampNeg i2) r10 (((7 : Int32) * (cm_I w a0 39)) + (2 : Int32)).toNatClampNeg i3) r14 (((7 : Int32) * (cm_I w a0 39)) + (3 : Int32)).toNatClampNeg i4) r18 (((7 : Int32) * (cm_I w a0 39)) + (4 : Int32)).toNatClampNeg i5) a0 8)) r26 (((7 : Int32) * (cm_I w a0 39)) + (6 : Int32)).toNatClampNeg (0 : Int32)) a0 46).bind fun r45 => (if cm_ga w .int r45 i1 = true then (if cm_w2 96 143 r45 = true then (if cm_w2 96 143 a0 = true then some (cm_sI (cm_sI (cm_sI (cm_sI (cm_sI (cm_sI (cm_sI (cm_sI (cm_sI w r2 ((7 : Int32) * (cm_I w a0 39)).toNatClampNeg i1) r6 (((7 : Int32) * (cm_I w a0 39)) + (1 : Int32)).toNatClampNeg i2) r10 (((7 : Int32) * (cm_I w a0 39)) + (2 : Int32)).toNatClampNeg i3) r14 (((7 : Int32) * (cm_I w a0 39)) + (3 : Int32)).toNatClampNeg i4) r18 (((7 : Int32) * (cm_I w a0 39)) + (4 : Int32)).toNatClampNeg i5) r22 (((7 : Int32) * (cm_I w a0 39)) + (5 : Int32)).toNatClampNeg (cm_I (cm_sI (cm_sI (cm_sI (cm_sI (cm_sI w r2 ((7 : Int32) * (cm_I w a0 39)).toNatClampNeg i1) r6 (((7 : Int32) * (cm_I w a0 39)) + (1 : Int32)).toNatClampNeg i2) r10 (((7 : Int32) * (cm_I w a0 39)) + (2 : Int32)).toNatClampNeg i3) r14 (((7 : Int32) * (cm_I w a0 39)) + (3 : Int32)).toNatClampNeg i4) r18 (((7 : Int32) * (cm_I w a0 39)) + (4 : Int32)).toNatClampNeg i5) a0 8)) r26 (((7 : Int32) * (cm_I w a0 39)) + (6 : Int32)).toNatClampNeg (0 : Int32)) r45 i1.toNatClampNeg ((cm_I (cm_sI (cm_sI (cm_sI (cm_sI (cm_sI (cm_sI (cm_sI w r2 ((7 : Int32) * (cm_I w a0 39)).toNatClampNeg i1) r6 (((7 : Int32) * (cm_I w a0 39)) + (1 : Int32)).toNatClampNeg i2) r10 (((7 : Int32) * (cm_I w a0 39)) + (2 : Int32)).toNatClampNeg i3) r14 (((7 : Int32) * (cm_I w a0 39)) + (3 : Int32)).toNatClampNeg i4) r18 (((7 : Int32) * (cm_I w a0 39)) + (4 : Int32)).toNatClampNeg i5) r22 (((7 : Int32) * (cm_I w a0 39)) + (5 : Int32)).toNatClampNeg (cm_I (cm_sI (cm_sI (cm_sI (cm_sI (cm_sI w r2 ((7 : Int32) * (cm_I w a0 39)).toNatClampNeg i1) r6 (((7 : Int32) * (cm_I w a0 39)) + (1 : Int32)).toNatClampNeg i2) r10 (((7 : Int32) * (cm_I w a0 39)) + (2 : Int32)).toNatClampNeg i3) r14 (((7 : Int32) * (cm_I w a0 39)) + (3 : Int32)).toNatClampNeg i4) r18 (((7 : Int32) * (cm_I w a0 39)) + (4 : Int32)).toNatClampNeg i5) a0 8)) r26 (((7 : Int32) * (cm_I w a0 39)) + (6 : Int32)).toNatClampNeg (0 : Int32)) r45 i1.toNatClampNeg) + (1 : Int32))) a0 39 ((cm_I (cm_sI (cm_sI (cm_sI (cm_sI (cm_sI (cm_sI (cm_sI (cm_sI w r2 ((7 : Int32) * (cm_I w a0 39)).toNatClampNeg i1) r6 (((7 : Int32) * (cm_I w a0 39)) + (1 : Int32)).toNatClampNeg i2) r10 (((7 : Int32) * (cm_I w a0 39)) + (2 : Int32)).toNatClampNeg i3) r14 (((7 : Int32) * (cm_I w a0 39)) + (3 : Int32)).toNatClampNeg i4) r18 (((7 : Int32) * (cm_I w a0 39)) + (4 : Int32)).toNatClampNeg i5) r22 (((7 : Int32) * (cm_I w a0 39)) + (5 : Int32)).toNatClampNeg (cm_I (cm_sI (cm_sI (cm_sI (cm_sI (cm_sI w r2 ((7 : Int32) * (cm_I w a0 39)).toNatClampNeg i1) r6 (((7 : Int32) * (cm_I w a0 39)) + (1 : Int32)).toNatClampNeg i2) r10 (((7 : Int32) * (cm_I w a0 39)) + (2 : Int32)).toNatClampNeg i3) r14 (((7 : Int32) * (cm_I w a0 39)) + (3 : Int32)).toNatClampNeg i4) r18 (((7 : Int32) * (cm_I w a0 39)) + (4 : Int32)).toNatClampNeg i5) a0 8)) r26 (((7 : Int32) * (cm_I w a0 39)) + (6 : Int32)).toNatClampNeg (0 : Int32)) r45 i1.toNatClampNeg ((cm_I (cm_sI (cm_sI (cm_sI (cm_sI (cm_sI (cm_sI (cm_sI w r2 ((7 : Int32) * (cm_I w a0 39)).toNatClampNeg i1) r6 (((7 : Int32) * (cm_I w a0 39)) + (1 : Int32)).toNatClampNeg i2) r10 (((7 : Int32) * (cm_I w a0 39)) + (2 : Int32)).toNatClampNeg i3) r14 (((7 : Int32) * (cm_I w a0 39)) + (3 : Int32)).toNatClampNeg i4) r18 (((7 : Int32) * (cm_I w a0 39)) + (4 : Int32)).toNatClampNeg i5) r22 (((7 : Int32) * (cm_I w a0 39)) + (5 : Int32)).toNatClampNeg (cm_I (cm_sI (cm_sI (cm_sI (cm_sI (cm_sI w r2 ((7 : Int32) * (cm_I w a0 39)).toNatClampNeg i1) r6 (((7 : Int32) * (cm_I w a0 39)) + (1 : Int32)).toNatClampNeg i2) r10 (((7 : Int32) * (cm_I w a0 39)) + (2 : Int32)).toNatClampNeg i3) r14 (((7 : Int32) * (cm_I w a0 39)) + (3 : Int32)).toNatClampNeg i4) r18 (((7 : Int32) * (cm_I w a0 39)) + (4 : Int32)).toNatClampNeg i5) a0 8)) r26 (((7 : Int32) * (cm_I w a0 39)) + (6 : Int32)).toNatClampNeg (0 : Int32)) r45 i1.toNatClampNeg) + (1 : Int32))) a0 39) + (1 : Int32))) else none) else none) else none) else none) else none)) else none) else none) else none) else none) else none) else none) else none) else none) else none) else none) else none) else none) else none)
theorem jt_238_0 (a0 : Nat) (i1 : Int32) (i2 : Int32) (i3 : Int32) (i4 : Int32) (i5 : Int32) (w : cm_W) : sm cm_g 238 ck_238 kq_238 0 [(0, .ref a0), (1, .int i1), (2, .int i2), (3, .int i3), (4, .int i4), (5, .int i5)] [] w ((fn_238 a0 i1 i2 i3 i4 i5 w).map cm_gV) := by
  unfold fn_238
  refine sm_seg 2 3 [(0, .ref a0), (1, .int i1), (2, .int i2), (3, .int i3), (4, .int i4), (5, .int i5)] [.ref a0, .int (7 : Int32)] rfl ?_
  refine sm_gd fun h1 => ?_
  refine sm_gI rfl h1 rfl ?_
  show sm _ _ _ _ 6 [(0, .ref a0), (1, .int i1), (2, .int i2), (3, .int i3), (4, .int i4), (5, .int i5)] [.int (cm_I w a0 39), .int (7 : Int32)] _ _
  refine sm_seg 3 10 [(6, .int ((7 : Int32) * (cm_I w a0 39))), (0, .ref a0), (1, .int i1), (2, .int i2), (3, .int i3), (4, .int i4), (5, .int i5)] [.ref a0] rfl ?_
  refine sm_gR rfl h1 rfl rfl fun r2 h3 => ?_
  show sm _ _ _ _ 13 [(6, .int ((7 : Int32) * (cm_I w a0 39))), (0, .ref a0), (1, .int i1), (2, .int i2), (3, .int i3), (4, .int i4), (5, .int i5)] [.ref r2] _ _
  refine sm_seg 2 16 [(6, .int ((7 : Int32) * (cm_I w a0 39))), (0, .ref a0), (1, .int i1), (2, .int i2), (3, .int i3), (4, .int i4), (5, .int i5)] [.int i1, .int ((7 : Int32) * (cm_I w a0 39)), .ref r2] rfl ?_
  refine sm_gd fun h4 => ?_
  refine sm_gd fun h5 => ?_
  refine sm_si rfl h4 h5 rfl rfl ?_
  show sm _ _ _ _ 17 [(6, .int ((7 : Int32) * (cm_I w a0 39))), (0, .ref a0), (1, .int i1), (2, .int i2), (3, .int i3), (4, .int i4), (5, .int i5)] [] _ _
  refine sm_seg 1 18 [(6, .int ((7 : Int32) * (cm_I w a0 39))), (0, .ref a0), (1, .int i1), (2, .int i2), (3, .int i3), (4, .int i4), (5, .int i5)] [.ref a0] rfl ?_
  refine sm_gR rfl h1 rfl rfl fun r6 h7 => ?_
  show sm _ _ _ _ 21 [(6, .int ((7 : Int32) * (cm_I w a0 39))), (0, .ref a0), (1, .int i1), (2, .int i2), (3, .int i3), (4, .int i4), (5, .int i5)] [.ref r6] _ _
  refine sm_seg 4 26 [(6, .int ((7 : Int32) * (cm_I w a0 39))), (0, .ref a0), (1, .int i1), (2, .int i2), (3, .int i3), (4, .int i4), (5, .int i5)] [.int i2, .int (((7 : Int32) * (cm_I w a0 39)) + (1 : Int32)), .ref r6] rfl ?_
  refine sm_gd fun h8 => ?_
  refine sm_gd fun h9 => ?_
  refine sm_si rfl h8 h9 rfl rfl ?_
  show sm _ _ _ _ 27 [(6, .int ((7 : Int32) * (cm_I w a0 39))), (0, .ref a0), (1, .int i1), (2, .int i2), (3, .int i3), (4, .int i4), (5, .int i5)] [] _ _
  refine sm_seg 1 28 [(6, .int ((7 : Int32) * (cm_I w a0 39))), (0, .ref a0), (1, .int i1), (2, .int i2), (3, .int i3), (4, .int i4), (5, .int i5)] [.ref a0] rfl ?_
  refine sm_gR rfl h1 rfl rfl fun r10 h11 => ?_
  show sm _ _ _ _ 31 [(6, .int ((7 : Int32) * (cm_I w a0 39))), (0, .ref a0), (1, .int i1), (2, .int i2), (3, .int i3), (4, .int i4), (5, .int i5)] [.ref r10] _ _
  refine sm_seg 4 36 [(6, .int ((7 : Int32) * (cm_I w a0 39))), (0, .ref a0), (1, .int i1), (2, .int i2), (3, .int i3), (4, .int i4), (5, .int i5)] [.int i3, .int (((7 : Int32) * (cm_I w a0 39)) + (2 : Int32)), .ref r10] rfl ?_
  refine sm_gd fun h12 => ?_
  refine sm_gd fun h13 => ?_
  refine sm_si rfl h12 h13 rfl rfl ?_
  show sm _ _ _ _ 37 [(6, .int ((7 : Int32) * (cm_I w a0 39))), (0, .ref a0), (1, .int i1), (2, .int i2), (3, .int i3), (4, .int i4), (5, .int i5)] [] _ _
  refine sm_seg 1 38 [(6, .int ((7 : Int32) * (cm_I w a0 39))), (0, .ref a0), (1, .int i1), (2, .int i2), (3, .int i3), (4, .int i4), (5, .int i5)] [.ref a0] rfl ?_
  refine sm_gR rfl h1 rfl rfl fun r14 h15 => ?_
  show sm _ _ _ _ 41 [(6, .int ((7 : Int32) * (cm_I w a0 39))), (0, .ref a0), (1, .int i1), (2, .int i2), (3, .int i3), (4, .int i4), (5, .int i5)] [.ref r14] _ _
  refine sm_seg 4 47 [(6, .int ((7 : Int32) * (cm_I w a0 39))), (0, .ref a0), (1, .int i1), (2, .int i2), (3, .int i3), (4, .int i4), (5, .int i5)] [.int i4, .int (((7 : Int32) * (cm_I w a0 39)) + (3 : Int32)), .ref r14] rfl ?_
  refine sm_gd fun h16 => ?_
  refine sm_gd fun h17 => ?_
  refine sm_si rfl h16 h17 rfl rfl ?_
  show sm _ _ _ _ 48 [(6, .int ((7 : Int32) * (cm_I w a0 39))), (0, .ref a0), (1, .int i1), (2, .int i2), (3, .int i3), (4, .int i4), (5, .int i5)] [] _ _
  refine sm_seg 1 49 [(6, .int ((7 : Int32) * (cm_I w a0 39))), (0, .ref a0), (1, .int i1), (2, .int i2), (3, .int i3), (4, .int i4), (5, .int i5)] [.ref a0] rfl ?_
  refine sm_gR rfl h1 rfl rfl fun r18 h19 => ?_
  show sm _ _ _ _ 52 [(6, .int ((7 : Int32) * (cm_I w a0 39))), (0, .ref a0), (1, .int i1), (2, .int i2), (3, .int i3), (4, .int i4), (5, .int i5)] [.ref r18] _ _
  refine sm_seg 4 58 [(6, .int ((7 : Int32) * (cm_I w a0 39))), (0, .ref a0), (1, .int i1), (2, .int i2), (3, .int i3), (4, .int i4), (5, .int i5)] [.int i5, .int (((7 : Int32) * (cm_I w a0 39)) + (4 : Int32)), .ref r18] rfl ?_
  refine sm_gd fun h20 => ?_
  refine sm_gd fun h21 => ?_
  refine sm_si rfl h20 h21 rfl rfl ?_
  show sm _ _ _ _ 59 [(6, .int ((7 : Int32) * (cm_I w a0 39))), (0, .ref a0), (1, .int i1), (2, .int i2), (3, .int i3), (4, .int i4), (5, .int i5)] [] _ _
  refine sm_seg 1 60 [(6, .int ((7 : Int32) * (cm_I w a0 39))), (0, .ref a0), (1, .int i1), (2, .int i2), (3, .int i3), (4, .int i4), (5, .int i5)] [.ref a0] rfl ?_
  refine sm_gR rfl h1 rfl rfl fun r22 h23 => ?_
  show sm _ _ _ _ 63 [(6, .int ((7 : Int32) * (cm_I w a0 39))), (0, .ref a0), (1, .int i1), (2, .int i2), (3, .int i3), (4, .int i4), (5, .int i5)] [.ref r22] _ _
  refine sm_seg 4 68 [(6, .int ((7 : Int32) * (cm_I w a0 39))), (0, .ref a0), (1, .int i1), (2, .int i2), (3, .int i3), (4, .int i4), (5, .int i5)] [.ref a0, .int (((7 : Int32) * (cm_I w a0 39)) + (5 : Int32)), .ref r22] rfl ?_
  refine sm_gI rfl h1 rfl ?_
  show sm _ _ _ _ 71 [(6, .int ((7 : Int32) * (cm_I w a0 39))), (0, .ref a0), (1, .int i1), (2, .int i2), (3, .int i3), (4, .int i4), (5, .int i5)] [.int (cm_I (cm_sI (cm_sI (cm_sI (cm_sI (cm_sI w r2 ((7 : Int32) * (cm_I w a0 39)).toNatClampNeg i1) r6 (((7 : Int32) * (cm_I w a0 39)) + (1 : Int32)).toNatClampNeg i2) r10 (((7 : Int32) * (cm_I w a0 39)) + (2 : Int32)).toNatClampNeg i3) r14 (((7 : Int32) * (cm_I w a0 39)) + (3 : Int32)).toNatClampNeg i4) r18 (((7 : Int32) * (cm_I w a0 39)) + (4 : Int32)).toNatClampNeg i5) a0 8), .int (((7 : Int32) * (cm_I w a0 39)) + (5 : Int32)), .ref r22] _ _
  refine sm_gd fun h24 => ?_
  refine sm_gd fun h25 => ?_
  refine sm_si rfl h24 h25 rfl rfl ?_
  show sm _ _ _ _ 72 [(6, .int ((7 : Int32) * (cm_I w a0 39))), (0, .ref a0), (1, .int i1), (2, .int i2), (3, .int i3), (4, .int i4), (5, .int i5)] [] _ _
  refine sm_seg 1 73 [(6, .int ((7 : Int32) * (cm_I w a0 39))), (0, .ref a0), (1, .int i1), (2, .int i2), (3, .int i3), (4, .int i4), (5, .int i5)] [.ref a0] rfl ?_
  refine sm_gR rfl h1 rfl rfl fun r26 h27 => ?_
  show sm _ _ _ _ 76 [(6, .int ((7 : Int32) * (cm_I w a0 39))), (0, .ref a0), (1, .int i1), (2, .int i2), (3, .int i3), (4, .int i4), (5, .int i5)] [.ref r26] _ _
  refine sm_seg 5 83 [(6, .int ((7 : Int32) * (cm_I w a0 39))), (0, .ref a0), (1, .int i1), (2, .int i2), (3, .int i3), (4, .int i4), (5, .int i5)] [.int (-1 : Int32), .int i3, .int (((7 : Int32) * (cm_I w a0 39)) + (6 : Int32)), .ref r26] rfl ?_
  refine sm_if (pc1 := 90) (lv1 := [(0, .ref a0), (1, .int i1), (3, .int i3)]) (pc2 := 86) (lv2 := [(6, .int ((7 : Int32) * (cm_I w a0 39))), (0, .ref a0), (1, .int i1), (2, .int i2), (3, .int i3), (4, .int i4), (5, .int i5)]) (st1 := [.int (((7 : Int32) * (cm_I w a0 39)) + (6 : Int32)), .ref r26]) rfl rfl rfl (fun h28 => ?_) (fun h28 => ?_)
  · refine sm_seg 1 91 [(0, .ref a0), (1, .int i1), (3, .int i3)] [.ref a0, .int (((7 : Int32) * (cm_I w a0 39)) + (6 : Int32)), .ref r26] rfl ?_
    refine sm_gR rfl h1 rfl rfl fun r29 h30 => ?_
    show sm _ _ _ _ 94 [(0, .ref a0), (1, .int i1), (3, .int i3)] [.ref r29, .int (((7 : Int32) * (cm_I w a0 39)) + (6 : Int32)), .ref r26] _ _
    refine sm_seg 1 95 [(0, .ref a0), (1, .int i1), (3, .int i3)] [.int i1, .ref r29, .int (((7 : Int32) * (cm_I w a0 39)) + (6 : Int32)), .ref r26] rfl ?_
    refine sm_gd fun h31 => ?_
    refine sm_ai rfl h31 rfl ?_
    show sm _ _ _ _ 96 [(0, .ref a0), (1, .int i1), (3, .int i3)] [.int (cm_I (cm_sI (cm_sI (cm_sI (cm_sI (cm_sI (cm_sI w r2 ((7 : Int32) * (cm_I w a0 39)).toNatClampNeg i1) r6 (((7 : Int32) * (cm_I w a0 39)) + (1 : Int32)).toNatClampNeg i2) r10 (((7 : Int32) * (cm_I w a0 39)) + (2 : Int32)).toNatClampNeg i3) r14 (((7 : Int32) * (cm_I w a0 39)) + (3 : Int32)).toNatClampNeg i4) r18 (((7 : Int32) * (cm_I w a0 39)) + (4 : Int32)).toNatClampNeg i5) r22 (((7 : Int32) * (cm_I w a0 39)) + (5 : Int32)).toNatClampNeg (cm_I (cm_sI (cm_sI (cm_sI (cm_sI (cm_sI w r2 ((7 : Int32) * (cm_I w a0 39)).toNatClampNeg i1) r6 (((7 : Int32) * (cm_I w a0 39)) + (1 : Int32)).toNatClampNeg i2) r10 (((7 : Int32) * (cm_I w a0 39)) + (2 : Int32)).toNatClampNeg i3) r14 (((7 : Int32) * (cm_I w a0 39)) + (3 : Int32)).toNatClampNeg i4) r18 (((7 : Int32) * (cm_I w a0 39)) + (4 : Int32)).toNatClampNeg i5) a0 8)) r29 i1.toNatClampNeg), .int (((7 : Int32) * (cm_I w a0 39)) + (6 : Int32)), .ref r26] _ _
    refine sm_seg 1 97 [(0, .ref a0), (1, .int i1), (3, .int i3)] [.int i3, .int (cm_I (cm_sI (cm_sI (cm_sI (cm_sI (cm_sI (cm_sI w r2 ((7 : Int32) * (cm_I w a0 39)).toNatClampNeg i1) r6 (((7 : Int32) * (cm_I w a0 39)) + (1 : Int32)).toNatClampNeg i2) r10 (((7 : Int32) * (cm_I w a0 39)) + (2 : Int32)).toNatClampNeg i3) r14 (((7 : Int32) * (cm_I w a0 39)) + (3 : Int32)).toNatClampNeg i4) r18 (((7 : Int32) * (cm_I w a0 39)) + (4 : Int32)).toNatClampNeg i5) r22 (((7 : Int32) * (cm_I w a0 39)) + (5 : Int32)).toNatClampNeg (cm_I (cm_sI (cm_sI (cm_sI (cm_sI (cm_sI w r2 ((7 : Int32) * (cm_I w a0 39)).toNatClampNeg i1) r6 (((7 : Int32) * (cm_I w a0 39)) + (1 : Int32)).toNatClampNeg i2) r10 (((7 : Int32) * (cm_I w a0 39)) + (2 : Int32)).toNatClampNeg i3) r14 (((7 : Int32) * (cm_I w a0 39)) + (3 : Int32)).toNatClampNeg i4) r18 (((7 : Int32) * (cm_I w a0 39)) + (4 : Int32)).toNatClampNeg i5) a0 8)) r29 i1.toNatClampNeg), .int (((7 : Int32) * (cm_I w a0 39)) + (6 : Int32)), .ref r26] rfl ?_
    refine sm_cS (av := [.int (cm_I (cm_sI (cm_sI (cm_sI (cm_sI (cm_sI (cm_sI w r2 ((7 : Int32) * (cm_I w a0 39)).toNatClampNeg i1) r6 (((7 : Int32) * (cm_I w a0 39)) + (1 : Int32)).toNatClampNeg i2) r10 (((7 : Int32) * (cm_I w a0 39)) + (2 : Int32)).toNatClampNeg i3) r14 (((7 : Int32) * (cm_I w a0 39)) + (3 : Int32)).toNatClampNeg i4) r18 (((7 : Int32) * (cm_I w a0 39)) + (4 : Int32)).toNatClampNeg i5) r22 (((7 : Int32) * (cm_I w a0 39)) + (5 : Int32)).toNatClampNeg (cm_I (cm_sI (cm_sI (cm_sI (cm_sI (cm_sI w r2 ((7 : Int32) * (cm_I w a0 39)).toNatClampNeg i1) r6 (((7 : Int32) * (cm_I w a0 39)) + (1 : Int32)).toNatClampNeg i2) r10 (((7 : Int32) * (cm_I w a0 39)) + (2 : Int32)).toNatClampNeg i3) r14 (((7 : Int32) * (cm_I w a0 39)) + (3 : Int32)).toNatClampNeg i4) r18 (((7 : Int32) * (cm_I w a0 39)) + (4 : Int32)).toNatClampNeg i5) a0 8)) r29 i1.toNatClampNeg), .int i3]) (rest := [.int (((7 : Int32) * (cm_I w a0 39)) + (6 : Int32)), .ref r26]) rfl rfl rfl rfl (Nat.le_of_ble_eq_true rfl) (ca_196 (cm_sI (cm_sI (cm_sI (cm_sI (cm_sI (cm_sI w r2 ((7 : Int32) * (cm_I w a0 39)).toNatClampNeg i1) r6 (((7 : Int32) * (cm_I w a0 39)) + (1 : Int32)).toNatClampNeg i2) r10 (((7 : Int32) * (cm_I w a0 39)) + (2 : Int32)).toNatClampNeg i3) r14 (((7 : Int32) * (cm_I w a0 39)) + (3 : Int32)).toNatClampNeg i4) r18 (((7 : Int32) * (cm_I w a0 39)) + (4 : Int32)).toNatClampNeg i5) r22 (((7 : Int32) * (cm_I w a0 39)) + (5 : Int32)).toNatClampNeg (cm_I (cm_sI (cm_sI (cm_sI (cm_sI (cm_sI w r2 ((7 : Int32) * (cm_I w a0 39)).toNatClampNeg i1) r6 (((7 : Int32) * (cm_I w a0 39)) + (1 : Int32)).toNatClampNeg i2) r10 (((7 : Int32) * (cm_I w a0 39)) + (2 : Int32)).toNatClampNeg i3) r14 (((7 : Int32) * (cm_I w a0 39)) + (3 : Int32)).toNatClampNeg i4) r18 (((7 : Int32) * (cm_I w a0 39)) + (4 : Int32)).toNatClampNeg i5) a0 8)) (cm_I (cm_sI (cm_sI (cm_sI (cm_sI (cm_sI (cm_sI w r2 ((7 : Int32) * (cm_I w a0 39)).toNatClampNeg i1) r6 (((7 : Int32) * (cm_I w a0 39)) + (1 : Int32)).toNatClampNeg i2) r10 (((7 : Int32) * (cm_I w a0 39)) + (2 : Int32)).toNatClampNeg i3) r14 (((7 : Int32) * (cm_I w a0 39)) + (3 : Int32)).toNatClampNeg i4) r18 (((7 : Int32) * (cm_I w a0 39)) + (4 : Int32)).toNatClampNeg i5) r22 (((7 : Int32) * (cm_I w a0 39)) + (5 : Int32)).toNatClampNeg (cm_I (cm_sI (cm_sI (cm_sI (cm_sI (cm_sI w r2 ((7 : Int32) * (cm_I w a0 39)).toNatClampNeg i1) r6 (((7 : Int32) * (cm_I w a0 39)) + (1 : Int32)).toNatClampNeg i2) r10 (((7 : Int32) * (cm_I w a0 39)) + (2 : Int32)).toNatClampNeg i3) r14 (((7 : Int32) * (cm_I w a0 39)) + (3 : Int32)).toNatClampNeg i4) r18 (((7 : Int32) * (cm_I w a0 39)) + (4 : Int32)).toNatClampNeg i5) a0 8)) r29 i1.toNatClampNeg) i3) fun v32 h33 => ?_
    show sm _ _ _ _ 100 [(0, .ref a0), (1, .int i1), (3, .int i3)] [.int (cm_b v32), .int (((7 : Int32) * (cm_I w a0 39)) + (6 : Int32)), .ref r26] _ _
    refine sm_cS (av := [.int (cm_b v32)]) (rest := [.int (((7 : Int32) * (cm_I w a0 39)) + (6 : Int32)), .ref r26]) rfl rfl rfl rfl (Nat.le_of_ble_eq_true rfl) (ca_195 (cm_sI (cm_sI (cm_sI (cm_sI (cm_sI (cm_sI w r2 ((7 : Int32) * (cm_I w a0 39)).toNatClampNeg i1) r6 (((7 : Int32) * (cm_I w a0 39)) + (1 : Int32)).toNatClampNeg i2) r10 (((7 : Int32) * (cm_I w a0 39)) + (2 : Int32)).toNatClampNeg i3) r14 (((7 : Int32) * (cm_I w a0 39)) + (3 : Int32)).toNatClampNeg i4) r18 (((7 : Int32) * (cm_I w a0 39)) + (4 : Int32)).toNatClampNeg i5) r22 (((7 : Int32) * (cm_I w a0 39)) + (5 : Int32)).toNatClampNeg (cm_I (cm_sI (cm_sI (cm_sI (cm_sI (cm_sI w r2 ((7 : Int32) * (cm_I w a0 39)).toNatClampNeg i1) r6 (((7 : Int32) * (cm_I w a0 39)) + (1 : Int32)).toNatClampNeg i2) r10 (((7 : Int32) * (cm_I w a0 39)) + (2 : Int32)).toNatClampNeg i3) r14 (((7 : Int32) * (cm_I w a0 39)) + (3 : Int32)).toNatClampNeg i4) r18 (((7 : Int32) * (cm_I w a0 39)) + (4 : Int32)).toNatClampNeg i5) a0 8)) (cm_b v32)) fun v34 h35 => ?_
    show sm _ _ _ _ 103 [(0, .ref a0), (1, .int i1)] [.int v34, .int (((7 : Int32) * (cm_I w a0 39)) + (6 : Int32)), .ref r26] _ _
    refine sm_gd fun h36 => ?_
    refine sm_gd fun h37 => ?_
    refine sm_si rfl h36 h37 rfl rfl ?_
    show sm _ _ _ _ 104 [(0, .ref a0), (1, .int i1)] [] _ _
    refine sm_seg 1 105 [(0, .ref a0), (1, .int i1)] [.ref a0] rfl ?_
    refine sm_gR rfl h1 rfl rfl fun r38 h39 => ?_
    show sm _ _ _ _ 108 [(0, .ref a0), (1, .int i1)] [.ref r38] _ _
    refine sm_seg 2 110 [(0, .ref a0), (1, .int i1)] [.int i1, .ref r38, .int i1, .ref r38] rfl ?_
    refine sm_gd fun h40 => ?_
    refine sm_ai rfl h40 rfl ?_
    show sm _ _ _ _ 111 [(0, .ref a0), (1, .int i1)] [.int (cm_I (cm_sI (cm_sI (cm_sI (cm_sI (cm_sI (cm_sI (cm_sI w r2 ((7 : Int32) * (cm_I w a0 39)).toNatClampNeg i1) r6 (((7 : Int32) * (cm_I w a0 39)) + (1 : Int32)).toNatClampNeg i2) r10 (((7 : Int32) * (cm_I w a0 39)) + (2 : Int32)).toNatClampNeg i3) r14 (((7 : Int32) * (cm_I w a0 39)) + (3 : Int32)).toNatClampNeg i4) r18 (((7 : Int32) * (cm_I w a0 39)) + (4 : Int32)).toNatClampNeg i5) r22 (((7 : Int32) * (cm_I w a0 39)) + (5 : Int32)).toNatClampNeg (cm_I (cm_sI (cm_sI (cm_sI (cm_sI (cm_sI w r2 ((7 : Int32) * (cm_I w a0 39)).toNatClampNeg i1) r6 (((7 : Int32) * (cm_I w a0 39)) + (1 : Int32)).toNatClampNeg i2) r10 (((7 : Int32) * (cm_I w a0 39)) + (2 : Int32)).toNatClampNeg i3) r14 (((7 : Int32) * (cm_I w a0 39)) + (3 : Int32)).toNatClampNeg i4) r18 (((7 : Int32) * (cm_I w a0 39)) + (4 : Int32)).toNatClampNeg i5) a0 8)) r26 (((7 : Int32) * (cm_I w a0 39)) + (6 : Int32)).toNatClampNeg v34) r38 i1.toNatClampNeg), .int i1, .ref r38] _ _
    refine sm_seg 2 113 [(0, .ref a0), (1, .int i1)] [.int ((cm_I (cm_sI (cm_sI (cm_sI (cm_sI (cm_sI (cm_sI (cm_sI w r2 ((7 : Int32) * (cm_I w a0 39)).toNatClampNeg i1) r6 (((7 : Int32) * (cm_I w a0 39)) + (1 : Int32)).toNatClampNeg i2) r10 (((7 : Int32) * (cm_I w a0 39)) + (2 : Int32)).toNatClampNeg i3) r14 (((7 : Int32) * (cm_I w a0 39)) + (3 : Int32)).toNatClampNeg i4) r18 (((7 : Int32) * (cm_I w a0 39)) + (4 : Int32)).toNatClampNeg i5) r22 (((7 : Int32) * (cm_I w a0 39)) + (5 : Int32)).toNatClampNeg (cm_I (cm_sI (cm_sI (cm_sI (cm_sI (cm_sI w r2 ((7 : Int32) * (cm_I w a0 39)).toNatClampNeg i1) r6 (((7 : Int32) * (cm_I w a0 39)) + (1 : Int32)).toNatClampNeg i2) r10 (((7 : Int32) * (cm_I w a0 39)) + (2 : Int32)).toNatClampNeg i3) r14 (((7 : Int32) * (cm_I w a0 39)) + (3 : Int32)).toNatClampNeg i4) r18 (((7 : Int32) * (cm_I w a0 39)) + (4 : Int32)).toNatClampNeg i5) a0 8)) r26 (((7 : Int32) * (cm_I w a0 39)) + (6 : Int32)).toNatClampNeg v34) r38 i1.toNatClampNeg) + (1 : Int32)), .int i1, .ref r38] rfl ?_
    refine sm_gd fun h41 => ?_
    refine sm_si rfl h40 h41 rfl rfl ?_
    show sm _ _ _ _ 114 [(0, .ref a0), (1, .int i1)] [] _ _
    refine sm_seg 2 116 [(0, .ref a0), (1, .int i1)] [.ref a0, .ref a0] rfl ?_
    refine sm_gI rfl h1 rfl ?_
    show sm _ _ _ _ 119 [(0, .ref a0), (1, .int i1)] [.int (cm_I (cm_sI (cm_sI (cm_sI (cm_sI (cm_sI (cm_sI (cm_sI (cm_sI w r2 ((7 : Int32) * (cm_I w a0 39)).toNatClampNeg i1) r6 (((7 : Int32) * (cm_I w a0 39)) + (1 : Int32)).toNatClampNeg i2) r10 (((7 : Int32) * (cm_I w a0 39)) + (2 : Int32)).toNatClampNeg i3) r14 (((7 : Int32) * (cm_I w a0 39)) + (3 : Int32)).toNatClampNeg i4) r18 (((7 : Int32) * (cm_I w a0 39)) + (4 : Int32)).toNatClampNeg i5) r22 (((7 : Int32) * (cm_I w a0 39)) + (5 : Int32)).toNatClampNeg (cm_I (cm_sI (cm_sI (cm_sI (cm_sI (cm_sI w r2 ((7 : Int32) * (cm_I w a0 39)).toNatClampNeg i1) r6 (((7 : Int32) * (cm_I w a0 39)) + (1 : Int32)).toNatClampNeg i2) r10 (((7 : Int32) * (cm_I w a0 39)) + (2 : Int32)).toNatClampNeg i3) r14 (((7 : Int32) * (cm_I w a0 39)) + (3 : Int32)).toNatClampNeg i4) r18 (((7 : Int32) * (cm_I w a0 39)) + (4 : Int32)).toNatClampNeg i5) a0 8)) r26 (((7 : Int32) * (cm_I w a0 39)) + (6 : Int32)).toNatClampNeg v34) r38 i1.toNatClampNeg ((cm_I (cm_sI (cm_sI (cm_sI (cm_sI (cm_sI (cm_sI (cm_sI w r2 ((7 : Int32) * (cm_I w a0 39)).toNatClampNeg i1) r6 (((7 : Int32) * (cm_I w a0 39)) + (1 : Int32)).toNatClampNeg i2) r10 (((7 : Int32) * (cm_I w a0 39)) + (2 : Int32)).toNatClampNeg i3) r14 (((7 : Int32) * (cm_I w a0 39)) + (3 : Int32)).toNatClampNeg i4) r18 (((7 : Int32) * (cm_I w a0 39)) + (4 : Int32)).toNatClampNeg i5) r22 (((7 : Int32) * (cm_I w a0 39)) + (5 : Int32)).toNatClampNeg (cm_I (cm_sI (cm_sI (cm_sI (cm_sI (cm_sI w r2 ((7 : Int32) * (cm_I w a0 39)).toNatClampNeg i1) r6 (((7 : Int32) * (cm_I w a0 39)) + (1 : Int32)).toNatClampNeg i2) r10 (((7 : Int32) * (cm_I w a0 39)) + (2 : Int32)).toNatClampNeg i3) r14 (((7 : Int32) * (cm_I w a0 39)) + (3 : Int32)).toNatClampNeg i4) r18 (((7 : Int32) * (cm_I w a0 39)) + (4 : Int32)).toNatClampNeg i5) a0 8)) r26 (((7 : Int32) * (cm_I w a0 39)) + (6 : Int32)).toNatClampNeg v34) r38 i1.toNatClampNeg) + (1 : Int32))) a0 39), .ref a0] _ _
    refine sm_seg 2 121 [(0, .ref a0), (1, .int i1)] [.int ((cm_I (cm_sI (cm_sI (cm_sI (cm_sI (cm_sI (cm_sI (cm_sI (cm_sI w r2 ((7 : Int32) * (cm_I w a0 39)).toNatClampNeg i1) r6 (((7 : Int32) * (cm_I w a0 39)) + (1 : Int32)).toNatClampNeg i2) r10 (((7 : Int32) * (cm_I w a0 39)) + (2 : Int32)).toNatClampNeg i3) r14 (((7 : Int32) * (cm_I w a0 39)) + (3 : Int32)).toNatClampNeg i4) r18 (((7 : Int32) * (cm_I w a0 39)) + (4 : Int32)).toNatClampNeg i5) r22 (((7 : Int32) * (cm_I w a0 39)) + (5 : Int32)).toNatClampNeg (cm_I (cm_sI (cm_sI (cm_sI (cm_sI (cm_sI w r2 ((7 : Int32) * (cm_I w a0 39)).toNatClampNeg i1) r6 (((7 : Int32) * (cm_I w a0 39)) + (1 : Int32)).toNatClampNeg i2) r10 (((7 : Int32) * (cm_I w a0 39)) + (2 : Int32)).toNatClampNeg i3) r14 (((7 : Int32) * (cm_I w a0 39)) + (3 : Int32)).toNatClampNeg i4) r18 (((7 : Int32) * (cm_I w a0 39)) + (4 : Int32)).toNatClampNeg i5) a0 8)) r26 (((7 : Int32) * (cm_I w a0 39)) + (6 : Int32)).toNatClampNeg v34) r38 i1.toNatClampNeg ((cm_I (cm_sI (cm_sI (cm_sI (cm_sI (cm_sI (cm_sI (cm_sI w r2 ((7 : Int32) * (cm_I w a0 39)).toNatClampNeg i1) r6 (((7 : Int32) * (cm_I w a0 39)) + (1 : Int32)).toNatClampNeg i2) r10 (((7 : Int32) * (cm_I w a0 39)) + (2 : Int32)).toNatClampNeg i3) r14 (((7 : Int32) * (cm_I w a0 39)) + (3 : Int32)).toNatClampNeg i4) r18 (((7 : Int32) * (cm_I w a0 39)) + (4 : Int32)).toNatClampNeg i5) r22 (((7 : Int32) * (cm_I w a0 39)) + (5 : Int32)).toNatClampNeg (cm_I (cm_sI (cm_sI (cm_sI (cm_sI (cm_sI w r2 ((7 : Int32) * (cm_I w a0 39)).toNatClampNeg i1) r6 (((7 : Int32) * (cm_I w a0 39)) + (1 : Int32)).toNatClampNeg i2) r10 (((7 : Int32) * (cm_I w a0 39)) + (2 : Int32)).toNatClampNeg i3) r14 (((7 : Int32) * (cm_I w a0 39)) + (3 : Int32)).toNatClampNeg i4) r18 (((7 : Int32) * (cm_I w a0 39)) + (4 : Int32)).toNatClampNeg i5) a0 8)) r26 (((7 : Int32) * (cm_I w a0 39)) + (6 : Int32)).toNatClampNeg v34) r38 i1.toNatClampNeg) + (1 : Int32))) a0 39) + (1 : Int32)), .ref a0] rfl ?_
    refine sm_gd fun h42 => ?_
    refine sm_pI rfl h1 rfl h42 rfl ?_
    show sm _ _ _ _ 124 [(0, .ref a0), (1, .int i1)] [] _ _
    exact sm_rV rfl rfl
  · refine sm_seg 2 103 [(0, .ref a0), (1, .int i1)] [.int (0 : Int32), .int (((7 : Int32) * (cm_I w a0 39)) + (6 : Int32)), .ref r26] rfl ?_
    refine sm_gd fun h43 => ?_
    refine sm_gd fun h44 => ?_
    refine sm_si rfl h43 h44 rfl rfl ?_
    show sm _ _ _ _ 104 [(0, .ref a0), (1, .int i1)] [] _ _
    refine sm_seg 1 105 [(0, .ref a0), (1, .int i1)] [.ref a0] rfl ?_
    refine sm_gR rfl h1 rfl rfl fun r45 h46 => ?_
    show sm _ _ _ _ 108 [(0, .ref a0), (1, .int i1)] [.ref r45] _ _
    refine sm_seg 2 110 [(0, .ref a0), (1, .int i1)] [.int i1, .ref r45, .int i1, .ref r45] rfl ?_
    refine sm_gd fun h47 => ?_
    refine sm_ai rfl h47 rfl ?_
    show sm _ _ _ _ 111 [(0, .ref a0), (1, .int i1)] [.int (cm_I (cm_sI (cm_sI (cm_sI (cm_sI (cm_sI (cm_sI (cm_sI w r2 ((7 : Int32) * (cm_I w a0 39)).toNatClampNeg i1) r6 (((7 : Int32) * (cm_I w a0 39)) + (1 : Int32)).toNatClampNeg i2) r10 (((7 : Int32) * (cm_I w a0 39)) + (2 : Int32)).toNatClampNeg i3) r14 (((7 : Int32) * (cm_I w a0 39)) + (3 : Int32)).toNatClampNeg i4) r18 (((7 : Int32) * (cm_I w a0 39)) + (4 : Int32)).toNatClampNeg i5) r22 (((7 : Int32) * (cm_I w a0 39)) + (5 : Int32)).toNatClampNeg (cm_I (cm_sI (cm_sI (cm_sI (cm_sI (cm_sI w r2 ((7 : Int32) * (cm_I w a0 39)).toNatClampNeg i1) r6 (((7 : Int32) * (cm_I w a0 39)) + (1 : Int32)).toNatClampNeg i2) r10 (((7 : Int32) * (cm_I w a0 39)) + (2 : Int32)).toNatClampNeg i3) r14 (((7 : Int32) * (cm_I w a0 39)) + (3 : Int32)).toNatClampNeg i4) r18 (((7 : Int32) * (cm_I w a0 39)) + (4 : Int32)).toNatClampNeg i5) a0 8)) r26 (((7 : Int32) * (cm_I w a0 39)) + (6 : Int32)).toNatClampNeg (0 : Int32)) r45 i1.toNatClampNeg), .int i1, .ref r45] _ _
    refine sm_seg 2 113 [(0, .ref a0), (1, .int i1)] [.int ((cm_I (cm_sI (cm_sI (cm_sI (cm_sI (cm_sI (cm_sI (cm_sI w r2 ((7 : Int32) * (cm_I w a0 39)).toNatClampNeg i1) r6 (((7 : Int32) * (cm_I w a0 39)) + (1 : Int32)).toNatClampNeg i2) r10 (((7 : Int32) * (cm_I w a0 39)) + (2 : Int32)).toNatClampNeg i3) r14 (((7 : Int32) * (cm_I w a0 39)) + (3 : Int32)).toNatClampNeg i4) r18 (((7 : Int32) * (cm_I w a0 39)) + (4 : Int32)).toNatClampNeg i5) r22 (((7 : Int32) * (cm_I w a0 39)) + (5 : Int32)).toNatClampNeg (cm_I (cm_sI (cm_sI (cm_sI (cm_sI (cm_sI w r2 ((7 : Int32) * (cm_I w a0 39)).toNatClampNeg i1) r6 (((7 : Int32) * (cm_I w a0 39)) + (1 : Int32)).toNatClampNeg i2) r10 (((7 : Int32) * (cm_I w a0 39)) + (2 : Int32)).toNatClampNeg i3) r14 (((7 : Int32) * (cm_I w a0 39)) + (3 : Int32)).toNatClampNeg i4) r18 (((7 : Int32) * (cm_I w a0 39)) + (4 : Int32)).toNatClampNeg i5) a0 8)) r26 (((7 : Int32) * (cm_I w a0 39)) + (6 : Int32)).toNatClampNeg (0 : Int32)) r45 i1.toNatClampNeg) + (1 : Int32)), .int i1, .ref r45] rfl ?_
    refine sm_gd fun h48 => ?_
    refine sm_si rfl h47 h48 rfl rfl ?_
    show sm _ _ _ _ 114 [(0, .ref a0), (1, .int i1)] [] _ _
    refine sm_seg 2 116 [(0, .ref a0), (1, .int i1)] [.ref a0, .ref a0] rfl ?_
    refine sm_gI rfl h1 rfl ?_
    show sm _ _ _ _ 119 [(0, .ref a0), (1, .int i1)] [.int (cm_I (cm_sI (cm_sI (cm_sI (cm_sI (cm_sI (cm_sI (cm_sI (cm_sI w r2 ((7 : Int32) * (cm_I w a0 39)).toNatClampNeg i1) r6 (((7 : Int32) * (cm_I w a0 39)) + (1 : Int32)).toNatClampNeg i2) r10 (((7 : Int32) * (cm_I w a0 39)) + (2 : Int32)).toNatClampNeg i3) r14 (((7 : Int32) * (cm_I w a0 39)) + (3 : Int32)).toNatClampNeg i4) r18 (((7 : Int32) * (cm_I w a0 39)) + (4 : Int32)).toNatClampNeg i5) r22 (((7 : Int32) * (cm_I w a0 39)) + (5 : Int32)).toNatClampNeg (cm_I (cm_sI (cm_sI (cm_sI (cm_sI (cm_sI w r2 ((7 : Int32) * (cm_I w a0 39)).toNatClampNeg i1) r6 (((7 : Int32) * (cm_I w a0 39)) + (1 : Int32)).toNatClampNeg i2) r10 (((7 : Int32) * (cm_I w a0 39)) + (2 : Int32)).toNatClampNeg i3) r14 (((7 : Int32) * (cm_I w a0 39)) + (3 : Int32)).toNatClampNeg i4) r18 (((7 : Int32) * (cm_I w a0 39)) + (4 : Int32)).toNatClampNeg i5) a0 8)) r26 (((7 : Int32) * (cm_I w a0 39)) + (6 : Int32)).toNatClampNeg (0 : Int32)) r45 i1.toNatClampNeg ((cm_I (cm_sI (cm_sI (cm_sI (cm_sI (cm_sI (cm_sI (cm_sI w r2 ((7 : Int32) * (cm_I w a0 39)).toNatClampNeg i1) r6 (((7 : Int32) * (cm_I w a0 39)) + (1 : Int32)).toNatClampNeg i2) r10 (((7 : Int32) * (cm_I w a0 39)) + (2 : Int32)).toNatClampNeg i3) r14 (((7 : Int32) * (cm_I w a0 39)) + (3 : Int32)).toNatClampNeg i4) r18 (((7 : Int32) * (cm_I w a0 39)) + (4 : Int32)).toNatClampNeg i5) r22 (((7 : Int32) * (cm_I w a0 39)) + (5 : Int32)).toNatClampNeg (cm_I (cm_sI (cm_sI (cm_sI (cm_sI (cm_sI w r2 ((7 : Int32) * (cm_I w a0 39)).toNatClampNeg i1) r6 (((7 : Int32) * (cm_I w a0 39)) + (1 : Int32)).toNatClampNeg i2) r10 (((7 : Int32) * (cm_I w a0 39)) + (2 : Int32)).toNatClampNeg i3) r14 (((7 : Int32) * (cm_I w a0 39)) + (3 : Int32)).toNatClampNeg i4) r18 (((7 : Int32) * (cm_I w a0 39)) + (4 : Int32)).toNatClampNeg i5) a0 8)) r26 (((7 : Int32) * (cm_I w a0 39)) + (6 : Int32)).toNatClampNeg (0 : Int32)) r45 i1.toNatClampNeg) + (1 : Int32))) a0 39), .ref a0] _ _
    refine sm_seg 2 121 [(0, .ref a0), (1, .int i1)] [.int ((cm_I (cm_sI (cm_sI (cm_sI (cm_sI (cm_sI (cm_sI (cm_sI (cm_sI w r2 ((7 : Int32) * (cm_I w a0 39)).toNatClampNeg i1) r6 (((7 : Int32) * (cm_I w a0 39)) + (1 : Int32)).toNatClampNeg i2) r10 (((7 : Int32) * (cm_I w a0 39)) + (2 : Int32)).toNatClampNeg i3) r14 (((7 : Int32) * (cm_I w a0 39)) + (3 : Int32)).toNatClampNeg i4) r18 (((7 : Int32) * (cm_I w a0 39)) + (4 : Int32)).toNatClampNeg i5) r22 (((7 : Int32) * (cm_I w a0 39)) + (5 : Int32)).toNatClampNeg (cm_I (cm_sI (cm_sI (cm_sI (cm_sI (cm_sI w r2 ((7 : Int32) * (cm_I w a0 39)).toNatClampNeg i1) r6 (((7 : Int32) * (cm_I w a0 39)) + (1 : Int32)).toNatClampNeg i2) r10 (((7 : Int32) * (cm_I w a0 39)) + (2 : Int32)).toNatClampNeg i3) r14 (((7 : Int32) * (cm_I w a0 39)) + (3 : Int32)).toNatClampNeg i4) r18 (((7 : Int32) * (cm_I w a0 39)) + (4 : Int32)).toNatClampNeg i5) a0 8)) r26 (((7 : Int32) * (cm_I w a0 39)) + (6 : Int32)).toNatClampNeg (0 : Int32)) r45 i1.toNatClampNeg ((cm_I (cm_sI (cm_sI (cm_sI (cm_sI (cm_sI (cm_sI (cm_sI w r2 ((7 : Int32) * (cm_I w a0 39)).toNatClampNeg i1) r6 (((7 : Int32) * (cm_I w a0 39)) + (1 : Int32)).toNatClampNeg i2) r10 (((7 : Int32) * (cm_I w a0 39)) + (2 : Int32)).toNatClampNeg i3) r14 (((7 : Int32) * (cm_I w a0 39)) + (3 : Int32)).toNatClampNeg i4) r18 (((7 : Int32) * (cm_I w a0 39)) + (4 : Int32)).toNatClampNeg i5) r22 (((7 : Int32) * (cm_I w a0 39)) + (5 : Int32)).toNatClampNeg (cm_I (cm_sI (cm_sI (cm_sI (cm_sI (cm_sI w r2 ((7 : Int32) * (cm_I w a0 39)).toNatClampNeg i1) r6 (((7 : Int32) * (cm_I w a0 39)) + (1 : Int32)).toNatClampNeg i2) r10 (((7 : Int32) * (cm_I w a0 39)) + (2 : Int32)).toNatClampNeg i3) r14 (((7 : Int32) * (cm_I w a0 39)) + (3 : Int32)).toNatClampNeg i4) r18 (((7 : Int32) * (cm_I w a0 39)) + (4 : Int32)).toNatClampNeg i5) a0 8)) r26 (((7 : Int32) * (cm_I w a0 39)) + (6 : Int32)).toNatClampNeg (0 : Int32)) r45 i1.toNatClampNeg) + (1 : Int32))) a0 39) + (1 : Int32)), .ref a0] rfl ?_
    refine sm_gd fun h49 => ?_
    refine sm_pI rfl h1 rfl h49 rfl ?_
    show sm _ _ _ _ 124 [(0, .ref a0), (1, .int i1)] [] _ _
    exact sm_rV rfl rfl
theorem ca_238 (a0 : Nat) (i1 : Int32) (i2 : Int32) (i3 : Int32) (i4 : Int32) (i5 : Int32) (w : cm_W) : cm_ca cm_g 238 [.ref a0, .int i1, .int i2, .int i3, .int i4, .int i5] w ((fn_238 a0 i1 i2 i3 i4 i5 w).map cm_gV) := cm_ca_of (cm_me_of rfl rfl) rfl (jt_238_0 a0 i1 i2 i3 i4 i5 w)
-- NailedBoxesModel.sell(III)Z
def fn_239_64 (a0 : Nat) (w : cm_W) : Option (Bool × cm_W) := (if cm_sh w a0 = some (.inl 11) then (fn_198 a0 (0 : Int32) w).bind fun v2 => some (v2.1, v2.2) else none)
theorem jt_239_64 (a0 : Nat) (w : cm_W) : sm cm_g 239 ck_239 kq_239 64 [(0, .ref a0)] [] w ((fn_239_64 a0 w).map cm_gB) := by
  unfold fn_239_64
  refine sm_seg 2 66 [(0, .ref a0)] [.int (0 : Int32), .ref a0] rfl ?_
  refine sm_gd fun h1 => ?_
  refine sm_cV (as := [.int (0 : Int32)]) (rest := []) rfl rfl rfl rfl h1 (Nat.le_of_ble_eq_true rfl) (ca_198  a0 (0 : Int32) w) fun v2 h3 => ?_
  show sm _ _ _ _ 69 [(0, .ref a0)] [.int (cm_b v2.1)] _ _
  exact sm_rBW (b := v2.1) rfl rfl
def fn_239_86 (a0 : Nat) (i1 : Int32) (i2 : Int32) (i3 : Int32) (w : cm_W) : Option (Bool × cm_W) := (if cm_sh w a0 = some (.inl 11) then (cm_R w a0 42).bind fun r5 => (if cm_ga w .int r5 i1 = true then (fn_238 a0 i1 (0 : Int32) (cm_I w r5 i1.toNatClampNeg) i2 i3 w).bind fun w8 => (if cm_sh w8 a0 = some (.inl 11) then (cm_R w8 a0 27).bind fun r11 => (if cm_ga w8 .int r11 i2 = true then (if cm_w2 96 143 r11 = true then (cm_R (cm_sI w8 r11 i2.toNatClampNeg ((cm_I w8 r11 i2.toNatClampNeg) - i3)) a0 27).bind fun r15 => (if cm_ga w8 .int r15 (cm_I w r5 i1.toNatClampNeg) = true then (if cm_w2 96 143 r15 = true then (cm_R (cm_sI (cm_sI w8 r11 i2.toNatClampNeg ((cm_I w8 r11 i2.toNatClampNeg) - i3)) r15 (cm_I w r5 i1.toNatClampNeg).toNatClampNeg ((cm_I (cm_sI w8 r11 i2.toNatClampNeg ((cm_I w8 r11 i2.toNatClampNeg) - i3)) r15 (cm_I w r5 i1.toNatClampNeg).toNatClampNeg) + i3)) a0 42).bind fun r19 => (if cm_ga w8 .int r19 i1 = true then (if cm_w2 96 143 r19 = true then some (true, (cm_sI (cm_sI (cm_sI w8 r11 i2.toNatClampNeg ((cm_I w8 r11 i2.toNatClampNeg) - i3)) r15 (cm_I w r5 i1.toNatClampNeg).toNatClampNeg ((cm_I (cm_sI w8 r11 i2.toNatClampNeg ((cm_I w8 r11 i2.toNatClampNeg) - i3)) r15 (cm_I w r5 i1.toNatClampNeg).toNatClampNeg) + i3)) r19 i1.toNatClampNeg i2)) else none) else none) else none) else none) else none) else none) else none) else none) else none)
theorem jt_239_86 (a0 : Nat) (i1 : Int32) (i2 : Int32) (i3 : Int32) (w : cm_W) : sm cm_g 239 ck_239 kq_239 86 [(0, .ref a0), (1, .int i1), (2, .int i2), (3, .int i3)] [] w ((fn_239_86 a0 i1 i2 i3 w).map cm_gB) := by
  unfold fn_239_86
  refine sm_seg 1 87 [(0, .ref a0), (1, .int i1), (2, .int i2), (3, .int i3)] [.ref a0] rfl ?_
  refine sm_gd fun h4 => ?_
  refine sm_gR rfl h4 rfl rfl fun r5 h6 => ?_
  show sm _ _ _ _ 90 [(0, .ref a0), (1, .int i1), (2, .int i2), (3, .int i3)] [.ref r5] _ _
  refine sm_seg 1 91 [(0, .ref a0), (1, .int i1), (2, .int i2), (3, .int i3)] [.int i1, .ref r5] rfl ?_
  refine sm_gd fun h7 => ?_
  refine sm_ai rfl h7 rfl ?_
  show sm _ _ _ _ 92 [(0, .ref a0), (1, .int i1), (2, .int i2), (3, .int i3)] [.int (cm_I w r5 i1.toNatClampNeg)] _ _
  refine sm_seg 7 101 [(4, .int (cm_I w r5 i1.toNatClampNeg)), (0, .ref a0), (1, .int i1), (2, .int i2), (3, .int i3)] [.int i3, .int i2, .int (cm_I w r5 i1.toNatClampNeg), .int (0 : Int32), .int i1, .ref a0] rfl ?_
  refine sm_cV (as := [.int i1, .int (0 : Int32), .int (cm_I w r5 i1.toNatClampNeg), .int i2, .int i3]) (rest := []) rfl rfl rfl rfl h4 (Nat.le_of_ble_eq_true rfl) (ca_238  a0 i1 (0 : Int32) (cm_I w r5 i1.toNatClampNeg) i2 i3 w) fun w8 h9 => ?_
  show sm _ _ _ _ 104 [(4, .int (cm_I w r5 i1.toNatClampNeg)), (0, .ref a0), (1, .int i1), (2, .int i2), (3, .int i3)] [] _ _
  refine sm_seg 1 105 [(4, .int (cm_I w r5 i1.toNatClampNeg)), (0, .ref a0), (1, .int i1), (2, .int i2), (3, .int i3)] [.ref a0] rfl ?_
  refine sm_gd fun h10 => ?_
  refine sm_gR rfl h10 rfl rfl fun r11 h12 => ?_
  show sm _ _ _ _ 108 [(4, .int (cm_I w r5 i1.toNatClampNeg)), (0, .ref a0), (1, .int i1), (2, .int i2), (3, .int i3)] [.ref r11] _ _
  refine sm_seg 2 110 [(4, .int (cm_I w r5 i1.toNatClampNeg)), (0, .ref a0), (1, .int i1), (2, .int i2), (3, .int i3)] [.int i2, .ref r11, .int i2, .ref r11] rfl ?_
  refine sm_gd fun h13 => ?_
  refine sm_ai rfl h13 rfl ?_
  show sm _ _ _ _ 111 [(4, .int (cm_I w r5 i1.toNatClampNeg)), (0, .ref a0), (1, .int i1), (2, .int i2), (3, .int i3)] [.int (cm_I w8 r11 i2.toNatClampNeg), .int i2, .ref r11] _ _
  refine sm_seg 2 113 [(4, .int (cm_I w r5 i1.toNatClampNeg)), (0, .ref a0), (1, .int i1), (2, .int i2), (3, .int i3)] [.int ((cm_I w8 r11 i2.toNatClampNeg) - i3), .int i2, .ref r11] rfl ?_
  refine sm_gd fun h14 => ?_
  refine sm_si rfl h13 h14 rfl rfl ?_
  show sm _ _ _ _ 114 [(4, .int (cm_I w r5 i1.toNatClampNeg)), (0, .ref a0), (1, .int i1), (2, .int i2), (3, .int i3)] [] _ _
  refine sm_seg 1 115 [(4, .int (cm_I w r5 i1.toNatClampNeg)), (0, .ref a0), (1, .int i1), (2, .int i2), (3, .int i3)] [.ref a0] rfl ?_
  refine sm_gR rfl h10 rfl rfl fun r15 h16 => ?_
  show sm _ _ _ _ 118 [(4, .int (cm_I w r5 i1.toNatClampNeg)), (0, .ref a0), (1, .int i1), (2, .int i2), (3, .int i3)] [.ref r15] _ _
  refine sm_seg 2 121 [(4, .int (cm_I w r5 i1.toNatClampNeg)), (0, .ref a0), (1, .int i1), (2, .int i2), (3, .int i3)] [.int (cm_I w r5 i1.toNatClampNeg), .ref r15, .int (cm_I w r5 i1.toNatClampNeg), .ref r15] rfl ?_
  refine sm_gd fun h17 => ?_
  refine sm_ai rfl h17 rfl ?_
  show sm _ _ _ _ 122 [(4, .int (cm_I w r5 i1.toNatClampNeg)), (0, .ref a0), (1, .int i1), (2, .int i2), (3, .int i3)] [.int (cm_I (cm_sI w8 r11 i2.toNatClampNeg ((cm_I w8 r11 i2.toNatClampNeg) - i3)) r15 (cm_I w r5 i1.toNatClampNeg).toNatClampNeg), .int (cm_I w r5 i1.toNatClampNeg), .ref r15] _ _
  refine sm_seg 2 124 [(4, .int (cm_I w r5 i1.toNatClampNeg)), (0, .ref a0), (1, .int i1), (2, .int i2), (3, .int i3)] [.int ((cm_I (cm_sI w8 r11 i2.toNatClampNeg ((cm_I w8 r11 i2.toNatClampNeg) - i3)) r15 (cm_I w r5 i1.toNatClampNeg).toNatClampNeg) + i3), .int (cm_I w r5 i1.toNatClampNeg), .ref r15] rfl ?_
  refine sm_gd fun h18 => ?_
  refine sm_si rfl h17 h18 rfl rfl ?_
  show sm _ _ _ _ 125 [(4, .int (cm_I w r5 i1.toNatClampNeg)), (0, .ref a0), (1, .int i1), (2, .int i2), (3, .int i3)] [] _ _
  refine sm_seg 1 126 [(4, .int (cm_I w r5 i1.toNatClampNeg)), (0, .ref a0), (1, .int i1), (2, .int i2), (3, .int i3)] [.ref a0] rfl ?_
  refine sm_gR rfl h10 rfl rfl fun r19 h20 => ?_
  show sm _ _ _ _ 129 [(4, .int (cm_I w r5 i1.toNatClampNeg)), (0, .ref a0), (1, .int i1), (2, .int i2), (3, .int i3)] [.ref r19] _ _
  refine sm_seg 2 131 [(4, .int (cm_I w r5 i1.toNatClampNeg)), (0, .ref a0), (1, .int i1), (2, .int i2), (3, .int i3)] [.int i2, .int i1, .ref r19] rfl ?_
  refine sm_gd fun h21 => ?_
  refine sm_gd fun h22 => ?_
  refine sm_si rfl h21 h22 rfl rfl ?_
  show sm _ _ _ _ 132 [(4, .int (cm_I w r5 i1.toNatClampNeg)), (0, .ref a0), (1, .int i1), (2, .int i2), (3, .int i3)] [] _ _
  refine sm_seg 1 133 [(4, .int (cm_I w r5 i1.toNatClampNeg)), (0, .ref a0), (1, .int i1), (2, .int i2), (3, .int i3)] [.int (1 : Int32)] rfl ?_
  exact sm_rBW (b := true) rfl rfl
def fn_239_70 (a0 : Nat) (i1 : Int32) (i2 : Int32) (i3 : Int32) (w : cm_W) : Option (Bool × cm_W) := (if cm_sh w a0 = some (.inl 11) then (if ¬ (cm_I w a0 39) = (300 : Int32) then fn_239_86  a0 i1 i2 i3 w else (fn_198 a0 (1 : Int32) w).bind fun v25 => some (v25.1, v25.2)) else none)
theorem jt_239_70 (a0 : Nat) (i1 : Int32) (i2 : Int32) (i3 : Int32) (w : cm_W) : sm cm_g 239 ck_239 kq_239 70 [(0, .ref a0), (1, .int i1), (2, .int i2), (3, .int i3)] [] w ((fn_239_70 a0 i1 i2 i3 w).map cm_gB) := by
  unfold fn_239_70
  refine sm_seg 1 71 [(0, .ref a0), (1, .int i1), (2, .int i2), (3, .int i3)] [.ref a0] rfl ?_
  refine sm_gd fun h23 => ?_
  refine sm_gI rfl h23 rfl ?_
  show sm _ _ _ _ 74 [(0, .ref a0), (1, .int i1), (2, .int i2), (3, .int i3)] [.int (cm_I w a0 39)] _ _
  refine sm_seg 1 77 [(0, .ref a0), (1, .int i1), (2, .int i2), (3, .int i3)] [.int (300 : Int32), .int (cm_I w a0 39)] rfl ?_
  refine sm_if (pc1 := 86) (lv1 := [(0, .ref a0), (1, .int i1), (2, .int i2), (3, .int i3)]) (pc2 := 80) (lv2 := [(0, .ref a0), (1, .int i1), (2, .int i2), (3, .int i3)]) (st1 := []) rfl rfl rfl (fun h24 => ?_) (fun h24 => ?_)
  · exact jt_239_86  a0 i1 i2 i3 w
  · refine sm_seg 2 82 [(0, .ref a0), (1, .int i1), (2, .int i2), (3, .int i3)] [.int (1 : Int32), .ref a0] rfl ?_
    refine sm_cV (as := [.int (1 : Int32)]) (rest := []) rfl rfl rfl rfl h23 (Nat.le_of_ble_eq_true rfl) (ca_198  a0 (1 : Int32) w) fun v25 h26 => ?_
    show sm _ _ _ _ 85 [(0, .ref a0), (1, .int i1), (2, .int i2), (3, .int i3)] [.int (cm_b v25.1)] _ _
    exact sm_rBW (b := v25.1) rfl rfl
def fn_239 (a0 : Nat) (i1 : Int32) (i2 : Int32) (i3 : Int32) (w : cm_W) : Option (Bool × cm_W) := (if cm_sh w a0 = some (.inl 11) then (fn_233 w a0 i1).bind fun v28 => (if (cm_b v28) = 0 then fn_239_64  a0 w else (fn_225 w a0 i2).bind fun v31 => (if (cm_b v31) = 0 then fn_239_64  a0 w else (fn_194 w i3 (0 : Int32) (9999 : Int32)).bind fun v34 => (if (cm_b v34) = 0 then fn_239_64  a0 w else (fn_234 w a0).bind fun v37 => (if (cm_b v37) = 0 then fn_239_64  a0 w else (cm_R w a0 43).bind fun r40 => (if cm_ga w .int r40 i1 = true then (if ¬ (cm_I w r40 i1.toNatClampNeg) = (-1 : Int32) then fn_239_64  a0 w else (cm_R w a0 42).bind fun r44 => (if cm_ga w .int r44 i1 = true then (if (cm_I w r44 i1.toNatClampNeg) = i2 then fn_239_64  a0 w else (cm_R w a0 27).bind fun r48 => (if cm_ga w .int r48 i2 = true then (if i3 ≤ (cm_I w r48 i2.toNatClampNeg) then fn_239_70  a0 i1 i2 i3 w else fn_239_64  a0 w) else none)) else none)) else none))))) else none)
theorem jt_239_0 (a0 : Nat) (i1 : Int32) (i2 : Int32) (i3 : Int32) (w : cm_W) : sm cm_g 239 ck_239 kq_239 0 [(0, .ref a0), (1, .int i1), (2, .int i2), (3, .int i3)] [] w ((fn_239 a0 i1 i2 i3 w).map cm_gB) := by
  unfold fn_239
  refine sm_seg 2 2 [(0, .ref a0), (1, .int i1), (2, .int i2), (3, .int i3)] [.int i1, .ref a0] rfl ?_
  refine sm_gd fun h27 => ?_
  refine sm_cV (as := [.int i1]) (rest := []) rfl rfl rfl rfl h27 (Nat.le_of_ble_eq_true rfl) (ca_233 w a0 i1) fun v28 h29 => ?_
  show sm _ _ _ _ 5 [(0, .ref a0), (1, .int i1), (2, .int i2), (3, .int i3)] [.int (cm_b v28)] _ _
  refine sm_if (pc1 := 64) (lv1 := [(0, .ref a0)]) (pc2 := 8) (lv2 := [(0, .ref a0), (1, .int i1), (2, .int i2), (3, .int i3)]) (st1 := []) rfl rfl rfl (fun h30 => ?_) (fun h30 => ?_)
  · exact jt_239_64  a0 w
  · refine sm_seg 2 10 [(0, .ref a0), (1, .int i1), (2, .int i2), (3, .int i3)] [.int i2, .ref a0] rfl ?_
    refine sm_cV (as := [.int i2]) (rest := []) rfl rfl rfl rfl h27 (Nat.le_of_ble_eq_true rfl) (ca_225 w a0 i2) fun v31 h32 => ?_
    show sm _ _ _ _ 13 [(0, .ref a0), (1, .int i1), (2, .int i2), (3, .int i3)] [.int (cm_b v31)] _ _
    refine sm_if (pc1 := 64) (lv1 := [(0, .ref a0)]) (pc2 := 16) (lv2 := [(0, .ref a0), (1, .int i1), (2, .int i2), (3, .int i3)]) (st1 := []) rfl rfl rfl (fun h33 => ?_) (fun h33 => ?_)
    · exact jt_239_64  a0 w
    · refine sm_seg 3 21 [(0, .ref a0), (1, .int i1), (2, .int i2), (3, .int i3)] [.int (9999 : Int32), .int (0 : Int32), .int i3] rfl ?_
      refine sm_cS (av := [.int i3, .int (0 : Int32), .int (9999 : Int32)]) (rest := []) rfl rfl rfl rfl (Nat.le_of_ble_eq_true rfl) (ca_194 w i3 (0 : Int32) (9999 : Int32)) fun v34 h35 => ?_
      show sm _ _ _ _ 24 [(0, .ref a0), (1, .int i1), (2, .int i2), (3, .int i3)] [.int (cm_b v34)] _ _
      refine sm_if (pc1 := 64) (lv1 := [(0, .ref a0)]) (pc2 := 27) (lv2 := [(0, .ref a0), (1, .int i1), (2, .int i2), (3, .int i3)]) (st1 := []) rfl rfl rfl (fun h36 => ?_) (fun h36 => ?_)
      · exact jt_239_64  a0 w
      · refine sm_seg 1 28 [(0, .ref a0), (1, .int i1), (2, .int i2), (3, .int i3)] [.ref a0] rfl ?_
        refine sm_cV (as := []) (rest := []) rfl rfl rfl rfl h27 (Nat.le_of_ble_eq_true rfl) (ca_234 w a0) fun v37 h38 => ?_
        show sm _ _ _ _ 31 [(0, .ref a0), (1, .int i1), (2, .int i2), (3, .int i3)] [.int (cm_b v37)] _ _
        refine sm_if (pc1 := 64) (lv1 := [(0, .ref a0)]) (pc2 := 34) (lv2 := [(0, .ref a0), (1, .int i1), (2, .int i2), (3, .int i3)]) (st1 := []) rfl rfl rfl (fun h39 => ?_) (fun h39 => ?_)
        · exact jt_239_64  a0 w
        · refine sm_seg 1 35 [(0, .ref a0), (1, .int i1), (2, .int i2), (3, .int i3)] [.ref a0] rfl ?_
          refine sm_gR rfl h27 rfl rfl fun r40 h41 => ?_
          show sm _ _ _ _ 38 [(0, .ref a0), (1, .int i1), (2, .int i2), (3, .int i3)] [.ref r40] _ _
          refine sm_seg 1 39 [(0, .ref a0), (1, .int i1), (2, .int i2), (3, .int i3)] [.int i1, .ref r40] rfl ?_
          refine sm_gd fun h42 => ?_
          refine sm_ai rfl h42 rfl ?_
          show sm _ _ _ _ 40 [(0, .ref a0), (1, .int i1), (2, .int i2), (3, .int i3)] [.int (cm_I w r40 i1.toNatClampNeg)] _ _
          refine sm_seg 1 41 [(0, .ref a0), (1, .int i1), (2, .int i2), (3, .int i3)] [.int (-1 : Int32), .int (cm_I w r40 i1.toNatClampNeg)] rfl ?_
          refine sm_if (pc1 := 64) (lv1 := [(0, .ref a0)]) (pc2 := 44) (lv2 := [(0, .ref a0), (1, .int i1), (2, .int i2), (3, .int i3)]) (st1 := []) rfl rfl rfl (fun h43 => ?_) (fun h43 => ?_)
          · exact jt_239_64  a0 w
          · refine sm_seg 1 45 [(0, .ref a0), (1, .int i1), (2, .int i2), (3, .int i3)] [.ref a0] rfl ?_
            refine sm_gR rfl h27 rfl rfl fun r44 h45 => ?_
            show sm _ _ _ _ 48 [(0, .ref a0), (1, .int i1), (2, .int i2), (3, .int i3)] [.ref r44] _ _
            refine sm_seg 1 49 [(0, .ref a0), (1, .int i1), (2, .int i2), (3, .int i3)] [.int i1, .ref r44] rfl ?_
            refine sm_gd fun h46 => ?_
            refine sm_ai rfl h46 rfl ?_
            show sm _ _ _ _ 50 [(0, .ref a0), (1, .int i1), (2, .int i2), (3, .int i3)] [.int (cm_I w r44 i1.toNatClampNeg)] _ _
            refine sm_seg 1 51 [(0, .ref a0), (1, .int i1), (2, .int i2), (3, .int i3)] [.int i2, .int (cm_I w r44 i1.toNatClampNeg)] rfl ?_
            refine sm_if (pc1 := 64) (lv1 := [(0, .ref a0)]) (pc2 := 54) (lv2 := [(0, .ref a0), (1, .int i1), (2, .int i2), (3, .int i3)]) (st1 := []) rfl rfl rfl (fun h47 => ?_) (fun h47 => ?_)
            · exact jt_239_64  a0 w
            · refine sm_seg 1 55 [(0, .ref a0), (1, .int i1), (2, .int i2), (3, .int i3)] [.ref a0] rfl ?_
              refine sm_gR rfl h27 rfl rfl fun r48 h49 => ?_
              show sm _ _ _ _ 58 [(0, .ref a0), (1, .int i1), (2, .int i2), (3, .int i3)] [.ref r48] _ _
              refine sm_seg 1 59 [(0, .ref a0), (1, .int i1), (2, .int i2), (3, .int i3)] [.int i2, .ref r48] rfl ?_
              refine sm_gd fun h50 => ?_
              refine sm_ai rfl h50 rfl ?_
              show sm _ _ _ _ 60 [(0, .ref a0), (1, .int i1), (2, .int i2), (3, .int i3)] [.int (cm_I w r48 i2.toNatClampNeg)] _ _
              refine sm_seg 1 61 [(0, .ref a0), (1, .int i1), (2, .int i2), (3, .int i3)] [.int i3, .int (cm_I w r48 i2.toNatClampNeg)] rfl ?_
              refine sm_if (pc1 := 70) (lv1 := [(0, .ref a0), (1, .int i1), (2, .int i2), (3, .int i3)]) (pc2 := 64) (lv2 := [(0, .ref a0)]) (st1 := []) rfl rfl rfl (fun h51 => ?_) (fun h51 => ?_)
              · exact jt_239_70  a0 i1 i2 i3 w
              · exact jt_239_64  a0 w
theorem ca_239 (a0 : Nat) (i1 : Int32) (i2 : Int32) (i3 : Int32) (w : cm_W) : cm_ca cm_g 239 [.ref a0, .int i1, .int i2, .int i3] w ((fn_239 a0 i1 i2 i3 w).map cm_gB) := cm_ca_of (cm_me_of rfl rfl) rfl (jt_239_0 a0 i1 i2 i3 w)
-- NailedBoxesModel.say(II)Z
def fn_240_23 (a0 : Nat) (w : cm_W) : Option (Bool × cm_W) := (if cm_sh w a0 = some (.inl 11) then (fn_198 a0 (0 : Int32) w).bind fun v2 => some (v2.1, v2.2) else none)
theorem jt_240_23 (a0 : Nat) (w : cm_W) : sm cm_g 240 ck_240 kq_240 23 [(0, .ref a0)] [] w ((fn_240_23 a0 w).map cm_gB) := by
  unfold fn_240_23
  refine sm_seg 2 25 [(0, .ref a0)] [.int (0 : Int32), .ref a0] rfl ?_
  refine sm_gd fun h1 => ?_
  refine sm_cV (as := [.int (0 : Int32)]) (rest := []) rfl rfl rfl rfl h1 (Nat.le_of_ble_eq_true rfl) (ca_198  a0 (0 : Int32) w) fun v2 h3 => ?_
  show sm _ _ _ _ 28 [(0, .ref a0)] [.int (cm_b v2.1)] _ _
  exact sm_rBW (b := v2.1) rfl rfl
def fn_240_45 (a0 : Nat) (i1 : Int32) (i2 : Int32) (w : cm_W) : Option (Bool × cm_W) := (if cm_sh w a0 = some (.inl 11) then (fn_231 w a0 i1).bind fun v5 => (fn_238 a0 i1 (1 : Int32) v5 (-1 : Int32) i2 w).bind fun w7 => some (true, w7) else none)
theorem jt_240_45 (a0 : Nat) (i1 : Int32) (i2 : Int32) (w : cm_W) : sm cm_g 240 ck_240 kq_240 45 [(0, .ref a0), (1, .int i1), (2, .int i2)] [] w ((fn_240_45 a0 i1 i2 w).map cm_gB) := by
  unfold fn_240_45
  refine sm_seg 5 50 [(0, .ref a0), (1, .int i1), (2, .int i2)] [.int i1, .ref a0, .int (1 : Int32), .int i1, .ref a0] rfl ?_
  refine sm_gd fun h4 => ?_
  refine sm_cV (as := [.int i1]) (rest := [.int (1 : Int32), .int i1, .ref a0]) rfl rfl rfl rfl h4 (Nat.le_of_ble_eq_true rfl) (ca_231 w a0 i1) fun v5 h6 => ?_
  show sm _ _ _ _ 53 [(0, .ref a0), (1, .int i1), (2, .int i2)] [.int v5, .int (1 : Int32), .int i1, .ref a0] _ _
  refine sm_seg 2 55 [(0, .ref a0), (1, .int i1), (2, .int i2)] [.int i2, .int (-1 : Int32), .int v5, .int (1 : Int32), .int i1, .ref a0] rfl ?_
  refine sm_cV (as := [.int i1, .int (1 : Int32), .int v5, .int (-1 : Int32), .int i2]) (rest := []) rfl rfl rfl rfl h4 (Nat.le_of_ble_eq_true rfl) (ca_238  a0 i1 (1 : Int32) v5 (-1 : Int32) i2 w) fun w7 h8 => ?_
  show sm _ _ _ _ 58 [(0, .ref a0), (1, .int i1), (2, .int i2)] [] _ _
  refine sm_seg 1 59 [(0, .ref a0), (1, .int i1), (2, .int i2)] [.int (1 : Int32)] rfl ?_
  exact sm_rBW (b := true) rfl rfl
def fn_240_29 (a0 : Nat) (i1 : Int32) (i2 : Int32) (w : cm_W) : Option (Bool × cm_W) := (if cm_sh w a0 = some (.inl 11) then (if ¬ (cm_I w a0 39) = (300 : Int32) then fn_240_45  a0 i1 i2 w else (fn_198 a0 (1 : Int32) w).bind fun v11 => some (v11.1, v11.2)) else none)
theorem jt_240_29 (a0 : Nat) (i1 : Int32) (i2 : Int32) (w : cm_W) : sm cm_g 240 ck_240 kq_240 29 [(0, .ref a0), (1, .int i1), (2, .int i2)] [] w ((fn_240_29 a0 i1 i2 w).map cm_gB) := by
  unfold fn_240_29
  refine sm_seg 1 30 [(0, .ref a0), (1, .int i1), (2, .int i2)] [.ref a0] rfl ?_
  refine sm_gd fun h9 => ?_
  refine sm_gI rfl h9 rfl ?_
  show sm _ _ _ _ 33 [(0, .ref a0), (1, .int i1), (2, .int i2)] [.int (cm_I w a0 39)] _ _
  refine sm_seg 1 36 [(0, .ref a0), (1, .int i1), (2, .int i2)] [.int (300 : Int32), .int (cm_I w a0 39)] rfl ?_
  refine sm_if (pc1 := 45) (lv1 := [(0, .ref a0), (1, .int i1), (2, .int i2)]) (pc2 := 39) (lv2 := [(0, .ref a0), (1, .int i1), (2, .int i2)]) (st1 := []) rfl rfl rfl (fun h10 => ?_) (fun h10 => ?_)
  · exact jt_240_45  a0 i1 i2 w
  · refine sm_seg 2 41 [(0, .ref a0), (1, .int i1), (2, .int i2)] [.int (1 : Int32), .ref a0] rfl ?_
    refine sm_cV (as := [.int (1 : Int32)]) (rest := []) rfl rfl rfl rfl h9 (Nat.le_of_ble_eq_true rfl) (ca_198  a0 (1 : Int32) w) fun v11 h12 => ?_
    show sm _ _ _ _ 44 [(0, .ref a0), (1, .int i1), (2, .int i2)] [.int (cm_b v11.1)] _ _
    exact sm_rBW (b := v11.1) rfl rfl
def fn_240 (a0 : Nat) (i1 : Int32) (i2 : Int32) (w : cm_W) : Option (Bool × cm_W) := (if cm_sh w a0 = some (.inl 11) then (fn_233 w a0 i1).bind fun v14 => (if (cm_b v14) = 0 then fn_240_23  a0 w else (fn_224 w a0 i2).bind fun v17 => (if (cm_b v17) = 0 then fn_240_23  a0 w else (fn_234 w a0).bind fun v20 => (if ¬ (cm_b v20) = 0 then fn_240_29  a0 i1 i2 w else fn_240_23  a0 w))) else none)
theorem jt_240_0 (a0 : Nat) (i1 : Int32) (i2 : Int32) (w : cm_W) : sm cm_g 240 ck_240 kq_240 0 [(0, .ref a0), (1, .int i1), (2, .int i2)] [] w ((fn_240 a0 i1 i2 w).map cm_gB) := by
  unfold fn_240
  refine sm_seg 2 2 [(0, .ref a0), (1, .int i1), (2, .int i2)] [.int i1, .ref a0] rfl ?_
  refine sm_gd fun h13 => ?_
  refine sm_cV (as := [.int i1]) (rest := []) rfl rfl rfl rfl h13 (Nat.le_of_ble_eq_true rfl) (ca_233 w a0 i1) fun v14 h15 => ?_
  show sm _ _ _ _ 5 [(0, .ref a0), (1, .int i1), (2, .int i2)] [.int (cm_b v14)] _ _
  refine sm_if (pc1 := 23) (lv1 := [(0, .ref a0)]) (pc2 := 8) (lv2 := [(0, .ref a0), (1, .int i1), (2, .int i2)]) (st1 := []) rfl rfl rfl (fun h16 => ?_) (fun h16 => ?_)
  · exact jt_240_23  a0 w
  · refine sm_seg 2 10 [(0, .ref a0), (1, .int i1), (2, .int i2)] [.int i2, .ref a0] rfl ?_
    refine sm_cV (as := [.int i2]) (rest := []) rfl rfl rfl rfl h13 (Nat.le_of_ble_eq_true rfl) (ca_224 w a0 i2) fun v17 h18 => ?_
    show sm _ _ _ _ 13 [(0, .ref a0), (1, .int i1), (2, .int i2)] [.int (cm_b v17)] _ _
    refine sm_if (pc1 := 23) (lv1 := [(0, .ref a0)]) (pc2 := 16) (lv2 := [(0, .ref a0), (1, .int i1), (2, .int i2)]) (st1 := []) rfl rfl rfl (fun h19 => ?_) (fun h19 => ?_)
    · exact jt_240_23  a0 w
    · refine sm_seg 1 17 [(0, .ref a0), (1, .int i1), (2, .int i2)] [.ref a0] rfl ?_
      refine sm_cV (as := []) (rest := []) rfl rfl rfl rfl h13 (Nat.le_of_ble_eq_true rfl) (ca_234 w a0) fun v20 h21 => ?_
      show sm _ _ _ _ 20 [(0, .ref a0), (1, .int i1), (2, .int i2)] [.int (cm_b v20)] _ _
      refine sm_if (pc1 := 29) (lv1 := [(0, .ref a0), (1, .int i1), (2, .int i2)]) (pc2 := 23) (lv2 := [(0, .ref a0)]) (st1 := []) rfl rfl rfl (fun h22 => ?_) (fun h22 => ?_)
      · exact jt_240_29  a0 i1 i2 w
      · exact jt_240_23  a0 w
theorem ca_240 (a0 : Nat) (i1 : Int32) (i2 : Int32) (w : cm_W) : cm_ca cm_g 240 [.ref a0, .int i1, .int i2] w ((fn_240 a0 i1 i2 w).map cm_gB) := cm_ca_of (cm_me_of rfl rfl) rfl (jt_240_0 a0 i1 i2 w)
-- NailedBoxesModel.sign(III)Z
def fn_241_43 (a0 : Nat) (w : cm_W) : Option (Bool × cm_W) := (if cm_sh w a0 = some (.inl 11) then (fn_198 a0 (0 : Int32) w).bind fun v2 => some (v2.1, v2.2) else none)
theorem jt_241_43 (a0 : Nat) (w : cm_W) : sm cm_g 241 ck_241 kq_241 43 [(0, .ref a0)] [] w ((fn_241_43 a0 w).map cm_gB) := by
  unfold fn_241_43
  refine sm_seg 2 45 [(0, .ref a0)] [.int (0 : Int32), .ref a0] rfl ?_
  refine sm_gd fun h1 => ?_
  refine sm_cV (as := [.int (0 : Int32)]) (rest := []) rfl rfl rfl rfl h1 (Nat.le_of_ble_eq_true rfl) (ca_198  a0 (0 : Int32) w) fun v2 h3 => ?_
  show sm _ _ _ _ 48 [(0, .ref a0)] [.int (cm_b v2.1)] _ _
  exact sm_rBW (b := v2.1) rfl rfl
def fn_241_65 (a0 : Nat) (i1 : Int32) (i2 : Int32) (i3 : Int32) (w : cm_W) : Option (Bool × cm_W) := (if cm_sh w a0 = some (.inl 11) then (fn_238 a0 i1 ((2 : Int32) + i2) (-1 : Int32) (-1 : Int32) i3 w).bind fun w5 => some (true, w5) else none)
theorem jt_241_65 (a0 : Nat) (i1 : Int32) (i2 : Int32) (i3 : Int32) (w : cm_W) : sm cm_g 241 ck_241 kq_241 65 [(0, .ref a0), (1, .int i1), (2, .int i2), (3, .int i3)] [] w ((fn_241_65 a0 i1 i2 i3 w).map cm_gB) := by
  unfold fn_241_65
  refine sm_seg 8 73 [(0, .ref a0), (1, .int i1), (2, .int i2), (3, .int i3)] [.int i3, .int (-1 : Int32), .int (-1 : Int32), .int ((2 : Int32) + i2), .int i1, .ref a0] rfl ?_
  refine sm_gd fun h4 => ?_
  refine sm_cV (as := [.int i1, .int ((2 : Int32) + i2), .int (-1 : Int32), .int (-1 : Int32), .int i3]) (rest := []) rfl rfl rfl rfl h4 (Nat.le_of_ble_eq_true rfl) (ca_238  a0 i1 ((2 : Int32) + i2) (-1 : Int32) (-1 : Int32) i3 w) fun w5 h6 => ?_
  show sm _ _ _ _ 76 [(0, .ref a0), (1, .int i1), (2, .int i2), (3, .int i3)] [] _ _
  refine sm_seg 1 77 [(0, .ref a0), (1, .int i1), (2, .int i2), (3, .int i3)] [.int (1 : Int32)] rfl ?_
  exact sm_rBW (b := true) rfl rfl
def fn_241_49 (a0 : Nat) (i1 : Int32) (i2 : Int32) (i3 : Int32) (w : cm_W) : Option (Bool × cm_W) := (if cm_sh w a0 = some (.inl 11) then (if ¬ (cm_I w a0 39) = (300 : Int32) then fn_241_65  a0 i1 i2 i3 w else (fn_198 a0 (1 : Int32) w).bind fun v9 => some (v9.1, v9.2)) else none)
theorem jt_241_49 (a0 : Nat) (i1 : Int32) (i2 : Int32) (i3 : Int32) (w : cm_W) : sm cm_g 241 ck_241 kq_241 49 [(0, .ref a0), (1, .int i1), (2, .int i2), (3, .int i3)] [] w ((fn_241_49 a0 i1 i2 i3 w).map cm_gB) := by
  unfold fn_241_49
  refine sm_seg 1 50 [(0, .ref a0), (1, .int i1), (2, .int i2), (3, .int i3)] [.ref a0] rfl ?_
  refine sm_gd fun h7 => ?_
  refine sm_gI rfl h7 rfl ?_
  show sm _ _ _ _ 53 [(0, .ref a0), (1, .int i1), (2, .int i2), (3, .int i3)] [.int (cm_I w a0 39)] _ _
  refine sm_seg 1 56 [(0, .ref a0), (1, .int i1), (2, .int i2), (3, .int i3)] [.int (300 : Int32), .int (cm_I w a0 39)] rfl ?_
  refine sm_if (pc1 := 65) (lv1 := [(0, .ref a0), (1, .int i1), (2, .int i2), (3, .int i3)]) (pc2 := 59) (lv2 := [(0, .ref a0), (1, .int i1), (2, .int i2), (3, .int i3)]) (st1 := []) rfl rfl rfl (fun h8 => ?_) (fun h8 => ?_)
  · exact jt_241_65  a0 i1 i2 i3 w
  · refine sm_seg 2 61 [(0, .ref a0), (1, .int i1), (2, .int i2), (3, .int i3)] [.int (1 : Int32), .ref a0] rfl ?_
    refine sm_cV (as := [.int (1 : Int32)]) (rest := []) rfl rfl rfl rfl h7 (Nat.le_of_ble_eq_true rfl) (ca_198  a0 (1 : Int32) w) fun v9 h10 => ?_
    show sm _ _ _ _ 64 [(0, .ref a0), (1, .int i1), (2, .int i2), (3, .int i3)] [.int (cm_b v9.1)] _ _
    exact sm_rBW (b := v9.1) rfl rfl
def fn_241 (a0 : Nat) (i1 : Int32) (i2 : Int32) (i3 : Int32) (w : cm_W) : Option (Bool × cm_W) := (if cm_sh w a0 = some (.inl 11) then (fn_233 w a0 i1).bind fun v12 => (if (cm_b v12) = 0 then fn_241_43  a0 w else (fn_194 w i2 (0 : Int32) (1 : Int32)).bind fun v15 => (if (cm_b v15) = 0 then fn_241_43  a0 w else (if ¬ i2 = 0 then (fn_194 w i3 (0 : Int32) (9 : Int32)).bind fun v19 => (if (cm_b v19) = 0 then fn_241_43  a0 w else (fn_234 w a0).bind fun v22 => (if ¬ (cm_b v22) = 0 then fn_241_49  a0 i1 i2 i3 w else fn_241_43  a0 w)) else (fn_194 w i3 (0 : Int32) (99 : Int32)).bind fun v25 => (if (cm_b v25) = 0 then fn_241_43  a0 w else (fn_234 w a0).bind fun v28 => (if ¬ (cm_b v28) = 0 then fn_241_49  a0 i1 i2 i3 w else fn_241_43  a0 w))))) else none)
theorem jt_241_0 (a0 : Nat) (i1 : Int32) (i2 : Int32) (i3 : Int32) (w : cm_W) : sm cm_g 241 ck_241 kq_241 0 [(0, .ref a0), (1, .int i1), (2, .int i2), (3, .int i3)] [] w ((fn_241 a0 i1 i2 i3 w).map cm_gB) := by
  unfold fn_241
  refine sm_seg 2 2 [(0, .ref a0), (1, .int i1), (2, .int i2), (3, .int i3)] [.int i1, .ref a0] rfl ?_
  refine sm_gd fun h11 => ?_
  refine sm_cV (as := [.int i1]) (rest := []) rfl rfl rfl rfl h11 (Nat.le_of_ble_eq_true rfl) (ca_233 w a0 i1) fun v12 h13 => ?_
  show sm _ _ _ _ 5 [(0, .ref a0), (1, .int i1), (2, .int i2), (3, .int i3)] [.int (cm_b v12)] _ _
  refine sm_if (pc1 := 43) (lv1 := [(0, .ref a0)]) (pc2 := 8) (lv2 := [(0, .ref a0), (1, .int i1), (2, .int i2), (3, .int i3)]) (st1 := []) rfl rfl rfl (fun h14 => ?_) (fun h14 => ?_)
  · exact jt_241_43  a0 w
  · refine sm_seg 3 11 [(0, .ref a0), (1, .int i1), (2, .int i2), (3, .int i3)] [.int (1 : Int32), .int (0 : Int32), .int i2] rfl ?_
    refine sm_cS (av := [.int i2, .int (0 : Int32), .int (1 : Int32)]) (rest := []) rfl rfl rfl rfl (Nat.le_of_ble_eq_true rfl) (ca_194 w i2 (0 : Int32) (1 : Int32)) fun v15 h16 => ?_
    show sm _ _ _ _ 14 [(0, .ref a0), (1, .int i1), (2, .int i2), (3, .int i3)] [.int (cm_b v15)] _ _
    refine sm_if (pc1 := 43) (lv1 := [(0, .ref a0)]) (pc2 := 17) (lv2 := [(0, .ref a0), (1, .int i1), (2, .int i2), (3, .int i3)]) (st1 := []) rfl rfl rfl (fun h17 => ?_) (fun h17 => ?_)
    · exact jt_241_43  a0 w
    · refine sm_seg 3 20 [(0, .ref a0), (1, .int i1), (2, .int i2), (3, .int i3)] [.int i2, .int (0 : Int32), .int i3] rfl ?_
      refine sm_if (pc1 := 28) (lv1 := [(0, .ref a0), (1, .int i1), (2, .int i2), (3, .int i3)]) (pc2 := 23) (lv2 := [(0, .ref a0), (1, .int i1), (2, .int i2), (3, .int i3)]) (st1 := [.int (0 : Int32), .int i3]) rfl rfl rfl (fun h18 => ?_) (fun h18 => ?_)
      · refine sm_seg 1 30 [(0, .ref a0), (1, .int i1), (2, .int i2), (3, .int i3)] [.int (9 : Int32), .int (0 : Int32), .int i3] rfl ?_
        refine sm_cS (av := [.int i3, .int (0 : Int32), .int (9 : Int32)]) (rest := []) rfl rfl rfl rfl (Nat.le_of_ble_eq_true rfl) (ca_194 w i3 (0 : Int32) (9 : Int32)) fun v19 h20 => ?_
        show sm _ _ _ _ 33 [(0, .ref a0), (1, .int i1), (2, .int i2), (3, .int i3)] [.int (cm_b v19)] _ _
        refine sm_if (pc1 := 43) (lv1 := [(0, .ref a0)]) (pc2 := 36) (lv2 := [(0, .ref a0), (1, .int i1), (2, .int i2), (3, .int i3)]) (st1 := []) rfl rfl rfl (fun h21 => ?_) (fun h21 => ?_)
        · exact jt_241_43  a0 w
        · refine sm_seg 1 37 [(0, .ref a0), (1, .int i1), (2, .int i2), (3, .int i3)] [.ref a0] rfl ?_
          refine sm_cV (as := []) (rest := []) rfl rfl rfl rfl h11 (Nat.le_of_ble_eq_true rfl) (ca_234 w a0) fun v22 h23 => ?_
          show sm _ _ _ _ 40 [(0, .ref a0), (1, .int i1), (2, .int i2), (3, .int i3)] [.int (cm_b v22)] _ _
          refine sm_if (pc1 := 49) (lv1 := [(0, .ref a0), (1, .int i1), (2, .int i2), (3, .int i3)]) (pc2 := 43) (lv2 := [(0, .ref a0)]) (st1 := []) rfl rfl rfl (fun h24 => ?_) (fun h24 => ?_)
          · exact jt_241_49  a0 i1 i2 i3 w
          · exact jt_241_43  a0 w
      · refine sm_seg 2 30 [(0, .ref a0), (1, .int i1), (2, .int i2), (3, .int i3)] [.int (99 : Int32), .int (0 : Int32), .int i3] rfl ?_
        refine sm_cS (av := [.int i3, .int (0 : Int32), .int (99 : Int32)]) (rest := []) rfl rfl rfl rfl (Nat.le_of_ble_eq_true rfl) (ca_194 w i3 (0 : Int32) (99 : Int32)) fun v25 h26 => ?_
        show sm _ _ _ _ 33 [(0, .ref a0), (1, .int i1), (2, .int i2), (3, .int i3)] [.int (cm_b v25)] _ _
        refine sm_if (pc1 := 43) (lv1 := [(0, .ref a0)]) (pc2 := 36) (lv2 := [(0, .ref a0), (1, .int i1), (2, .int i2), (3, .int i3)]) (st1 := []) rfl rfl rfl (fun h27 => ?_) (fun h27 => ?_)
        · exact jt_241_43  a0 w
        · refine sm_seg 1 37 [(0, .ref a0), (1, .int i1), (2, .int i2), (3, .int i3)] [.ref a0] rfl ?_
          refine sm_cV (as := []) (rest := []) rfl rfl rfl rfl h11 (Nat.le_of_ble_eq_true rfl) (ca_234 w a0) fun v28 h29 => ?_
          show sm _ _ _ _ 40 [(0, .ref a0), (1, .int i1), (2, .int i2), (3, .int i3)] [.int (cm_b v28)] _ _
          refine sm_if (pc1 := 49) (lv1 := [(0, .ref a0), (1, .int i1), (2, .int i2), (3, .int i3)]) (pc2 := 43) (lv2 := [(0, .ref a0)]) (st1 := []) rfl rfl rfl (fun h30 => ?_) (fun h30 => ?_)
          · exact jt_241_49  a0 i1 i2 i3 w
          · exact jt_241_43  a0 w
theorem ca_241 (a0 : Nat) (i1 : Int32) (i2 : Int32) (i3 : Int32) (w : cm_W) : cm_ca cm_g 241 [.ref a0, .int i1, .int i2, .int i3] w ((fn_241 a0 i1 i2 i3 w).map cm_gB) := cm_ca_of (cm_me_of rfl rfl) rfl (jt_241_0 a0 i1 i2 i3 w)
-- NailedBoxesModel.open(I)I
def fn_242_15 (a0 : Nat) (w : cm_W) : Option (Int32 × cm_W) := (if cm_sh w a0 = some (.inl 11) then (fn_199 a0 (0 : Int32) (-1 : Int32) w).bind fun v2 => some (v2.1, v2.2) else none)
theorem jt_242_15 (a0 : Nat) (w : cm_W) : sm cm_g 242 ck_242 kq_242 15 [(0, .ref a0)] [] w ((fn_242_15 a0 w).map cm_gI) := by
  unfold fn_242_15
  refine sm_seg 3 18 [(0, .ref a0)] [.int (-1 : Int32), .int (0 : Int32), .ref a0] rfl ?_
  refine sm_gd fun h1 => ?_
  refine sm_cV (as := [.int (0 : Int32), .int (-1 : Int32)]) (rest := []) rfl rfl rfl rfl h1 (Nat.le_of_ble_eq_true rfl) (ca_199  a0 (0 : Int32) (-1 : Int32) w) fun v2 h3 => ?_
  show sm _ _ _ _ 21 [(0, .ref a0)] [.int v2.1] _ _
  exact sm_rIW rfl rfl
def fn_242_22 (a0 : Nat) (i1 : Int32) (w : cm_W) : Option (Int32 × cm_W) := (if cm_sh w a0 = some (.inl 11) then (cm_R w a0 44).bind fun r5 => (if cm_ga w .int r5 i1 = true then (fn_231 w a0 i1).bind fun v8 => (if cm_w2 96 143 r5 = true then (cm_R (cm_sI w r5 i1.toNatClampNeg ((cm_I w r5 i1.toNatClampNeg) ||| ((1 : Int32) <<< (v8 &&& 31)))) a0 41).bind fun r11 => (if cm_ga w .int r11 i1 = true then some ((cm_I (cm_sI w r5 i1.toNatClampNeg ((cm_I w r5 i1.toNatClampNeg) ||| ((1 : Int32) <<< (v8 &&& 31)))) r11 i1.toNatClampNeg), (cm_sI w r5 i1.toNatClampNeg ((cm_I w r5 i1.toNatClampNeg) ||| ((1 : Int32) <<< (v8 &&& 31))))) else none) else none) else none) else none)
theorem jt_242_22 (a0 : Nat) (i1 : Int32) (w : cm_W) : sm cm_g 242 ck_242 kq_242 22 [(0, .ref a0), (1, .int i1)] [] w ((fn_242_22 a0 i1 w).map cm_gI) := by
  unfold fn_242_22
  refine sm_seg 1 23 [(0, .ref a0), (1, .int i1)] [.ref a0] rfl ?_
  refine sm_gd fun h4 => ?_
  refine sm_gR rfl h4 rfl rfl fun r5 h6 => ?_
  show sm _ _ _ _ 26 [(0, .ref a0), (1, .int i1)] [.ref r5] _ _
  refine sm_seg 2 28 [(0, .ref a0), (1, .int i1)] [.int i1, .ref r5, .int i1, .ref r5] rfl ?_
  refine sm_gd fun h7 => ?_
  refine sm_ai rfl h7 rfl ?_
  show sm _ _ _ _ 29 [(0, .ref a0), (1, .int i1)] [.int (cm_I w r5 i1.toNatClampNeg), .int i1, .ref r5] _ _
  refine sm_seg 3 32 [(0, .ref a0), (1, .int i1)] [.int i1, .ref a0, .int (1 : Int32), .int (cm_I w r5 i1.toNatClampNeg), .int i1, .ref r5] rfl ?_
  refine sm_cV (as := [.int i1]) (rest := [.int (1 : Int32), .int (cm_I w r5 i1.toNatClampNeg), .int i1, .ref r5]) rfl rfl rfl rfl h4 (Nat.le_of_ble_eq_true rfl) (ca_231 w a0 i1) fun v8 h9 => ?_
  show sm _ _ _ _ 35 [(0, .ref a0), (1, .int i1)] [.int v8, .int (1 : Int32), .int (cm_I w r5 i1.toNatClampNeg), .int i1, .ref r5] _ _
  refine sm_seg 2 37 [(0, .ref a0), (1, .int i1)] [.int ((cm_I w r5 i1.toNatClampNeg) ||| ((1 : Int32) <<< (v8 &&& 31))), .int i1, .ref r5] rfl ?_
  refine sm_gd fun h10 => ?_
  refine sm_si rfl h7 h10 rfl rfl ?_
  show sm _ _ _ _ 38 [(0, .ref a0), (1, .int i1)] [] _ _
  refine sm_seg 1 39 [(0, .ref a0), (1, .int i1)] [.ref a0] rfl ?_
  refine sm_gR rfl h4 rfl rfl fun r11 h12 => ?_
  show sm _ _ _ _ 42 [(0, .ref a0), (1, .int i1)] [.ref r11] _ _
  refine sm_seg 1 43 [(0, .ref a0), (1, .int i1)] [.int i1, .ref r11] rfl ?_
  refine sm_gd fun h13 => ?_
  refine sm_ai rfl h13 rfl ?_
  show sm _ _ _ _ 44 [(0, .ref a0), (1, .int i1)] [.int (cm_I (cm_sI w r5 i1.toNatClampNeg ((cm_I w r5 i1.toNatClampNeg) ||| ((1 : Int32) <<< (v8 &&& 31)))) r11 i1.toNatClampNeg)] _ _
  exact sm_rIW rfl rfl
def fn_242 (a0 : Nat) (i1 : Int32) (w : cm_W) : Option (Int32 × cm_W) := (if cm_sh w a0 = some (.inl 11) then (fn_233 w a0 i1).bind fun v15 => (if (cm_b v15) = 0 then fn_242_15  a0 w else (fn_234 w a0).bind fun v18 => (if ¬ (cm_b v18) = 0 then fn_242_22  a0 i1 w else fn_242_15  a0 w)) else none)
theorem jt_242_0 (a0 : Nat) (i1 : Int32) (w : cm_W) : sm cm_g 242 ck_242 kq_242 0 [(0, .ref a0), (1, .int i1)] [] w ((fn_242 a0 i1 w).map cm_gI) := by
  unfold fn_242
  refine sm_seg 2 2 [(0, .ref a0), (1, .int i1)] [.int i1, .ref a0] rfl ?_
  refine sm_gd fun h14 => ?_
  refine sm_cV (as := [.int i1]) (rest := []) rfl rfl rfl rfl h14 (Nat.le_of_ble_eq_true rfl) (ca_233 w a0 i1) fun v15 h16 => ?_
  show sm _ _ _ _ 5 [(0, .ref a0), (1, .int i1)] [.int (cm_b v15)] _ _
  refine sm_if (pc1 := 15) (lv1 := [(0, .ref a0)]) (pc2 := 8) (lv2 := [(0, .ref a0), (1, .int i1)]) (st1 := []) rfl rfl rfl (fun h17 => ?_) (fun h17 => ?_)
  · exact jt_242_15  a0 w
  · refine sm_seg 1 9 [(0, .ref a0), (1, .int i1)] [.ref a0] rfl ?_
    refine sm_cV (as := []) (rest := []) rfl rfl rfl rfl h14 (Nat.le_of_ble_eq_true rfl) (ca_234 w a0) fun v18 h19 => ?_
    show sm _ _ _ _ 12 [(0, .ref a0), (1, .int i1)] [.int (cm_b v18)] _ _
    refine sm_if (pc1 := 22) (lv1 := [(0, .ref a0), (1, .int i1)]) (pc2 := 15) (lv2 := [(0, .ref a0)]) (st1 := []) rfl rfl rfl (fun h20 => ?_) (fun h20 => ?_)
    · exact jt_242_22  a0 i1 w
    · exact jt_242_15  a0 w
theorem ca_242 (a0 : Nat) (i1 : Int32) (w : cm_W) : cm_ca cm_g 242 [.ref a0, .int i1] w ((fn_242 a0 i1 w).map cm_gI) := cm_ca_of (cm_me_of rfl rfl) rfl (jt_242_0 a0 i1 w)
-- NailedBoxesModel.told(II)I
def fn_243_59 (w : cm_W) (a0 : Nat) (i1 : Int32) : Option Int32 := (if cm_sh w a0 = some (.inl 11) then (fn_231 w a0 i1).bind fun v2 => some v2 else none)
theorem jt_243_59 (w : cm_W) (a0 : Nat) (i1 : Int32) : sm cm_g 243 ck_243 kq_243 59 [(0, .ref a0), (1, .int i1)] [] w ((fn_243_59 w a0 i1).map (cm_fI w)) := by
  unfold fn_243_59
  refine sm_seg 2 61 [(0, .ref a0), (1, .int i1)] [.int i1, .ref a0] rfl ?_
  refine sm_gd fun h1 => ?_
  refine sm_cV (as := [.int i1]) (rest := []) rfl rfl rfl rfl h1 (Nat.le_of_ble_eq_true rfl) (ca_231 w a0 i1) fun v2 h3 => ?_
  show sm _ _ _ _ 64 [(0, .ref a0), (1, .int i1)] [.int v2] _ _
  exact sm_rI rfl rfl
def fn_243_65 (w : cm_W) (a0 : Nat) (i1 : Int32) : Option Int32 := (if cm_sh w a0 = some (.inl 11) then (cm_R w a0 43).bind fun r5 => (if cm_ga w .int r5 i1 = true then some (cm_I w r5 i1.toNatClampNeg) else none) else none)
theorem jt_243_65 (w : cm_W) (a0 : Nat) (i1 : Int32) : sm cm_g 243 ck_243 kq_243 65 [(0, .ref a0), (1, .int i1)] [] w ((fn_243_65 w a0 i1).map (cm_fI w)) := by
  unfold fn_243_65
  refine sm_seg 1 66 [(0, .ref a0), (1, .int i1)] [.ref a0] rfl ?_
  refine sm_gd fun h4 => ?_
  refine sm_gR rfl h4 rfl rfl fun r5 h6 => ?_
  show sm _ _ _ _ 69 [(0, .ref a0), (1, .int i1)] [.ref r5] _ _
  refine sm_seg 1 70 [(0, .ref a0), (1, .int i1)] [.int i1, .ref r5] rfl ?_
  refine sm_gd fun h7 => ?_
  refine sm_ai rfl h7 rfl ?_
  show sm _ _ _ _ 71 [(0, .ref a0), (1, .int i1)] [.int (cm_I w r5 i1.toNatClampNeg)] _ _
  exact sm_rI rfl rfl
def fn_243_72 (w : cm_W) (a0 : Nat) (i1 : Int32) : Option Int32 := (if cm_sh w a0 = some (.inl 11) then (cm_R w a0 46).bind fun r9 => (if cm_ga w .int r9 i1 = true then some (cm_I w r9 i1.toNatClampNeg) else none) else none)
theorem jt_243_72 (w : cm_W) (a0 : Nat) (i1 : Int32) : sm cm_g 243 ck_243 kq_243 72 [(0, .ref a0), (1, .int i1)] [] w ((fn_243_72 w a0 i1).map (cm_fI w)) := by
  unfold fn_243_72
  refine sm_seg 1 73 [(0, .ref a0), (1, .int i1)] [.ref a0] rfl ?_
  refine sm_gd fun h8 => ?_
  refine sm_gR rfl h8 rfl rfl fun r9 h10 => ?_
  show sm _ _ _ _ 76 [(0, .ref a0), (1, .int i1)] [.ref r9] _ _
  refine sm_seg 1 77 [(0, .ref a0), (1, .int i1)] [.int i1, .ref r9] rfl ?_
  refine sm_gd fun h11 => ?_
  refine sm_ai rfl h11 rfl ?_
  show sm _ _ _ _ 78 [(0, .ref a0), (1, .int i1)] [.int (cm_I w r9 i1.toNatClampNeg)] _ _
  exact sm_rI rfl rfl
def fn_243_90 (w : cm_W) (a0 : Nat) (i1 : Int32) : Option Int32 := (if cm_sh w a0 = some (.inl 11) then (cm_R w a0 41).bind fun r13 => (if cm_ga w .int r13 i1 = true then some (cm_I w r13 i1.toNatClampNeg) else none) else none)
theorem jt_243_90 (w : cm_W) (a0 : Nat) (i1 : Int32) : sm cm_g 243 ck_243 kq_243 90 [(0, .ref a0), (1, .int i1)] [] w ((fn_243_90 w a0 i1).map (cm_fI w)) := by
  unfold fn_243_90
  refine sm_seg 1 91 [(0, .ref a0), (1, .int i1)] [.ref a0] rfl ?_
  refine sm_gd fun h12 => ?_
  refine sm_gR rfl h12 rfl rfl fun r13 h14 => ?_
  show sm _ _ _ _ 94 [(0, .ref a0), (1, .int i1)] [.ref r13] _ _
  refine sm_seg 1 95 [(0, .ref a0), (1, .int i1)] [.int i1, .ref r13] rfl ?_
  refine sm_gd fun h15 => ?_
  refine sm_ai rfl h15 rfl ?_
  show sm _ _ _ _ 96 [] [.int (cm_I w r13 i1.toNatClampNeg)] _ _
  exact sm_rI rfl rfl
def fn_243_79 (w : cm_W) (a0 : Nat) (i1 : Int32) : Option Int32 := (if cm_sh w a0 = some (.inl 11) then (fn_234 w a0).bind fun v17 => (if (cm_b v17) = 0 then fn_243_90 w a0 i1 else some (-1 : Int32)) else none)
theorem jt_243_79 (w : cm_W) (a0 : Nat) (i1 : Int32) : sm cm_g 243 ck_243 kq_243 79 [(0, .ref a0), (1, .int i1)] [] w ((fn_243_79 w a0 i1).map (cm_fI w)) := by
  unfold fn_243_79
  refine sm_seg 1 80 [(0, .ref a0), (1, .int i1)] [.ref a0] rfl ?_
  refine sm_gd fun h16 => ?_
  refine sm_cV (as := []) (rest := []) rfl rfl rfl rfl h16 (Nat.le_of_ble_eq_true rfl) (ca_234 w a0) fun v17 h18 => ?_
  show sm _ _ _ _ 83 [(0, .ref a0), (1, .int i1)] [.int (cm_b v17)] _ _
  refine sm_if (pc1 := 90) (lv1 := [(0, .ref a0), (1, .int i1)]) (pc2 := 86) (lv2 := [(0, .ref a0), (1, .int i1)]) (st1 := []) rfl rfl rfl (fun h19 => ?_) (fun h19 => ?_)
  · exact jt_243_90 w a0 i1
  · refine sm_seg 2 96 [] [.int (-1 : Int32)] rfl ?_
    exact sm_rI rfl rfl
def fn_243_97 (w : cm_W) (a0 : Nat) (i1 : Int32) : Option Int32 := (if cm_sh w a0 = some (.inl 11) then (cm_R w a0 44).bind fun r21 => (if cm_ga w .int r21 i1 = true then some (cm_I w r21 i1.toNatClampNeg) else none) else none)
theorem jt_243_97 (w : cm_W) (a0 : Nat) (i1 : Int32) : sm cm_g 243 ck_243 kq_243 97 [(0, .ref a0), (1, .int i1)] [] w ((fn_243_97 w a0 i1).map (cm_fI w)) := by
  unfold fn_243_97
  refine sm_seg 1 98 [(0, .ref a0), (1, .int i1)] [.ref a0] rfl ?_
  refine sm_gd fun h20 => ?_
  refine sm_gR rfl h20 rfl rfl fun r21 h22 => ?_
  show sm _ _ _ _ 101 [(0, .ref a0), (1, .int i1)] [.ref r21] _ _
  refine sm_seg 1 102 [(0, .ref a0), (1, .int i1)] [.int i1, .ref r21] rfl ?_
  refine sm_gd fun h23 => ?_
  refine sm_ai rfl h23 rfl ?_
  show sm _ _ _ _ 103 [(0, .ref a0), (1, .int i1)] [.int (cm_I w r21 i1.toNatClampNeg)] _ _
  exact sm_rI rfl rfl
def fn_243_104 (w : cm_W) (a0 : Nat) (i1 : Int32) : Option Int32 := (if cm_sh w a0 = some (.inl 11) then (cm_R w a0 45).bind fun r25 => (if cm_ga w .int r25 i1 = true then some (cm_I w r25 i1.toNatClampNeg) else none) else none)
theorem jt_243_104 (w : cm_W) (a0 : Nat) (i1 : Int32) : sm cm_g 243 ck_243 kq_243 104 [(0, .ref a0), (1, .int i1)] [] w ((fn_243_104 w a0 i1).map (cm_fI w)) := by
  unfold fn_243_104
  refine sm_seg 1 105 [(0, .ref a0), (1, .int i1)] [.ref a0] rfl ?_
  refine sm_gd fun h24 => ?_
  refine sm_gR rfl h24 rfl rfl fun r25 h26 => ?_
  show sm _ _ _ _ 108 [(0, .ref a0), (1, .int i1)] [.ref r25] _ _
  refine sm_seg 1 109 [(0, .ref a0), (1, .int i1)] [.int i1, .ref r25] rfl ?_
  refine sm_gd fun h27 => ?_
  refine sm_ai rfl h27 rfl ?_
  show sm _ _ _ _ 110 [(0, .ref a0), (1, .int i1)] [.int (cm_I w r25 i1.toNatClampNeg)] _ _
  exact sm_rI rfl rfl
def fn_243_10 (w : cm_W) (a0 : Nat) (i1 : Int32) (i2 : Int32) : Option Int32 := (if i2 = (0 : Int32) then (if cm_sh w a0 = some (.inl 11) then (cm_R w a0 40).bind fun r30 => (if cm_ga w .int r30 i1 = true then some (cm_I w r30 i1.toNatClampNeg) else none) else none) else (if i2 = (1 : Int32) then fn_243_59 w a0 i1 else (if i2 = (2 : Int32) then fn_243_65 w a0 i1 else (if i2 = (3 : Int32) then fn_243_72 w a0 i1 else (if i2 = (4 : Int32) then fn_243_79 w a0 i1 else (if i2 = (5 : Int32) then fn_243_97 w a0 i1 else (if i2 = (6 : Int32) then fn_243_104 w a0 i1 else some (-1 : Int32))))))))
theorem jt_243_10 (w : cm_W) (a0 : Nat) (i1 : Int32) (i2 : Int32) : sm cm_g 243 ck_243 kq_243 10 [(0, .ref a0), (1, .int i1), (2, .int i2)] [] w ((fn_243_10 w a0 i1 i2).map (cm_fI w)) := by
  unfold fn_243_10
  refine sm_seg 1 11 [(0, .ref a0), (1, .int i1), (2, .int i2)] [.int i2] rfl ?_
  refine sm_br (fun h28 => ?_) (fun h28 => ?_)
  · refine sm_ts (off := (41)) (pc1 := 52) (lv1 := [(0, .ref a0), (1, .int i1), (2, .int i2)]) rfl (by rw [h28]; rfl) rfl rfl ?_
    refine sm_seg 1 53 [(0, .ref a0), (1, .int i1), (2, .int i2)] [.ref a0] rfl ?_
    refine sm_gd fun h29 => ?_
    refine sm_gR rfl h29 rfl rfl fun r30 h31 => ?_
    show sm _ _ _ _ 56 [(0, .ref a0), (1, .int i1), (2, .int i2)] [.ref r30] _ _
    refine sm_seg 1 57 [(0, .ref a0), (1, .int i1), (2, .int i2)] [.int i1, .ref r30] rfl ?_
    refine sm_gd fun h32 => ?_
    refine sm_ai rfl h32 rfl ?_
    show sm _ _ _ _ 58 [(0, .ref a0), (1, .int i1), (2, .int i2)] [.int (cm_I w r30 i1.toNatClampNeg)] _ _
    exact sm_rI rfl rfl
  refine sm_br (fun h33 => ?_) (fun h33 => ?_)
  · refine sm_ts (off := (48)) (pc1 := 59) (lv1 := [(0, .ref a0), (1, .int i1)]) rfl (by rw [h33]; rfl) rfl rfl ?_
    exact jt_243_59 w a0 i1
  refine sm_br (fun h34 => ?_) (fun h34 => ?_)
  · refine sm_ts (off := (54)) (pc1 := 65) (lv1 := [(0, .ref a0), (1, .int i1)]) rfl (by rw [h34]; rfl) rfl rfl ?_
    exact jt_243_65 w a0 i1
  refine sm_br (fun h35 => ?_) (fun h35 => ?_)
  · refine sm_ts (off := (61)) (pc1 := 72) (lv1 := [(0, .ref a0), (1, .int i1)]) rfl (by rw [h35]; rfl) rfl rfl ?_
    exact jt_243_72 w a0 i1
  refine sm_br (fun h36 => ?_) (fun h36 => ?_)
  · refine sm_ts (off := (68)) (pc1 := 79) (lv1 := [(0, .ref a0), (1, .int i1)]) rfl (by rw [h36]; rfl) rfl rfl ?_
    exact jt_243_79 w a0 i1
  refine sm_br (fun h37 => ?_) (fun h37 => ?_)
  · refine sm_ts (off := (86)) (pc1 := 97) (lv1 := [(0, .ref a0), (1, .int i1)]) rfl (by rw [h37]; rfl) rfl rfl ?_
    exact jt_243_97 w a0 i1
  refine sm_br (fun h38 => ?_) (fun h38 => ?_)
  · refine sm_ts (off := (93)) (pc1 := 104) (lv1 := [(0, .ref a0), (1, .int i1)]) rfl (by rw [h38]; rfl) rfl rfl ?_
    exact jt_243_104 w a0 i1
  refine sm_ts (off := (100)) (pc1 := 111) (lv1 := []) rfl (cm_tsd (n := 7) rfl rfl (fun j hj => match j, hj with | 0, _ => .inr (cm_ne h28 rfl) | 1, _ => .inr (cm_ne h33 rfl) | 2, _ => .inr (cm_ne h34 rfl) | 3, _ => .inr (cm_ne h35 rfl) | 4, _ => .inr (cm_ne h36 rfl) | 5, _ => .inr (cm_ne h37 rfl) | 6, _ => .inr (cm_ne h38 rfl) | _ + 7, h => absurd h (by omega))) rfl rfl ?_
  refine sm_seg 1 112 [] [.int (-1 : Int32)] rfl ?_
  exact sm_rI rfl rfl
def fn_243 (w : cm_W) (a0 : Nat) (i1 : Int32) (i2 : Int32) : Option Int32 := (if cm_sh w a0 = some (.inl 11) then (fn_233 w a0 i1).bind fun v40 => (if ¬ (cm_b v40) = 0 then fn_243_10 w a0 i1 i2 else some (-1 : Int32)) else none)
theorem jt_243_0 (w : cm_W) (a0 : Nat) (i1 : Int32) (i2 : Int32) : sm cm_g 243 ck_243 kq_243 0 [(0, .ref a0), (1, .int i1), (2, .int i2)] [] w ((fn_243 w a0 i1 i2).map (cm_fI w)) := by
  unfold fn_243
  refine sm_seg 2 2 [(0, .ref a0), (1, .int i1), (2, .int i2)] [.int i1, .ref a0] rfl ?_
  refine sm_gd fun h39 => ?_
  refine sm_cV (as := [.int i1]) (rest := []) rfl rfl rfl rfl h39 (Nat.le_of_ble_eq_true rfl) (ca_233 w a0 i1) fun v40 h41 => ?_
  show sm _ _ _ _ 5 [(0, .ref a0), (1, .int i1), (2, .int i2)] [.int (cm_b v40)] _ _
  refine sm_if (pc1 := 10) (lv1 := [(0, .ref a0), (1, .int i1), (2, .int i2)]) (pc2 := 8) (lv2 := [(0, .ref a0), (1, .int i1), (2, .int i2)]) (st1 := []) rfl rfl rfl (fun h42 => ?_) (fun h42 => ?_)
  · exact jt_243_10 w a0 i1 i2
  · refine sm_seg 1 9 [(0, .ref a0), (1, .int i1), (2, .int i2)] [.int (-1 : Int32)] rfl ?_
    exact sm_rI rfl rfl
theorem ca_243 (w : cm_W) (a0 : Nat) (i1 : Int32) (i2 : Int32) : cm_ca cm_g 243 [.ref a0, .int i1, .int i2] w ((fn_243 w a0 i1 i2).map (cm_fI w)) := cm_ca_of (cm_me_of rfl rfl) rfl (jt_243_0 w a0 i1 i2)
-- NailedBoxesModel.record(III)I
def fn_244_90 (w : cm_W) (k_41 : Nat → Int32 → Int32 → Int32 → Int32 → Option Int32) (a0 : Nat) (i1 : Int32) (i3 : Int32) (i4 : Int32) (i5 : Int32) : Option Int32 := k_41 a0 i1 i3 i4 (i5 + (1 : Int32))
theorem jt_244_90 (w : cm_W) (k_41 : Nat → Int32 → Int32 → Int32 → Int32 → Option Int32) (hk_41 : ∀ (a0 : Nat) (i1 : Int32) (i3 : Int32) (i4 : Int32) (i5 : Int32), sm cm_g 244 ck_244 kq_244 41 [(0, .ref a0), (1, .int i1), (3, .int i3), (4, .int i4), (5, .int i5)] [] w ((k_41 a0 i1 i3 i4 i5).map (cm_fI w))) (a0 : Nat) (i1 : Int32) (i3 : Int32) (i4 : Int32) (i5 : Int32) : sm cm_g 244 ck_244 kq_244 90 [(0, .ref a0), (1, .int i1), (3, .int i3), (4, .int i4), (5, .int i5)] [] w ((fn_244_90 w k_41 a0 i1 i3 i4 i5).map (cm_fI w)) := by
  unfold fn_244_90
  refine sm_seg 2 41 [(0, .ref a0), (1, .int i1), (3, .int i3), (4, .int i4), (5, .int (i5 + (1 : Int32)))] [] rfl ?_
  exact hk_41 a0 i1 i3 i4 (i5 + (1 : Int32))
def fn_244_87 (w : cm_W) (k_41 : Nat → Int32 → Int32 → Int32 → Int32 → Option Int32) (a0 : Nat) (i1 : Int32) (i3 : Int32) (i4 : Int32) (i5 : Int32) : Option Int32 := fn_244_90 w k_41 a0 i1 i3 (i4 + (-1 : Int32)) i5
theorem jt_244_87 (w : cm_W) (k_41 : Nat → Int32 → Int32 → Int32 → Int32 → Option Int32) (hk_41 : ∀ (a0 : Nat) (i1 : Int32) (i3 : Int32) (i4 : Int32) (i5 : Int32), sm cm_g 244 ck_244 kq_244 41 [(0, .ref a0), (1, .int i1), (3, .int i3), (4, .int i4), (5, .int i5)] [] w ((k_41 a0 i1 i3 i4 i5).map (cm_fI w))) (a0 : Nat) (i1 : Int32) (i3 : Int32) (i4 : Int32) (i5 : Int32) : sm cm_g 244 ck_244 kq_244 87 [(0, .ref a0), (1, .int i1), (3, .int i3), (4, .int i4), (5, .int i5)] [] w ((fn_244_87 w k_41 a0 i1 i3 i4 i5).map (cm_fI w)) := by
  unfold fn_244_87
  refine sm_seg 1 90 [(0, .ref a0), (1, .int i1), (3, .int i3), (4, .int (i4 + (-1 : Int32))), (5, .int i5)] [] rfl ?_
  exact jt_244_90 w k_41 hk_41 a0 i1 i3 (i4 + (-1 : Int32)) i5
def fn_244_67 (w : cm_W) (k_41 : Nat → Int32 → Int32 → Int32 → Int32 → Option Int32) (a0 : Nat) (i1 : Int32) (i3 : Int32) (i4 : Int32) (i5 : Int32) : Option Int32 := (if ¬ i4 = 0 then fn_244_87 w k_41 a0 i1 i3 i4 i5 else (if cm_sh w a0 = some (.inl 11) then (cm_R w a0 48).bind fun r3 => (if cm_ga w .int r3 ((((7 : Int32) * i5) + (1 : Int32)) + i3) = true then some (cm_I w r3 ((((7 : Int32) * i5) + (1 : Int32)) + i3).toNatClampNeg) else none) else none))
theorem jt_244_67 (w : cm_W) (k_41 : Nat → Int32 → Int32 → Int32 → Int32 → Option Int32) (hk_41 : ∀ (a0 : Nat) (i1 : Int32) (i3 : Int32) (i4 : Int32) (i5 : Int32), sm cm_g 244 ck_244 kq_244 41 [(0, .ref a0), (1, .int i1), (3, .int i3), (4, .int i4), (5, .int i5)] [] w ((k_41 a0 i1 i3 i4 i5).map (cm_fI w))) (a0 : Nat) (i1 : Int32) (i3 : Int32) (i4 : Int32) (i5 : Int32) : sm cm_g 244 ck_244 kq_244 67 [(0, .ref a0), (1, .int i1), (3, .int i3), (4, .int i4), (5, .int i5)] [] w ((fn_244_67 w k_41 a0 i1 i3 i4 i5).map (cm_fI w)) := by
  unfold fn_244_67
  refine sm_seg 1 69 [(0, .ref a0), (1, .int i1), (3, .int i3), (4, .int i4), (5, .int i5)] [.int i4] rfl ?_
  refine sm_if (pc1 := 87) (lv1 := [(0, .ref a0), (1, .int i1), (3, .int i3), (4, .int i4), (5, .int i5)]) (pc2 := 72) (lv2 := [(0, .ref a0), (1, .int i1), (3, .int i3), (4, .int i4), (5, .int i5)]) (st1 := []) rfl rfl rfl (fun h1 => ?_) (fun h1 => ?_)
  · exact jt_244_87 w k_41 hk_41 a0 i1 i3 i4 i5
  · refine sm_seg 1 73 [(0, .ref a0), (1, .int i1), (3, .int i3), (4, .int i4), (5, .int i5)] [.ref a0] rfl ?_
    refine sm_gd fun h2 => ?_
    refine sm_gR rfl h2 rfl rfl fun r3 h4 => ?_
    show sm _ _ _ _ 76 [(0, .ref a0), (1, .int i1), (3, .int i3), (4, .int i4), (5, .int i5)] [.ref r3] _ _
    refine sm_seg 7 85 [(0, .ref a0), (1, .int i1), (3, .int i3), (4, .int i4), (5, .int i5)] [.int ((((7 : Int32) * i5) + (1 : Int32)) + i3), .ref r3] rfl ?_
    refine sm_gd fun h5 => ?_
    refine sm_ai rfl h5 rfl ?_
    show sm _ _ _ _ 86 [(0, .ref a0), (1, .int i1), (3, .int i3), (4, .int i4), (5, .int i5)] [.int (cm_I w r3 ((((7 : Int32) * i5) + (1 : Int32)) + i3).toNatClampNeg)] _ _
    exact sm_rI rfl rfl
def fn_244_41 (w : cm_W) : Nat → Nat → Int32 → Int32 → Int32 → Int32 → Option Int32
  | 0, _, _, _, _, _ => none
  | n + 1, a0, i1, i3, i4, i5 => (if cm_sh w a0 = some (.inl 11) then (if (cm_I w a0 39) ≤ i5 then some (-1 : Int32) else (cm_R w a0 48).bind fun r8 => (if cm_ga w .int r8 ((7 : Int32) * i5) = true then (if (cm_I w r8 ((7 : Int32) * i5).toNatClampNeg) = i1 then fn_244_67 w (fn_244_41 w n) a0 i1 i3 i4 i5 else fn_244_90 w (fn_244_41 w n) a0 i1 i3 i4 i5) else none)) else none)
theorem jt_244_41 (w : cm_W) : ∀ (n : Nat) (a0 : Nat) (i1 : Int32) (i3 : Int32) (i4 : Int32) (i5 : Int32), sm cm_g 244 ck_244 kq_244 41 [(0, .ref a0), (1, .int i1), (3, .int i3), (4, .int i4), (5, .int i5)] [] w ((fn_244_41 w n a0 i1 i3 i4 i5).map (cm_fI w)) := by
  intro n
  induction n with
  | zero => intro a0 i1 i3 i4 i5; exact sm_no
  | succ n ih =>
    intro a0 i1 i3 i4 i5
    rw [fn_244_41]
    refine sm_seg 2 44 [(0, .ref a0), (1, .int i1), (3, .int i3), (4, .int i4), (5, .int i5)] [.ref a0, .int i5] rfl ?_
    refine sm_gd fun h6 => ?_
    refine sm_gI rfl h6 rfl ?_
    show sm _ _ _ _ 47 [(0, .ref a0), (1, .int i1), (3, .int i3), (4, .int i4), (5, .int i5)] [.int (cm_I w a0 39), .int i5] _ _
    refine sm_if (pc1 := 96) (lv1 := []) (pc2 := 50) (lv2 := [(0, .ref a0), (1, .int i1), (3, .int i3), (4, .int i4), (5, .int i5)]) (st1 := []) rfl rfl rfl (fun h7 => ?_) (fun h7 => ?_)
    · refine sm_seg 1 97 [] [.int (-1 : Int32)] rfl ?_
      exact sm_rI rfl rfl
    · refine sm_seg 1 51 [(0, .ref a0), (1, .int i1), (3, .int i3), (4, .int i4), (5, .int i5)] [.ref a0] rfl ?_
      refine sm_gR rfl h6 rfl rfl fun r8 h9 => ?_
      show sm _ _ _ _ 54 [(0, .ref a0), (1, .int i1), (3, .int i3), (4, .int i4), (5, .int i5)] [.ref r8] _ _
      refine sm_seg 3 59 [(0, .ref a0), (1, .int i1), (3, .int i3), (4, .int i4), (5, .int i5)] [.int ((7 : Int32) * i5), .ref r8] rfl ?_
      refine sm_gd fun h10 => ?_
      refine sm_ai rfl h10 rfl ?_
      show sm _ _ _ _ 60 [(0, .ref a0), (1, .int i1), (3, .int i3), (4, .int i4), (5, .int i5)] [.int (cm_I w r8 ((7 : Int32) * i5).toNatClampNeg)] _ _
      refine sm_seg 1 61 [(0, .ref a0), (1, .int i1), (3, .int i3), (4, .int i4), (5, .int i5)] [.int i1, .int (cm_I w r8 ((7 : Int32) * i5).toNatClampNeg)] rfl ?_
      refine sm_if (pc1 := 67) (lv1 := [(0, .ref a0), (1, .int i1), (3, .int i3), (4, .int i4), (5, .int i5)]) (pc2 := 64) (lv2 := [(0, .ref a0), (1, .int i1), (3, .int i3), (4, .int i4), (5, .int i5)]) (st1 := []) rfl rfl rfl (fun h11 => ?_) (fun h11 => ?_)
      · exact jt_244_67 w (fn_244_41 w n) ih a0 i1 i3 i4 i5
      · refine sm_seg 1 90 [(0, .ref a0), (1, .int i1), (3, .int i3), (4, .int i4), (5, .int i5)] [] rfl ?_
        exact jt_244_90 w (fn_244_41 w n) ih a0 i1 i3 i4 i5
def fn_244_35 (w : cm_W) (a0 : Nat) (i1 : Int32) (i2 : Int32) (i3 : Int32) : Option Int32 := fn_244_41 w cm_N a0 i1 i3 i2 (0 : Int32)
theorem jt_244_35 (w : cm_W) (a0 : Nat) (i1 : Int32) (i2 : Int32) (i3 : Int32) : sm cm_g 244 ck_244 kq_244 35 [(0, .ref a0), (1, .int i1), (2, .int i2), (3, .int i3)] [] w ((fn_244_35 w a0 i1 i2 i3).map (cm_fI w)) := by
  unfold fn_244_35
  refine sm_seg 4 41 [(0, .ref a0), (1, .int i1), (3, .int i3), (4, .int i2), (5, .int (0 : Int32))] [] rfl ?_
  exact jt_244_41 w cm_N a0 i1 i3 i2 (0 : Int32)
def fn_244 (w : cm_W) (a0 : Nat) (i1 : Int32) (i2 : Int32) (i3 : Int32) : Option Int32 := (if cm_sh w a0 = some (.inl 11) then (fn_233 w a0 i1).bind fun v13 => (if (cm_b v13) = 0 then some (-1 : Int32) else (cm_R w a0 46).bind fun r16 => (if cm_ga w .int r16 i1 = true then (fn_194 w i2 (0 : Int32) ((cm_I w r16 i1.toNatClampNeg) - (1 : Int32))).bind fun v19 => (if (cm_b v19) = 0 then some (-1 : Int32) else (fn_194 w i3 (0 : Int32) (4 : Int32)).bind fun v22 => (if ¬ (cm_b v22) = 0 then fn_244_35 w a0 i1 i2 i3 else some (-1 : Int32))) else none)) else none)
theorem jt_244_0 (w : cm_W) (a0 : Nat) (i1 : Int32) (i2 : Int32) (i3 : Int32) : sm cm_g 244 ck_244 kq_244 0 [(0, .ref a0), (1, .int i1), (2, .int i2), (3, .int i3)] [] w ((fn_244 w a0 i1 i2 i3).map (cm_fI w)) := by
  unfold fn_244
  refine sm_seg 2 2 [(0, .ref a0), (1, .int i1), (2, .int i2), (3, .int i3)] [.int i1, .ref a0] rfl ?_
  refine sm_gd fun h12 => ?_
  refine sm_cV (as := [.int i1]) (rest := []) rfl rfl rfl rfl h12 (Nat.le_of_ble_eq_true rfl) (ca_233 w a0 i1) fun v13 h14 => ?_
  show sm _ _ _ _ 5 [(0, .ref a0), (1, .int i1), (2, .int i2), (3, .int i3)] [.int (cm_b v13)] _ _
  refine sm_if (pc1 := 33) (lv1 := []) (pc2 := 8) (lv2 := [(0, .ref a0), (1, .int i1), (2, .int i2), (3, .int i3)]) (st1 := []) rfl rfl rfl (fun h15 => ?_) (fun h15 => ?_)
  · refine sm_seg 1 34 [] [.int (-1 : Int32)] rfl ?_
    exact sm_rI rfl rfl
  · refine sm_seg 3 11 [(0, .ref a0), (1, .int i1), (2, .int i2), (3, .int i3)] [.ref a0, .int (0 : Int32), .int i2] rfl ?_
    refine sm_gR rfl h12 rfl rfl fun r16 h17 => ?_
    show sm _ _ _ _ 14 [(0, .ref a0), (1, .int i1), (2, .int i2), (3, .int i3)] [.ref r16, .int (0 : Int32), .int i2] _ _
    refine sm_seg 1 15 [(0, .ref a0), (1, .int i1), (2, .int i2), (3, .int i3)] [.int i1, .ref r16, .int (0 : Int32), .int i2] rfl ?_
    refine sm_gd fun h18 => ?_
    refine sm_ai rfl h18 rfl ?_
    show sm _ _ _ _ 16 [(0, .ref a0), (1, .int i1), (2, .int i2), (3, .int i3)] [.int (cm_I w r16 i1.toNatClampNeg), .int (0 : Int32), .int i2] _ _
    refine sm_seg 2 18 [(0, .ref a0), (1, .int i1), (2, .int i2), (3, .int i3)] [.int ((cm_I w r16 i1.toNatClampNeg) - (1 : Int32)), .int (0 : Int32), .int i2] rfl ?_
    refine sm_cS (av := [.int i2, .int (0 : Int32), .int ((cm_I w r16 i1.toNatClampNeg) - (1 : Int32))]) (rest := []) rfl rfl rfl rfl (Nat.le_of_ble_eq_true rfl) (ca_194 w i2 (0 : Int32) ((cm_I w r16 i1.toNatClampNeg) - (1 : Int32))) fun v19 h20 => ?_
    show sm _ _ _ _ 21 [(0, .ref a0), (1, .int i1), (2, .int i2), (3, .int i3)] [.int (cm_b v19)] _ _
    refine sm_if (pc1 := 33) (lv1 := []) (pc2 := 24) (lv2 := [(0, .ref a0), (1, .int i1), (2, .int i2), (3, .int i3)]) (st1 := []) rfl rfl rfl (fun h21 => ?_) (fun h21 => ?_)
    · refine sm_seg 1 34 [] [.int (-1 : Int32)] rfl ?_
      exact sm_rI rfl rfl
    · refine sm_seg 3 27 [(0, .ref a0), (1, .int i1), (2, .int i2), (3, .int i3)] [.int (4 : Int32), .int (0 : Int32), .int i3] rfl ?_
      refine sm_cS (av := [.int i3, .int (0 : Int32), .int (4 : Int32)]) (rest := []) rfl rfl rfl rfl (Nat.le_of_ble_eq_true rfl) (ca_194 w i3 (0 : Int32) (4 : Int32)) fun v22 h23 => ?_
      show sm _ _ _ _ 30 [(0, .ref a0), (1, .int i1), (2, .int i2), (3, .int i3)] [.int (cm_b v22)] _ _
      refine sm_if (pc1 := 35) (lv1 := [(0, .ref a0), (1, .int i1), (2, .int i2), (3, .int i3)]) (pc2 := 33) (lv2 := []) (st1 := []) rfl rfl rfl (fun h24 => ?_) (fun h24 => ?_)
      · exact jt_244_35 w a0 i1 i2 i3
      · refine sm_seg 1 34 [] [.int (-1 : Int32)] rfl ?_
        exact sm_rI rfl rfl
theorem ca_244 (w : cm_W) (a0 : Nat) (i1 : Int32) (i2 : Int32) (i3 : Int32) : cm_ca cm_g 244 [.ref a0, .int i1, .int i2, .int i3] w ((fn_244 w a0 i1 i2 i3).map (cm_fI w)) := cm_ca_of (cm_me_of rfl rfl) rfl (jt_244_0 w a0 i1 i2 i3)
-- NailedBoxesModel.lastSaid(II)I
def fn_245_78 (w : cm_W) (k_5 : Nat → Int32 → Int32 → Int32 → Int32 → Option Int32) (a0 : Nat) (i1 : Int32) (i2 : Int32) (i3 : Int32) (i4 : Int32) : Option Int32 := k_5 a0 i1 i2 i3 (i4 + (1 : Int32))
theorem jt_245_78 (w : cm_W) (k_5 : Nat → Int32 → Int32 → Int32 → Int32 → Option Int32) (hk_5 : ∀ (a0 : Nat) (i1 : Int32) (i2 : Int32) (i3 : Int32) (i4 : Int32), sm cm_g 245 ck_245 kq_245 5 [(0, .ref a0), (1, .int i1), (2, .int i2), (3, .int i3), (4, .int i4)] [] w ((k_5 a0 i1 i2 i3 i4).map (cm_fI w))) (a0 : Nat) (i1 : Int32) (i2 : Int32) (i3 : Int32) (i4 : Int32) : sm cm_g 245 ck_245 kq_245 78 [(0, .ref a0), (1, .int i1), (2, .int i2), (3, .int i3), (4, .int i4)] [] w ((fn_245_78 w k_5 a0 i1 i2 i3 i4).map (cm_fI w)) := by
  unfold fn_245_78
  refine sm_seg 2 5 [(0, .ref a0), (1, .int i1), (2, .int i2), (3, .int i3), (4, .int (i4 + (1 : Int32)))] [] rfl ?_
  exact hk_5 a0 i1 i2 i3 (i4 + (1 : Int32))
def fn_245_5 (w : cm_W) : Nat → Nat → Int32 → Int32 → Int32 → Int32 → Option Int32
  | 0, _, _, _, _, _ => none
  | n + 1, a0, i1, i2, i3, i4 => (if i1 ≤ i4 then some i3 else (if cm_sh w a0 = some (.inl 11) then (cm_R w a0 48).bind fun r3 => (if cm_ga w .int r3 ((7 : Int32) * i4) = true then (cm_R w a0 48).bind fun r6 => (if cm_ga w .int r6 ((7 : Int32) * i1) = true then (if ¬ (cm_I w r3 ((7 : Int32) * i4).toNatClampNeg) = (cm_I w r6 ((7 : Int32) * i1).toNatClampNeg) then fn_245_78 w (fn_245_5 w n) a0 i1 i2 i3 i4 else (cm_R w a0 48).bind fun r10 => (if cm_ga w .int r10 (((7 : Int32) * i4) + (1 : Int32)) = true then (if ¬ (cm_I w r10 (((7 : Int32) * i4) + (1 : Int32)).toNatClampNeg) = (1 : Int32) then fn_245_78 w (fn_245_5 w n) a0 i1 i2 i3 i4 else (cm_R w a0 48).bind fun r14 => (if cm_ga w .int r14 (((7 : Int32) * i4) + (2 : Int32)) = true then (if ¬ (cm_I w r14 (((7 : Int32) * i4) + (2 : Int32)).toNatClampNeg) = i2 then fn_245_78 w (fn_245_5 w n) a0 i1 i2 i3 i4 else (cm_R w a0 48).bind fun r18 => (if cm_ga w .int r18 (((7 : Int32) * i4) + (4 : Int32)) = true then fn_245_78 w (fn_245_5 w n) a0 i1 i2 (cm_I w r18 (((7 : Int32) * i4) + (4 : Int32)).toNatClampNeg) i4 else none)) else none)) else none)) else none) else none) else none))
theorem jt_245_5 (w : cm_W) : ∀ (n : Nat) (a0 : Nat) (i1 : Int32) (i2 : Int32) (i3 : Int32) (i4 : Int32), sm cm_g 245 ck_245 kq_245 5 [(0, .ref a0), (1, .int i1), (2, .int i2), (3, .int i3), (4, .int i4)] [] w ((fn_245_5 w n a0 i1 i2 i3 i4).map (cm_fI w)) := by
  intro n
  induction n with
  | zero => intro a0 i1 i2 i3 i4; exact sm_no
  | succ n ih =>
    intro a0 i1 i2 i3 i4
    rw [fn_245_5]
    refine sm_seg 2 8 [(0, .ref a0), (1, .int i1), (2, .int i2), (3, .int i3), (4, .int i4)] [.int i1, .int i4] rfl ?_
    refine sm_if (pc1 := 84) (lv1 := [(3, .int i3)]) (pc2 := 11) (lv2 := [(0, .ref a0), (1, .int i1), (2, .int i2), (3, .int i3), (4, .int i4)]) (st1 := []) rfl rfl rfl (fun h1 => ?_) (fun h1 => ?_)
    · refine sm_seg 1 85 [(3, .int i3)] [.int i3] rfl ?_
      exact sm_rI rfl rfl
    · refine sm_seg 1 12 [(0, .ref a0), (1, .int i1), (2, .int i2), (3, .int i3), (4, .int i4)] [.ref a0] rfl ?_
      refine sm_gd fun h2 => ?_
      refine sm_gR rfl h2 rfl rfl fun r3 h4 => ?_
      show sm _ _ _ _ 15 [(0, .ref a0), (1, .int i1), (2, .int i2), (3, .int i3), (4, .int i4)] [.ref r3] _ _
      refine sm_seg 3 20 [(0, .ref a0), (1, .int i1), (2, .int i2), (3, .int i3), (4, .int i4)] [.int ((7 : Int32) * i4), .ref r3] rfl ?_
      refine sm_gd fun h5 => ?_
      refine sm_ai rfl h5 rfl ?_
      show sm _ _ _ _ 21 [(0, .ref a0), (1, .int i1), (2, .int i2), (3, .int i3), (4, .int i4)] [.int (cm_I w r3 ((7 : Int32) * i4).toNatClampNeg)] _ _
      refine sm_seg 1 22 [(0, .ref a0), (1, .int i1), (2, .int i2), (3, .int i3), (4, .int i4)] [.ref a0, .int (cm_I w r3 ((7 : Int32) * i4).toNatClampNeg)] rfl ?_
      refine sm_gR rfl h2 rfl rfl fun r6 h7 => ?_
      show sm _ _ _ _ 25 [(0, .ref a0), (1, .int i1), (2, .int i2), (3, .int i3), (4, .int i4)] [.ref r6, .int (cm_I w r3 ((7 : Int32) * i4).toNatClampNeg)] _ _
      refine sm_seg 3 29 [(0, .ref a0), (1, .int i1), (2, .int i2), (3, .int i3), (4, .int i4)] [.int ((7 : Int32) * i1), .ref r6, .int (cm_I w r3 ((7 : Int32) * i4).toNatClampNeg)] rfl ?_
      refine sm_gd fun h8 => ?_
      refine sm_ai rfl h8 rfl ?_
      show sm _ _ _ _ 30 [(0, .ref a0), (1, .int i1), (2, .int i2), (3, .int i3), (4, .int i4)] [.int (cm_I w r6 ((7 : Int32) * i1).toNatClampNeg), .int (cm_I w r3 ((7 : Int32) * i4).toNatClampNeg)] _ _
      refine sm_if (pc1 := 78) (lv1 := [(0, .ref a0), (1, .int i1), (2, .int i2), (3, .int i3), (4, .int i4)]) (pc2 := 33) (lv2 := [(0, .ref a0), (1, .int i1), (2, .int i2), (3, .int i3), (4, .int i4)]) (st1 := []) rfl rfl rfl (fun h9 => ?_) (fun h9 => ?_)
      · exact jt_245_78 w (fn_245_5 w n) ih a0 i1 i2 i3 i4
      · refine sm_seg 1 34 [(0, .ref a0), (1, .int i1), (2, .int i2), (3, .int i3), (4, .int i4)] [.ref a0] rfl ?_
        refine sm_gR rfl h2 rfl rfl fun r10 h11 => ?_
        show sm _ _ _ _ 37 [(0, .ref a0), (1, .int i1), (2, .int i2), (3, .int i3), (4, .int i4)] [.ref r10] _ _
        refine sm_seg 5 44 [(0, .ref a0), (1, .int i1), (2, .int i2), (3, .int i3), (4, .int i4)] [.int (((7 : Int32) * i4) + (1 : Int32)), .ref r10] rfl ?_
        refine sm_gd fun h12 => ?_
        refine sm_ai rfl h12 rfl ?_
        show sm _ _ _ _ 45 [(0, .ref a0), (1, .int i1), (2, .int i2), (3, .int i3), (4, .int i4)] [.int (cm_I w r10 (((7 : Int32) * i4) + (1 : Int32)).toNatClampNeg)] _ _
        refine sm_seg 1 46 [(0, .ref a0), (1, .int i1), (2, .int i2), (3, .int i3), (4, .int i4)] [.int (1 : Int32), .int (cm_I w r10 (((7 : Int32) * i4) + (1 : Int32)).toNatClampNeg)] rfl ?_
        refine sm_if (pc1 := 78) (lv1 := [(0, .ref a0), (1, .int i1), (2, .int i2), (3, .int i3), (4, .int i4)]) (pc2 := 49) (lv2 := [(0, .ref a0), (1, .int i1), (2, .int i2), (3, .int i3), (4, .int i4)]) (st1 := []) rfl rfl rfl (fun h13 => ?_) (fun h13 => ?_)
        · exact jt_245_78 w (fn_245_5 w n) ih a0 i1 i2 i3 i4
        · refine sm_seg 1 50 [(0, .ref a0), (1, .int i1), (2, .int i2), (3, .int i3), (4, .int i4)] [.ref a0] rfl ?_
          refine sm_gR rfl h2 rfl rfl fun r14 h15 => ?_
          show sm _ _ _ _ 53 [(0, .ref a0), (1, .int i1), (2, .int i2), (3, .int i3), (4, .int i4)] [.ref r14] _ _
          refine sm_seg 5 60 [(0, .ref a0), (1, .int i1), (2, .int i2), (3, .int i3), (4, .int i4)] [.int (((7 : Int32) * i4) + (2 : Int32)), .ref r14] rfl ?_
          refine sm_gd fun h16 => ?_
          refine sm_ai rfl h16 rfl ?_
          show sm _ _ _ _ 61 [(0, .ref a0), (1, .int i1), (2, .int i2), (3, .int i3), (4, .int i4)] [.int (cm_I w r14 (((7 : Int32) * i4) + (2 : Int32)).toNatClampNeg)] _ _
          refine sm_seg 1 62 [(0, .ref a0), (1, .int i1), (2, .int i2), (3, .int i3), (4, .int i4)] [.int i2, .int (cm_I w r14 (((7 : Int32) * i4) + (2 : Int32)).toNatClampNeg)] rfl ?_
          refine sm_if (pc1 := 78) (lv1 := [(0, .ref a0), (1, .int i1), (2, .int i2), (3, .int i3), (4, .int i4)]) (pc2 := 65) (lv2 := [(0, .ref a0), (1, .int i1), (2, .int i2), (3, .int i3), (4, .int i4)]) (st1 := []) rfl rfl rfl (fun h17 => ?_) (fun h17 => ?_)
          · exact jt_245_78 w (fn_245_5 w n) ih a0 i1 i2 i3 i4
          · refine sm_seg 1 66 [(0, .ref a0), (1, .int i1), (2, .int i2), (3, .int i3), (4, .int i4)] [.ref a0] rfl ?_
            refine sm_gR rfl h2 rfl rfl fun r18 h19 => ?_
            show sm _ _ _ _ 69 [(0, .ref a0), (1, .int i1), (2, .int i2), (3, .int i3), (4, .int i4)] [.ref r18] _ _
            refine sm_seg 5 76 [(0, .ref a0), (1, .int i1), (2, .int i2), (3, .int i3), (4, .int i4)] [.int (((7 : Int32) * i4) + (4 : Int32)), .ref r18] rfl ?_
            refine sm_gd fun h20 => ?_
            refine sm_ai rfl h20 rfl ?_
            show sm _ _ _ _ 77 [(0, .ref a0), (1, .int i1), (2, .int i2), (3, .int i3), (4, .int i4)] [.int (cm_I w r18 (((7 : Int32) * i4) + (4 : Int32)).toNatClampNeg)] _ _
            refine sm_seg 1 78 [(0, .ref a0), (1, .int i1), (2, .int i2), (3, .int (cm_I w r18 (((7 : Int32) * i4) + (4 : Int32)).toNatClampNeg)), (4, .int i4)] [] rfl ?_
            exact jt_245_78 w (fn_245_5 w n) ih a0 i1 i2 (cm_I w r18 (((7 : Int32) * i4) + (4 : Int32)).toNatClampNeg) i4
def fn_245 (w : cm_W) (a0 : Nat) (i1 : Int32) (i2 : Int32) : Option Int32 := fn_245_5 w cm_N a0 i1 i2 (-1 : Int32) (0 : Int32)
theorem jt_245_0 (w : cm_W) (a0 : Nat) (i1 : Int32) (i2 : Int32) : sm cm_g 245 ck_245 kq_245 0 [(0, .ref a0), (1, .int i1), (2, .int i2)] [] w ((fn_245 w a0 i1 i2).map (cm_fI w)) := by
  unfold fn_245
  refine sm_seg 4 5 [(0, .ref a0), (1, .int i1), (2, .int i2), (3, .int (-1 : Int32)), (4, .int (0 : Int32))] [] rfl ?_
  exact jt_245_5 w cm_N a0 i1 i2 (-1 : Int32) (0 : Int32)
theorem ca_245 (w : cm_W) (a0 : Nat) (i1 : Int32) (i2 : Int32) : cm_ca cm_g 245 [.ref a0, .int i1, .int i2] w ((fn_245 w a0 i1 i2).map (cm_fI w)) := cm_ca_of (cm_me_of rfl rfl) rfl (jt_245_0 w a0 i1 i2)
-- NailedBoxesModel.tenthsOf(II)I
def fn_246_49 (w : cm_W) (a0 : Nat) : Option Int32 := (if cm_sh w a0 = some (.inl 11) then some ((10 : Int32) - (cm_I w a0 6)) else none)
theorem jt_246_49 (w : cm_W) (a0 : Nat) : sm cm_g 246 ck_246 kq_246 49 [(0, .ref a0)] [] w ((fn_246_49 w a0).map (cm_fI w)) := by
  unfold fn_246_49
  refine sm_seg 2 52 [(0, .ref a0)] [.ref a0, .int (10 : Int32)] rfl ?_
  refine sm_gd fun h1 => ?_
  refine sm_gI rfl h1 rfl ?_
  show sm _ _ _ _ 55 [(0, .ref a0)] [.int (cm_I w a0 6), .int (10 : Int32)] _ _
  refine sm_seg 1 56 [] [.int ((10 : Int32) - (cm_I w a0 6))] rfl ?_
  exact sm_rI rfl rfl
def fn_246_81 (w : cm_W) (a0 : Nat) : Option Int32 := (if cm_sh w a0 = some (.inl 11) then some ((10 : Int32) - (cm_I w a0 7)) else none)
theorem jt_246_81 (w : cm_W) (a0 : Nat) : sm cm_g 246 ck_246 kq_246 81 [(0, .ref a0)] [] w ((fn_246_81 w a0).map (cm_fI w)) := by
  unfold fn_246_81
  refine sm_seg 2 84 [(0, .ref a0)] [.ref a0, .int (10 : Int32)] rfl ?_
  refine sm_gd fun h2 => ?_
  refine sm_gI rfl h2 rfl ?_
  show sm _ _ _ _ 87 [(0, .ref a0)] [.int (cm_I w a0 7), .int (10 : Int32)] _ _
  refine sm_seg 1 88 [] [.int ((10 : Int32) - (cm_I w a0 7))] rfl ?_
  exact sm_rI rfl rfl
def fn_246_166 (w : cm_W) (i2 : Int32) (i5 : Int32) (i6 : Int32) : Option Int32 := (if ¬ i6 = (5 : Int32) then some (10 : Int32) else (if ¬ i2 = i5 then some (0 : Int32) else some (10 : Int32)))
theorem jt_246_166 (w : cm_W) (i2 : Int32) (i5 : Int32) (i6 : Int32) : sm cm_g 246 ck_246 kq_246 166 [(2, .int i2), (5, .int i5), (6, .int i6)] [] w ((fn_246_166 w i2 i5 i6).map (cm_fI w)) := by
  unfold fn_246_166
  refine sm_seg 2 169 [(2, .int i2), (5, .int i5), (6, .int i6)] [.int (5 : Int32), .int i6] rfl ?_
  refine sm_if (pc1 := 187) (lv1 := []) (pc2 := 172) (lv2 := [(2, .int i2), (5, .int i5), (6, .int i6)]) (st1 := []) rfl rfl rfl (fun h3 => ?_) (fun h3 => ?_)
  · refine sm_seg 1 189 [] [.int (10 : Int32)] rfl ?_
    exact sm_rI rfl rfl
  · refine sm_seg 2 175 [(2, .int i2), (5, .int i5), (6, .int i6)] [.int i5, .int i2] rfl ?_
    refine sm_if (pc1 := 183) (lv1 := []) (pc2 := 178) (lv2 := [(2, .int i2), (5, .int i5), (6, .int i6)]) (st1 := []) rfl rfl rfl (fun h4 => ?_) (fun h4 => ?_)
    · refine sm_seg 2 189 [] [.int (0 : Int32)] rfl ?_
      exact sm_rI rfl rfl
    · refine sm_seg 2 189 [] [.int (10 : Int32)] rfl ?_
      exact sm_rI rfl rfl
def fn_246_145 (w : cm_W) (i2 : Int32) (i5 : Int32) (i6 : Int32) : Option Int32 := (if ¬ i6 = (1 : Int32) then fn_246_166 w i2 i5 i6 else (if ¬ i2 = i5 then some (2 : Int32) else some (8 : Int32)))
theorem jt_246_145 (w : cm_W) (i2 : Int32) (i5 : Int32) (i6 : Int32) : sm cm_g 246 ck_246 kq_246 145 [(2, .int i2), (5, .int i5), (6, .int i6)] [] w ((fn_246_145 w i2 i5 i6).map (cm_fI w)) := by
  unfold fn_246_145
  refine sm_seg 2 148 [(2, .int i2), (5, .int i5), (6, .int i6)] [.int (1 : Int32), .int i6] rfl ?_
  refine sm_if (pc1 := 166) (lv1 := [(2, .int i2), (5, .int i5), (6, .int i6)]) (pc2 := 151) (lv2 := [(2, .int i2), (5, .int i5), (6, .int i6)]) (st1 := []) rfl rfl rfl (fun h5 => ?_) (fun h5 => ?_)
  · exact jt_246_166 w i2 i5 i6
  · refine sm_seg 2 154 [(2, .int i2), (5, .int i5), (6, .int i6)] [.int i5, .int i2] rfl ?_
    refine sm_if (pc1 := 162) (lv1 := []) (pc2 := 157) (lv2 := [(2, .int i2), (5, .int i5), (6, .int i6)]) (st1 := []) rfl rfl rfl (fun h6 => ?_) (fun h6 => ?_)
    · refine sm_seg 2 189 [] [.int (2 : Int32)] rfl ?_
      exact sm_rI rfl rfl
    · refine sm_seg 2 189 [] [.int (8 : Int32)] rfl ?_
      exact sm_rI rfl rfl
def fn_246_288 (w : cm_W) (i2 : Int32) (i7 : Int32) : Option Int32 := (if ¬ i7 = i2 then some (2 : Int32) else some (8 : Int32))
theorem jt_246_288 (w : cm_W) (i2 : Int32) (i7 : Int32) : sm cm_g 246 ck_246 kq_246 288 [(2, .int i2), (7, .int i7)] [] w ((fn_246_288 w i2 i7).map (cm_fI w)) := by
  unfold fn_246_288
  refine sm_seg 2 291 [(2, .int i2), (7, .int i7)] [.int i2, .int i7] rfl ?_
  refine sm_if (pc1 := 299) (lv1 := []) (pc2 := 294) (lv2 := [(2, .int i2), (7, .int i7)]) (st1 := []) rfl rfl rfl (fun h7 => ?_) (fun h7 => ?_)
  · refine sm_seg 1 300 [] [.int (2 : Int32)] rfl ?_
    exact sm_rI rfl rfl
  · refine sm_seg 2 300 [] [.int (8 : Int32)] rfl ?_
    exact sm_rI rfl rfl
def fn_246_274 (w : cm_W) (i2 : Int32) : Option Int32 := some (10 : Int32)
theorem jt_246_274 (w : cm_W) (i2 : Int32) : sm cm_g 246 ck_246 kq_246 274 [(2, .int i2)] [] w ((fn_246_274 w i2).map (cm_fI w)) := by
  unfold fn_246_274
  refine sm_seg 4 280 [(7, .int (-1 : Int32)), (2, .int i2)] [.int (-1 : Int32), .int (-1 : Int32)] rfl ?_
  refine sm_iff (c := ¬ (-1 : Int32) = (-1 : Int32)) (pc1 := 288) (pc2 := 283) (lv1 := [(7, .int (-1 : Int32)), (2, .int i2)]) (st1 := []) rfl (by decide) rfl ?_
  refine sm_seg 2 300 [] [.int (10 : Int32)] rfl ?_
  exact sm_rI rfl rfl
def fn_246_252 (w : cm_W) (a0 : Nat) (i1 : Int32) (i2 : Int32) (i3 : Int32) (i6 : Int32) : Option Int32 := (if ¬ i6 = (1 : Int32) then fn_246_274 w i2 else (if cm_sh w a0 = some (.inl 11) then (cm_R w a0 48).bind fun r10 => (if cm_ga w .int r10 (i3 + (2 : Int32)) = true then (fn_245 w a0 i1 (cm_I w r10 (i3 + (2 : Int32)).toNatClampNeg)).bind fun v13 => (if ¬ v13 = (-1 : Int32) then fn_246_288 w i2 v13 else some (10 : Int32)) else none) else none))
theorem jt_246_252 (w : cm_W) (a0 : Nat) (i1 : Int32) (i2 : Int32) (i3 : Int32) (i6 : Int32) : sm cm_g 246 ck_246 kq_246 252 [(0, .ref a0), (1, .int i1), (2, .int i2), (3, .int i3), (6, .int i6)] [] w ((fn_246_252 w a0 i1 i2 i3 i6).map (cm_fI w)) := by
  unfold fn_246_252
  refine sm_seg 2 255 [(0, .ref a0), (1, .int i1), (2, .int i2), (3, .int i3), (6, .int i6)] [.int (1 : Int32), .int i6] rfl ?_
  refine sm_if (pc1 := 274) (lv1 := [(2, .int i2)]) (pc2 := 258) (lv2 := [(0, .ref a0), (1, .int i1), (2, .int i2), (3, .int i3), (6, .int i6)]) (st1 := []) rfl rfl rfl (fun h8 => ?_) (fun h8 => ?_)
  · exact jt_246_274 w i2
  · refine sm_seg 3 261 [(0, .ref a0), (1, .int i1), (2, .int i2), (3, .int i3), (6, .int i6)] [.ref a0, .int i1, .ref a0] rfl ?_
    refine sm_gd fun h9 => ?_
    refine sm_gR rfl h9 rfl rfl fun r10 h11 => ?_
    show sm _ _ _ _ 264 [(0, .ref a0), (1, .int i1), (2, .int i2), (3, .int i3), (6, .int i6)] [.ref r10, .int i1, .ref a0] _ _
    refine sm_seg 3 267 [(0, .ref a0), (1, .int i1), (2, .int i2), (3, .int i3), (6, .int i6)] [.int (i3 + (2 : Int32)), .ref r10, .int i1, .ref a0] rfl ?_
    refine sm_gd fun h12 => ?_
    refine sm_ai rfl h12 rfl ?_
    show sm _ _ _ _ 268 [(0, .ref a0), (1, .int i1), (2, .int i2), (3, .int i3), (6, .int i6)] [.int (cm_I w r10 (i3 + (2 : Int32)).toNatClampNeg), .int i1, .ref a0] _ _
    refine sm_cV (as := [.int i1, .int (cm_I w r10 (i3 + (2 : Int32)).toNatClampNeg)]) (rest := []) rfl rfl rfl rfl h9 (Nat.le_of_ble_eq_true rfl) (ca_245 w a0 i1 (cm_I w r10 (i3 + (2 : Int32)).toNatClampNeg)) fun v13 h14 => ?_
    show sm _ _ _ _ 271 [(0, .ref a0), (1, .int i1), (2, .int i2), (3, .int i3), (6, .int i6)] [.int v13] _ _
    refine sm_seg 4 280 [(7, .int v13), (2, .int i2)] [.int (-1 : Int32), .int v13] rfl ?_
    refine sm_if (pc1 := 288) (lv1 := [(2, .int i2), (7, .int v13)]) (pc2 := 283) (lv2 := [(7, .int v13), (2, .int i2)]) (st1 := []) rfl rfl rfl (fun h15 => ?_) (fun h15 => ?_)
    · exact jt_246_288 w i2 v13
    · refine sm_seg 2 300 [] [.int (10 : Int32)] rfl ?_
      exact sm_rI rfl rfl
def fn_246_221 (w : cm_W) (a0 : Nat) (i1 : Int32) (i2 : Int32) (i3 : Int32) (i5 : Int32) (i6 : Int32) : Option Int32 := (if ¬ i6 = (3 : Int32) then fn_246_252 w a0 i1 i2 i3 i6 else (if cm_sh w a0 = some (.inl 11) then (cm_R w a0 48).bind fun r18 => (if cm_ga w .int r18 (i3 + (5 : Int32)) = true then (fn_223 w a0 i2 (cm_I w r18 (i3 + (5 : Int32)).toNatClampNeg)).bind fun v21 => (if i5 < v21 then some (1 : Int32) else some (9 : Int32)) else none) else none))
theorem jt_246_221 (w : cm_W) (a0 : Nat) (i1 : Int32) (i2 : Int32) (i3 : Int32) (i5 : Int32) (i6 : Int32) : sm cm_g 246 ck_246 kq_246 221 [(0, .ref a0), (1, .int i1), (2, .int i2), (3, .int i3), (5, .int i5), (6, .int i6)] [] w ((fn_246_221 w a0 i1 i2 i3 i5 i6).map (cm_fI w)) := by
  unfold fn_246_221
  refine sm_seg 2 224 [(0, .ref a0), (1, .int i1), (2, .int i2), (3, .int i3), (5, .int i5), (6, .int i6)] [.int (3 : Int32), .int i6] rfl ?_
  refine sm_if (pc1 := 252) (lv1 := [(0, .ref a0), (1, .int i1), (2, .int i2), (3, .int i3), (6, .int i6)]) (pc2 := 227) (lv2 := [(0, .ref a0), (1, .int i1), (2, .int i2), (3, .int i3), (5, .int i5), (6, .int i6)]) (st1 := []) rfl rfl rfl (fun h16 => ?_) (fun h16 => ?_)
  · exact jt_246_252 w a0 i1 i2 i3 i6
  · refine sm_seg 3 230 [(0, .ref a0), (1, .int i1), (2, .int i2), (3, .int i3), (5, .int i5), (6, .int i6)] [.ref a0, .int i2, .ref a0] rfl ?_
    refine sm_gd fun h17 => ?_
    refine sm_gR rfl h17 rfl rfl fun r18 h19 => ?_
    show sm _ _ _ _ 233 [(0, .ref a0), (1, .int i1), (2, .int i2), (3, .int i3), (5, .int i5), (6, .int i6)] [.ref r18, .int i2, .ref a0] _ _
    refine sm_seg 3 236 [(0, .ref a0), (1, .int i1), (2, .int i2), (3, .int i3), (5, .int i5), (6, .int i6)] [.int (i3 + (5 : Int32)), .ref r18, .int i2, .ref a0] rfl ?_
    refine sm_gd fun h20 => ?_
    refine sm_ai rfl h20 rfl ?_
    show sm _ _ _ _ 237 [(0, .ref a0), (1, .int i1), (2, .int i2), (3, .int i3), (5, .int i5), (6, .int i6)] [.int (cm_I w r18 (i3 + (5 : Int32)).toNatClampNeg), .int i2, .ref a0] _ _
    refine sm_cV (as := [.int i2, .int (cm_I w r18 (i3 + (5 : Int32)).toNatClampNeg)]) (rest := []) rfl rfl rfl rfl h17 (Nat.le_of_ble_eq_true rfl) (ca_223 w a0 i2 (cm_I w r18 (i3 + (5 : Int32)).toNatClampNeg)) fun v21 h22 => ?_
    show sm _ _ _ _ 240 [(0, .ref a0), (1, .int i1), (2, .int i2), (3, .int i3), (5, .int i5), (6, .int i6)] [.int v21] _ _
    refine sm_seg 1 242 [(0, .ref a0), (1, .int i1), (2, .int i2), (3, .int i3), (5, .int i5), (6, .int i6)] [.int i5, .int v21] rfl ?_
    refine sm_if (pc1 := 250) (lv1 := []) (pc2 := 245) (lv2 := [(0, .ref a0), (1, .int i1), (2, .int i2), (3, .int i3), (5, .int i5), (6, .int i6)]) (st1 := []) rfl rfl rfl (fun h23 => ?_) (fun h23 => ?_)
    · refine sm_seg 1 251 [] [.int (1 : Int32)] rfl ?_
      exact sm_rI rfl rfl
    · refine sm_seg 2 251 [] [.int (9 : Int32)] rfl ?_
      exact sm_rI rfl rfl
def fn_246_190 (w : cm_W) (a0 : Nat) (i1 : Int32) (i2 : Int32) (i3 : Int32) (i5 : Int32) (i6 : Int32) : Option Int32 := (if ¬ i6 = (2 : Int32) then fn_246_221 w a0 i1 i2 i3 i5 i6 else (if cm_sh w a0 = some (.inl 11) then (cm_R w a0 48).bind fun r26 => (if cm_ga w .int r26 (i3 + (5 : Int32)) = true then (fn_222 w a0 i2 (cm_I w r26 (i3 + (5 : Int32)).toNatClampNeg)).bind fun v29 => (if i5 ≤ v29 then some (1 : Int32) else some (9 : Int32)) else none) else none))
theorem jt_246_190 (w : cm_W) (a0 : Nat) (i1 : Int32) (i2 : Int32) (i3 : Int32) (i5 : Int32) (i6 : Int32) : sm cm_g 246 ck_246 kq_246 190 [(0, .ref a0), (1, .int i1), (2, .int i2), (3, .int i3), (5, .int i5), (6, .int i6)] [] w ((fn_246_190 w a0 i1 i2 i3 i5 i6).map (cm_fI w)) := by
  unfold fn_246_190
  refine sm_seg 2 193 [(0, .ref a0), (1, .int i1), (2, .int i2), (3, .int i3), (5, .int i5), (6, .int i6)] [.int (2 : Int32), .int i6] rfl ?_
  refine sm_if (pc1 := 221) (lv1 := [(0, .ref a0), (1, .int i1), (2, .int i2), (3, .int i3), (5, .int i5), (6, .int i6)]) (pc2 := 196) (lv2 := [(0, .ref a0), (1, .int i1), (2, .int i2), (3, .int i3), (5, .int i5), (6, .int i6)]) (st1 := []) rfl rfl rfl (fun h24 => ?_) (fun h24 => ?_)
  · exact jt_246_221 w a0 i1 i2 i3 i5 i6
  · refine sm_seg 3 199 [(0, .ref a0), (1, .int i1), (2, .int i2), (3, .int i3), (5, .int i5), (6, .int i6)] [.ref a0, .int i2, .ref a0] rfl ?_
    refine sm_gd fun h25 => ?_
    refine sm_gR rfl h25 rfl rfl fun r26 h27 => ?_
    show sm _ _ _ _ 202 [(0, .ref a0), (1, .int i1), (2, .int i2), (3, .int i3), (5, .int i5), (6, .int i6)] [.ref r26, .int i2, .ref a0] _ _
    refine sm_seg 3 205 [(0, .ref a0), (1, .int i1), (2, .int i2), (3, .int i3), (5, .int i5), (6, .int i6)] [.int (i3 + (5 : Int32)), .ref r26, .int i2, .ref a0] rfl ?_
    refine sm_gd fun h28 => ?_
    refine sm_ai rfl h28 rfl ?_
    show sm _ _ _ _ 206 [(0, .ref a0), (1, .int i1), (2, .int i2), (3, .int i3), (5, .int i5), (6, .int i6)] [.int (cm_I w r26 (i3 + (5 : Int32)).toNatClampNeg), .int i2, .ref a0] _ _
    refine sm_cV (as := [.int i2, .int (cm_I w r26 (i3 + (5 : Int32)).toNatClampNeg)]) (rest := []) rfl rfl rfl rfl h25 (Nat.le_of_ble_eq_true rfl) (ca_222 w a0 i2 (cm_I w r26 (i3 + (5 : Int32)).toNatClampNeg)) fun v29 h30 => ?_
    show sm _ _ _ _ 209 [(0, .ref a0), (1, .int i1), (2, .int i2), (3, .int i3), (5, .int i5), (6, .int i6)] [.int v29] _ _
    refine sm_seg 1 211 [(0, .ref a0), (1, .int i1), (2, .int i2), (3, .int i3), (5, .int i5), (6, .int i6)] [.int i5, .int v29] rfl ?_
    refine sm_if (pc1 := 219) (lv1 := []) (pc2 := 214) (lv2 := [(0, .ref a0), (1, .int i1), (2, .int i2), (3, .int i3), (5, .int i5), (6, .int i6)]) (st1 := []) rfl rfl rfl (fun h31 => ?_) (fun h31 => ?_)
    · refine sm_seg 1 220 [] [.int (1 : Int32)] rfl ?_
      exact sm_rI rfl rfl
    · refine sm_seg 2 220 [] [.int (9 : Int32)] rfl ?_
      exact sm_rI rfl rfl
def fn_246_104 (w : cm_W) (a0 : Nat) (i1 : Int32) (i2 : Int32) (i3 : Int32) (i4 : Int32) (i5 : Int32) : Option Int32 := (if cm_sh w a0 = some (.inl 11) then (cm_R w a0 26).bind fun r33 => (cm_R w a0 48).bind fun r35 => (if cm_ga w .int r35 (i3 + (2 : Int32)) = true then (if cm_ga w .int r33 (cm_I w r35 (i3 + (2 : Int32)).toNatClampNeg) = true then (if ¬ i4 = (1 : Int32) then fn_246_190 w a0 i1 i2 i3 i5 (cm_I w r33 (cm_I w r35 (i3 + (2 : Int32)).toNatClampNeg).toNatClampNeg) else (if ¬ (cm_I w r33 (cm_I w r35 (i3 + (2 : Int32)).toNatClampNeg).toNatClampNeg) = 0 then fn_246_145 w i2 i5 (cm_I w r33 (cm_I w r35 (i3 + (2 : Int32)).toNatClampNeg).toNatClampNeg) else (if ¬ i2 = i5 then some (1 : Int32) else some (9 : Int32)))) else none) else none) else none)
theorem jt_246_104 (w : cm_W) (a0 : Nat) (i1 : Int32) (i2 : Int32) (i3 : Int32) (i4 : Int32) (i5 : Int32) : sm cm_g 246 ck_246 kq_246 104 [(0, .ref a0), (1, .int i1), (2, .int i2), (3, .int i3), (4, .int i4), (5, .int i5)] [] w ((fn_246_104 w a0 i1 i2 i3 i4 i5).map (cm_fI w)) := by
  unfold fn_246_104
  refine sm_seg 1 105 [(0, .ref a0), (1, .int i1), (2, .int i2), (3, .int i3), (4, .int i4), (5, .int i5)] [.ref a0] rfl ?_
  refine sm_gd fun h32 => ?_
  refine sm_gR rfl h32 rfl rfl fun r33 h34 => ?_
  show sm _ _ _ _ 108 [(0, .ref a0), (1, .int i1), (2, .int i2), (3, .int i3), (4, .int i4), (5, .int i5)] [.ref r33] _ _
  refine sm_seg 1 109 [(0, .ref a0), (1, .int i1), (2, .int i2), (3, .int i3), (4, .int i4), (5, .int i5)] [.ref a0, .ref r33] rfl ?_
  refine sm_gR rfl h32 rfl rfl fun r35 h36 => ?_
  show sm _ _ _ _ 112 [(0, .ref a0), (1, .int i1), (2, .int i2), (3, .int i3), (4, .int i4), (5, .int i5)] [.ref r35, .ref r33] _ _
  refine sm_seg 3 115 [(0, .ref a0), (1, .int i1), (2, .int i2), (3, .int i3), (4, .int i4), (5, .int i5)] [.int (i3 + (2 : Int32)), .ref r35, .ref r33] rfl ?_
  refine sm_gd fun h37 => ?_
  refine sm_ai rfl h37 rfl ?_
  show sm _ _ _ _ 116 [(0, .ref a0), (1, .int i1), (2, .int i2), (3, .int i3), (4, .int i4), (5, .int i5)] [.int (cm_I w r35 (i3 + (2 : Int32)).toNatClampNeg), .ref r33] _ _
  refine sm_gd fun h38 => ?_
  refine sm_ai rfl h38 rfl ?_
  show sm _ _ _ _ 117 [(0, .ref a0), (1, .int i1), (2, .int i2), (3, .int i3), (4, .int i4), (5, .int i5)] [.int (cm_I w r33 (cm_I w r35 (i3 + (2 : Int32)).toNatClampNeg).toNatClampNeg)] _ _
  refine sm_seg 3 122 [(6, .int (cm_I w r33 (cm_I w r35 (i3 + (2 : Int32)).toNatClampNeg).toNatClampNeg)), (0, .ref a0), (1, .int i1), (2, .int i2), (3, .int i3), (4, .int i4), (5, .int i5)] [.int (1 : Int32), .int i4] rfl ?_
  refine sm_if (pc1 := 190) (lv1 := [(0, .ref a0), (1, .int i1), (2, .int i2), (3, .int i3), (5, .int i5), (6, .int (cm_I w r33 (cm_I w r35 (i3 + (2 : Int32)).toNatClampNeg).toNatClampNeg))]) (pc2 := 125) (lv2 := [(6, .int (cm_I w r33 (cm_I w r35 (i3 + (2 : Int32)).toNatClampNeg).toNatClampNeg)), (0, .ref a0), (1, .int i1), (2, .int i2), (3, .int i3), (4, .int i4), (5, .int i5)]) (st1 := []) rfl rfl rfl (fun h39 => ?_) (fun h39 => ?_)
  · exact jt_246_190 w a0 i1 i2 i3 i5 (cm_I w r33 (cm_I w r35 (i3 + (2 : Int32)).toNatClampNeg).toNatClampNeg)
  · refine sm_seg 1 127 [(6, .int (cm_I w r33 (cm_I w r35 (i3 + (2 : Int32)).toNatClampNeg).toNatClampNeg)), (0, .ref a0), (1, .int i1), (2, .int i2), (3, .int i3), (4, .int i4), (5, .int i5)] [.int (cm_I w r33 (cm_I w r35 (i3 + (2 : Int32)).toNatClampNeg).toNatClampNeg)] rfl ?_
    refine sm_if (pc1 := 145) (lv1 := [(2, .int i2), (5, .int i5), (6, .int (cm_I w r33 (cm_I w r35 (i3 + (2 : Int32)).toNatClampNeg).toNatClampNeg))]) (pc2 := 130) (lv2 := [(6, .int (cm_I w r33 (cm_I w r35 (i3 + (2 : Int32)).toNatClampNeg).toNatClampNeg)), (0, .ref a0), (1, .int i1), (2, .int i2), (3, .int i3), (4, .int i4), (5, .int i5)]) (st1 := []) rfl rfl rfl (fun h40 => ?_) (fun h40 => ?_)
    · exact jt_246_145 w i2 i5 (cm_I w r33 (cm_I w r35 (i3 + (2 : Int32)).toNatClampNeg).toNatClampNeg)
    · refine sm_seg 2 133 [(6, .int (cm_I w r33 (cm_I w r35 (i3 + (2 : Int32)).toNatClampNeg).toNatClampNeg)), (0, .ref a0), (1, .int i1), (2, .int i2), (3, .int i3), (4, .int i4), (5, .int i5)] [.int i5, .int i2] rfl ?_
      refine sm_if (pc1 := 141) (lv1 := []) (pc2 := 136) (lv2 := [(6, .int (cm_I w r33 (cm_I w r35 (i3 + (2 : Int32)).toNatClampNeg).toNatClampNeg)), (0, .ref a0), (1, .int i1), (2, .int i2), (3, .int i3), (4, .int i4), (5, .int i5)]) (st1 := []) rfl rfl rfl (fun h41 => ?_) (fun h41 => ?_)
      · refine sm_seg 2 189 [] [.int (1 : Int32)] rfl ?_
        exact sm_rI rfl rfl
      · refine sm_seg 2 189 [] [.int (9 : Int32)] rfl ?_
        exact sm_rI rfl rfl
def fn_246_89 (w : cm_W) (a0 : Nat) (i1 : Int32) (i2 : Int32) (i3 : Int32) (i4 : Int32) (i5 : Int32) : Option Int32 := (if cm_sh w a0 = some (.inl 11) then (cm_R w a0 48).bind fun r43 => (if cm_ga w .int r43 (i3 + (6 : Int32)) = true then (if ¬ (cm_I w r43 (i3 + (6 : Int32)).toNatClampNeg) = 0 then fn_246_104 w a0 i1 i2 i3 i4 i5 else some (10 : Int32)) else none) else none)
theorem jt_246_89 (w : cm_W) (a0 : Nat) (i1 : Int32) (i2 : Int32) (i3 : Int32) (i4 : Int32) (i5 : Int32) : sm cm_g 246 ck_246 kq_246 89 [(0, .ref a0), (1, .int i1), (2, .int i2), (3, .int i3), (4, .int i4), (5, .int i5)] [] w ((fn_246_89 w a0 i1 i2 i3 i4 i5).map (cm_fI w)) := by
  unfold fn_246_89
  refine sm_seg 1 90 [(0, .ref a0), (1, .int i1), (2, .int i2), (3, .int i3), (4, .int i4), (5, .int i5)] [.ref a0] rfl ?_
  refine sm_gd fun h42 => ?_
  refine sm_gR rfl h42 rfl rfl fun r43 h44 => ?_
  show sm _ _ _ _ 93 [(0, .ref a0), (1, .int i1), (2, .int i2), (3, .int i3), (4, .int i4), (5, .int i5)] [.ref r43] _ _
  refine sm_seg 3 97 [(0, .ref a0), (1, .int i1), (2, .int i2), (3, .int i3), (4, .int i4), (5, .int i5)] [.int (i3 + (6 : Int32)), .ref r43] rfl ?_
  refine sm_gd fun h45 => ?_
  refine sm_ai rfl h45 rfl ?_
  show sm _ _ _ _ 98 [(0, .ref a0), (1, .int i1), (2, .int i2), (3, .int i3), (4, .int i4), (5, .int i5)] [.int (cm_I w r43 (i3 + (6 : Int32)).toNatClampNeg)] _ _
  refine sm_if (pc1 := 104) (lv1 := [(0, .ref a0), (1, .int i1), (2, .int i2), (3, .int i3), (4, .int i4), (5, .int i5)]) (pc2 := 101) (lv2 := [(0, .ref a0), (1, .int i1), (2, .int i2), (3, .int i3), (4, .int i4), (5, .int i5)]) (st1 := []) rfl rfl rfl (fun h46 => ?_) (fun h46 => ?_)
  · exact jt_246_104 w a0 i1 i2 i3 i4 i5
  · refine sm_seg 1 103 [(0, .ref a0), (1, .int i1), (2, .int i2), (3, .int i3), (4, .int i4), (5, .int i5)] [.int (10 : Int32)] rfl ?_
    exact sm_rI rfl rfl
def fn_246_57 (w : cm_W) (a0 : Nat) (i1 : Int32) (i2 : Int32) (i3 : Int32) (i4 : Int32) (i5 : Int32) : Option Int32 := (if ¬ i4 = (3 : Int32) then fn_246_89 w a0 i1 i2 i3 i4 i5 else (if cm_sh w a0 = some (.inl 11) then (cm_R w a0 24).bind fun r49 => (if cm_ga w .int r49 i2 = true then (if ¬ (cm_I w r49 i2.toNatClampNeg) = i5 then fn_246_81 w a0 else some (cm_I w a0 7)) else none) else none))
theorem jt_246_57 (w : cm_W) (a0 : Nat) (i1 : Int32) (i2 : Int32) (i3 : Int32) (i4 : Int32) (i5 : Int32) : sm cm_g 246 ck_246 kq_246 57 [(0, .ref a0), (1, .int i1), (2, .int i2), (3, .int i3), (4, .int i4), (5, .int i5)] [] w ((fn_246_57 w a0 i1 i2 i3 i4 i5).map (cm_fI w)) := by
  unfold fn_246_57
  refine sm_seg 2 60 [(0, .ref a0), (1, .int i1), (2, .int i2), (3, .int i3), (4, .int i4), (5, .int i5)] [.int (3 : Int32), .int i4] rfl ?_
  refine sm_if (pc1 := 89) (lv1 := [(0, .ref a0), (1, .int i1), (2, .int i2), (3, .int i3), (4, .int i4), (5, .int i5)]) (pc2 := 63) (lv2 := [(0, .ref a0), (1, .int i1), (2, .int i2), (3, .int i3), (4, .int i4), (5, .int i5)]) (st1 := []) rfl rfl rfl (fun h47 => ?_) (fun h47 => ?_)
  · exact jt_246_89 w a0 i1 i2 i3 i4 i5
  · refine sm_seg 1 64 [(0, .ref a0), (1, .int i1), (2, .int i2), (3, .int i3), (4, .int i4), (5, .int i5)] [.ref a0] rfl ?_
    refine sm_gd fun h48 => ?_
    refine sm_gR rfl h48 rfl rfl fun r49 h50 => ?_
    show sm _ _ _ _ 67 [(0, .ref a0), (1, .int i1), (2, .int i2), (3, .int i3), (4, .int i4), (5, .int i5)] [.ref r49] _ _
    refine sm_seg 1 68 [(0, .ref a0), (1, .int i1), (2, .int i2), (3, .int i3), (4, .int i4), (5, .int i5)] [.int i2, .ref r49] rfl ?_
    refine sm_gd fun h51 => ?_
    refine sm_ai rfl h51 rfl ?_
    show sm _ _ _ _ 69 [(0, .ref a0), (1, .int i1), (2, .int i2), (3, .int i3), (4, .int i4), (5, .int i5)] [.int (cm_I w r49 i2.toNatClampNeg)] _ _
    refine sm_seg 1 71 [(0, .ref a0), (1, .int i1), (2, .int i2), (3, .int i3), (4, .int i4), (5, .int i5)] [.int i5, .int (cm_I w r49 i2.toNatClampNeg)] rfl ?_
    refine sm_if (pc1 := 81) (lv1 := [(0, .ref a0)]) (pc2 := 74) (lv2 := [(0, .ref a0), (1, .int i1), (2, .int i2), (3, .int i3), (4, .int i4), (5, .int i5)]) (st1 := []) rfl rfl rfl (fun h52 => ?_) (fun h52 => ?_)
    · exact jt_246_81 w a0
    · refine sm_seg 1 75 [(0, .ref a0), (1, .int i1), (2, .int i2), (3, .int i3), (4, .int i4), (5, .int i5)] [.ref a0] rfl ?_
      refine sm_gI rfl h48 rfl ?_
      show sm _ _ _ _ 78 [(0, .ref a0), (1, .int i1), (2, .int i2), (3, .int i3), (4, .int i4), (5, .int i5)] [.int (cm_I w a0 7)] _ _
      refine sm_seg 1 88 [] [.int (cm_I w a0 7)] rfl ?_
      exact sm_rI rfl rfl
def fn_246 (w : cm_W) (a0 : Nat) (i1 : Int32) (i2 : Int32) : Option Int32 := (if cm_sh w a0 = some (.inl 11) then (cm_R w a0 48).bind fun r54 => (if cm_ga w .int r54 (((7 : Int32) * i1) + (1 : Int32)) = true then (cm_R w a0 48).bind fun r57 => (if cm_ga w .int r57 (((7 : Int32) * i1) + (4 : Int32)) = true then (if ¬ (cm_I w r54 (((7 : Int32) * i1) + (1 : Int32)).toNatClampNeg) = (2 : Int32) then fn_246_57 w a0 i1 i2 ((7 : Int32) * i1) (cm_I w r54 (((7 : Int32) * i1) + (1 : Int32)).toNatClampNeg) (cm_I w r57 (((7 : Int32) * i1) + (4 : Int32)).toNatClampNeg) else (cm_R w a0 23).bind fun r61 => (if cm_ga w .int r61 i2 = true then (if ¬ (cm_I w r61 i2.toNatClampNeg) = (cm_I w r57 (((7 : Int32) * i1) + (4 : Int32)).toNatClampNeg) then fn_246_49 w a0 else some (cm_I w a0 6)) else none)) else none) else none) else none)
theorem jt_246_0 (w : cm_W) (a0 : Nat) (i1 : Int32) (i2 : Int32) : sm cm_g 246 ck_246 kq_246 0 [(0, .ref a0), (1, .int i1), (2, .int i2)] [] w ((fn_246 w a0 i1 i2).map (cm_fI w)) := by
  unfold fn_246
  refine sm_seg 5 6 [(3, .int ((7 : Int32) * i1)), (0, .ref a0), (1, .int i1), (2, .int i2)] [.ref a0] rfl ?_
  refine sm_gd fun h53 => ?_
  refine sm_gR rfl h53 rfl rfl fun r54 h55 => ?_
  show sm _ _ _ _ 9 [(3, .int ((7 : Int32) * i1)), (0, .ref a0), (1, .int i1), (2, .int i2)] [.ref r54] _ _
  refine sm_seg 3 12 [(3, .int ((7 : Int32) * i1)), (0, .ref a0), (1, .int i1), (2, .int i2)] [.int (((7 : Int32) * i1) + (1 : Int32)), .ref r54] rfl ?_
  refine sm_gd fun h56 => ?_
  refine sm_ai rfl h56 rfl ?_
  show sm _ _ _ _ 13 [(3, .int ((7 : Int32) * i1)), (0, .ref a0), (1, .int i1), (2, .int i2)] [.int (cm_I w r54 (((7 : Int32) * i1) + (1 : Int32)).toNatClampNeg)] _ _
  refine sm_seg 2 16 [(4, .int (cm_I w r54 (((7 : Int32) * i1) + (1 : Int32)).toNatClampNeg)), (3, .int ((7 : Int32) * i1)), (0, .ref a0), (1, .int i1), (2, .int i2)] [.ref a0] rfl ?_
  refine sm_gR rfl h53 rfl rfl fun r57 h58 => ?_
  show sm _ _ _ _ 19 [(4, .int (cm_I w r54 (((7 : Int32) * i1) + (1 : Int32)).toNatClampNeg)), (3, .int ((7 : Int32) * i1)), (0, .ref a0), (1, .int i1), (2, .int i2)] [.ref r57] _ _
  refine sm_seg 3 22 [(4, .int (cm_I w r54 (((7 : Int32) * i1) + (1 : Int32)).toNatClampNeg)), (3, .int ((7 : Int32) * i1)), (0, .ref a0), (1, .int i1), (2, .int i2)] [.int (((7 : Int32) * i1) + (4 : Int32)), .ref r57] rfl ?_
  refine sm_gd fun h59 => ?_
  refine sm_ai rfl h59 rfl ?_
  show sm _ _ _ _ 23 [(4, .int (cm_I w r54 (((7 : Int32) * i1) + (1 : Int32)).toNatClampNeg)), (3, .int ((7 : Int32) * i1)), (0, .ref a0), (1, .int i1), (2, .int i2)] [.int (cm_I w r57 (((7 : Int32) * i1) + (4 : Int32)).toNatClampNeg)] _ _
  refine sm_seg 3 28 [(5, .int (cm_I w r57 (((7 : Int32) * i1) + (4 : Int32)).toNatClampNeg)), (4, .int (cm_I w r54 (((7 : Int32) * i1) + (1 : Int32)).toNatClampNeg)), (3, .int ((7 : Int32) * i1)), (0, .ref a0), (1, .int i1), (2, .int i2)] [.int (2 : Int32), .int (cm_I w r54 (((7 : Int32) * i1) + (1 : Int32)).toNatClampNeg)] rfl ?_
  refine sm_if (pc1 := 57) (lv1 := [(0, .ref a0), (1, .int i1), (2, .int i2), (3, .int ((7 : Int32) * i1)), (4, .int (cm_I w r54 (((7 : Int32) * i1) + (1 : Int32)).toNatClampNeg)), (5, .int (cm_I w r57 (((7 : Int32) * i1) + (4 : Int32)).toNatClampNeg))]) (pc2 := 31) (lv2 := [(5, .int (cm_I w r57 (((7 : Int32) * i1) + (4 : Int32)).toNatClampNeg)), (4, .int (cm_I w r54 (((7 : Int32) * i1) + (1 : Int32)).toNatClampNeg)), (3, .int ((7 : Int32) * i1)), (0, .ref a0), (1, .int i1), (2, .int i2)]) (st1 := []) rfl rfl rfl (fun h60 => ?_) (fun h60 => ?_)
  · exact jt_246_57 w a0 i1 i2 ((7 : Int32) * i1) (cm_I w r54 (((7 : Int32) * i1) + (1 : Int32)).toNatClampNeg) (cm_I w r57 (((7 : Int32) * i1) + (4 : Int32)).toNatClampNeg)
  · refine sm_seg 1 32 [(5, .int (cm_I w r57 (((7 : Int32) * i1) + (4 : Int32)).toNatClampNeg)), (4, .int (cm_I w r54 (((7 : Int32) * i1) + (1 : Int32)).toNatClampNeg)), (3, .int ((7 : Int32) * i1)), (0, .ref a0), (1, .int i1), (2, .int i2)] [.ref a0] rfl ?_
    refine sm_gR rfl h53 rfl rfl fun r61 h62 => ?_
    show sm _ _ _ _ 35 [(5, .int (cm_I w r57 (((7 : Int32) * i1) + (4 : Int32)).toNatClampNeg)), (4, .int (cm_I w r54 (((7 : Int32) * i1) + (1 : Int32)).toNatClampNeg)), (3, .int ((7 : Int32) * i1)), (0, .ref a0), (1, .int i1), (2, .int i2)] [.ref r61] _ _
    refine sm_seg 1 36 [(5, .int (cm_I w r57 (((7 : Int32) * i1) + (4 : Int32)).toNatClampNeg)), (4, .int (cm_I w r54 (((7 : Int32) * i1) + (1 : Int32)).toNatClampNeg)), (3, .int ((7 : Int32) * i1)), (0, .ref a0), (1, .int i1), (2, .int i2)] [.int i2, .ref r61] rfl ?_
    refine sm_gd fun h63 => ?_
    refine sm_ai rfl h63 rfl ?_
    show sm _ _ _ _ 37 [(5, .int (cm_I w r57 (((7 : Int32) * i1) + (4 : Int32)).toNatClampNeg)), (4, .int (cm_I w r54 (((7 : Int32) * i1) + (1 : Int32)).toNatClampNeg)), (3, .int ((7 : Int32) * i1)), (0, .ref a0), (1, .int i1), (2, .int i2)] [.int (cm_I w r61 i2.toNatClampNeg)] _ _
    refine sm_seg 1 39 [(5, .int (cm_I w r57 (((7 : Int32) * i1) + (4 : Int32)).toNatClampNeg)), (4, .int (cm_I w r54 (((7 : Int32) * i1) + (1 : Int32)).toNatClampNeg)), (3, .int ((7 : Int32) * i1)), (0, .ref a0), (1, .int i1), (2, .int i2)] [.int (cm_I w r57 (((7 : Int32) * i1) + (4 : Int32)).toNatClampNeg), .int (cm_I w r61 i2.toNatClampNeg)] rfl ?_
    refine sm_if (pc1 := 49) (lv1 := [(0, .ref a0)]) (pc2 := 42) (lv2 := [(5, .int (cm_I w r57 (((7 : Int32) * i1) + (4 : Int32)).toNatClampNeg)), (4, .int (cm_I w r54 (((7 : Int32) * i1) + (1 : Int32)).toNatClampNeg)), (3, .int ((7 : Int32) * i1)), (0, .ref a0), (1, .int i1), (2, .int i2)]) (st1 := []) rfl rfl rfl (fun h64 => ?_) (fun h64 => ?_)
    · exact jt_246_49 w a0
    · refine sm_seg 1 43 [(5, .int (cm_I w r57 (((7 : Int32) * i1) + (4 : Int32)).toNatClampNeg)), (4, .int (cm_I w r54 (((7 : Int32) * i1) + (1 : Int32)).toNatClampNeg)), (3, .int ((7 : Int32) * i1)), (0, .ref a0), (1, .int i1), (2, .int i2)] [.ref a0] rfl ?_
      refine sm_gI rfl h53 rfl ?_
      show sm _ _ _ _ 46 [(5, .int (cm_I w r57 (((7 : Int32) * i1) + (4 : Int32)).toNatClampNeg)), (4, .int (cm_I w r54 (((7 : Int32) * i1) + (1 : Int32)).toNatClampNeg)), (3, .int ((7 : Int32) * i1)), (0, .ref a0), (1, .int i1), (2, .int i2)] [.int (cm_I w a0 6)] _ _
      refine sm_seg 1 56 [] [.int (cm_I w a0 6)] rfl ?_
      exact sm_rI rfl rfl
theorem ca_246 (w : cm_W) (a0 : Nat) (i1 : Int32) (i2 : Int32) : cm_ca cm_g 246 [.ref a0, .int i1, .int i2] w ((fn_246 w a0 i1 i2).map (cm_fI w)) := cm_ca_of (cm_me_of rfl rfl) rfl (jt_246_0 w a0 i1 i2)
-- NailedBoxesModel.thinks(I)Z
def fn_247_85 (k_14 : Nat → Int32 → Int32 → Int32 → cm_W → Option (Bool × cm_W)) (k_45 : Nat → Int32 → Int32 → Int32 → Int64 → Int32 → cm_W → Option (Bool × cm_W)) (a0 : Nat) (i1 : Int32) (i2 : Int32) (i3 : Int32) (j4 : Int64) (i6 : Int32) (w : cm_W) : Option (Bool × cm_W) := k_45 a0 i1 i2 i3 j4 (i6 + (1 : Int32)) w
theorem jt_247_85 (k_14 : Nat → Int32 → Int32 → Int32 → cm_W → Option (Bool × cm_W)) (k_45 : Nat → Int32 → Int32 → Int32 → Int64 → Int32 → cm_W → Option (Bool × cm_W)) (hk_14 : ∀ (a0 : Nat) (i1 : Int32) (i2 : Int32) (i3 : Int32) (w : cm_W), sm cm_g 247 ck_247 kq_247 14 [(0, .ref a0), (1, .int i1), (2, .int i2), (3, .int i3)] [] w ((k_14 a0 i1 i2 i3 w).map cm_gB)) (hk_45 : ∀ (a0 : Nat) (i1 : Int32) (i2 : Int32) (i3 : Int32) (j4 : Int64) (i6 : Int32) (w : cm_W), sm cm_g 247 ck_247 kq_247 45 [(0, .ref a0), (1, .int i1), (2, .int i2), (3, .int i3), (4, .long j4), (6, .int i6)] [] w ((k_45 a0 i1 i2 i3 j4 i6 w).map cm_gB)) (a0 : Nat) (i1 : Int32) (i2 : Int32) (i3 : Int32) (j4 : Int64) (i6 : Int32) (w : cm_W) : sm cm_g 247 ck_247 kq_247 85 [(0, .ref a0), (1, .int i1), (2, .int i2), (3, .int i3), (4, .long j4), (6, .int i6)] [] w ((fn_247_85 k_14 k_45 a0 i1 i2 i3 j4 i6 w).map cm_gB) := by
  unfold fn_247_85
  refine sm_seg 2 45 [(0, .ref a0), (1, .int i1), (2, .int i2), (3, .int i3), (4, .long j4), (6, .int (i6 + (1 : Int32)))] [] rfl ?_
  exact hk_45 a0 i1 i2 i3 j4 (i6 + (1 : Int32)) w
def fn_247_91 (k_14 : Nat → Int32 → Int32 → Int32 → cm_W → Option (Bool × cm_W)) (a0 : Nat) (i1 : Int32) (i2 : Int32) (i3 : Int32) (j4 : Int64) (w : cm_W) : Option (Bool × cm_W) := (if cm_sh w a0 = some (.inl 11) then (cm_R w a0 49).bind fun r2 => (if cm_ga w .long r2 i3 = true then (if cm_w2 96 143 r2 = true then (if cm_w2 96 143 a0 = true then k_14 a0 i1 i2 (i3 + (1 : Int32)) (cm_sL (cm_sL w r2 i3.toNatClampNeg j4) a0 50 ((cm_L (cm_sL w r2 i3.toNatClampNeg j4) a0 50) + j4)) else none) else none) else none) else none)
theorem jt_247_91 (k_14 : Nat → Int32 → Int32 → Int32 → cm_W → Option (Bool × cm_W)) (hk_14 : ∀ (a0 : Nat) (i1 : Int32) (i2 : Int32) (i3 : Int32) (w : cm_W), sm cm_g 247 ck_247 kq_247 14 [(0, .ref a0), (1, .int i1), (2, .int i2), (3, .int i3)] [] w ((k_14 a0 i1 i2 i3 w).map cm_gB)) (a0 : Nat) (i1 : Int32) (i2 : Int32) (i3 : Int32) (j4 : Int64) (w : cm_W) : sm cm_g 247 ck_247 kq_247 91 [(0, .ref a0), (1, .int i1), (2, .int i2), (3, .int i3), (4, .long j4)] [] w ((fn_247_91 k_14 a0 i1 i2 i3 j4 w).map cm_gB) := by
  unfold fn_247_91
  refine sm_seg 1 92 [(0, .ref a0), (1, .int i1), (2, .int i2), (3, .int i3), (4, .long j4)] [.ref a0] rfl ?_
  refine sm_gd fun h1 => ?_
  refine sm_gR rfl h1 rfl rfl fun r2 h3 => ?_
  show sm _ _ _ _ 95 [(0, .ref a0), (1, .int i1), (2, .int i2), (3, .int i3), (4, .long j4)] [.ref r2] _ _
  refine sm_seg 2 98 [(0, .ref a0), (1, .int i1), (2, .int i2), (3, .int i3), (4, .long j4)] [.long j4, .int i3, .ref r2] rfl ?_
  refine sm_gd fun h4 => ?_
  refine sm_gd fun h5 => ?_
  refine sm_sl rfl h4 h5 rfl rfl ?_
  show sm _ _ _ _ 99 [(0, .ref a0), (1, .int i1), (2, .int i2), (3, .int i3), (4, .long j4)] [] _ _
  refine sm_seg 2 101 [(0, .ref a0), (1, .int i1), (2, .int i2), (3, .int i3), (4, .long j4)] [.ref a0, .ref a0] rfl ?_
  refine sm_gL rfl h1 rfl ?_
  show sm _ _ _ _ 104 [(0, .ref a0), (1, .int i1), (2, .int i2), (3, .int i3), (4, .long j4)] [.long (cm_L (cm_sL w r2 i3.toNatClampNeg j4) a0 50), .ref a0] _ _
  refine sm_seg 2 107 [(0, .ref a0), (1, .int i1), (2, .int i2), (3, .int i3), (4, .long j4)] [.long ((cm_L (cm_sL w r2 i3.toNatClampNeg j4) a0 50) + j4), .ref a0] rfl ?_
  refine sm_gd fun h6 => ?_
  refine sm_pL rfl h1 rfl h6 rfl ?_
  show sm _ _ _ _ 110 [(0, .ref a0), (1, .int i1), (2, .int i2), (3, .int i3), (4, .long j4)] [] _ _
  refine sm_seg 2 14 [(0, .ref a0), (1, .int i1), (2, .int i2), (3, .int (i3 + (1 : Int32)))] [] rfl ?_
  exact hk_14 a0 i1 i2 (i3 + (1 : Int32)) (cm_sL (cm_sL w r2 i3.toNatClampNeg j4) a0 50 ((cm_L (cm_sL w r2 i3.toNatClampNeg j4) a0 50) + j4))
def fn_247_45 (k_14 : Nat → Int32 → Int32 → Int32 → cm_W → Option (Bool × cm_W)) : Nat → Nat → Int32 → Int32 → Int32 → Int64 → Int32 → cm_W → Option (Bool × cm_W)
  | 0, _, _, _, _, _, _, _ => none
  | n + 1, a0, i1, i2, i3, j4, i6, w => (if cm_sh w a0 = some (.inl 11) then (if (cm_I w a0 39) ≤ i6 then fn_247_91  k_14 a0 i1 i2 i3 j4 w else (cm_R w a0 48).bind fun r9 => (if cm_ga w .int r9 ((7 : Int32) * i6) = true then (if ¬ (cm_I w r9 ((7 : Int32) * i6).toNatClampNeg) = i1 then fn_247_85  k_14 (fn_247_45 k_14 n) a0 i1 i2 i3 j4 i6 w else (fn_246 w a0 i6 i3).bind fun v13 => fn_247_85  k_14 (fn_247_45 k_14 n) a0 i1 i2 i3 ((j4 * (Int32.toInt64 v13)) / (10 : Int64)) i6 w) else none)) else none)
theorem jt_247_45 (k_14 : Nat → Int32 → Int32 → Int32 → cm_W → Option (Bool × cm_W)) (hk_14 : ∀ (a0 : Nat) (i1 : Int32) (i2 : Int32) (i3 : Int32) (w : cm_W), sm cm_g 247 ck_247 kq_247 14 [(0, .ref a0), (1, .int i1), (2, .int i2), (3, .int i3)] [] w ((k_14 a0 i1 i2 i3 w).map cm_gB)) : ∀ (n : Nat) (a0 : Nat) (i1 : Int32) (i2 : Int32) (i3 : Int32) (j4 : Int64) (i6 : Int32) (w : cm_W), sm cm_g 247 ck_247 kq_247 45 [(0, .ref a0), (1, .int i1), (2, .int i2), (3, .int i3), (4, .long j4), (6, .int i6)] [] w ((fn_247_45 k_14 n a0 i1 i2 i3 j4 i6 w).map cm_gB) := by
  intro n
  induction n with
  | zero => intro a0 i1 i2 i3 j4 i6 w; exact sm_no
  | succ n ih =>
    intro a0 i1 i2 i3 j4 i6 w
    rw [fn_247_45]
    refine sm_seg 2 48 [(0, .ref a0), (1, .int i1), (2, .int i2), (3, .int i3), (4, .long j4), (6, .int i6)] [.ref a0, .int i6] rfl ?_
    refine sm_gd fun h7 => ?_
    refine sm_gI rfl h7 rfl ?_
    show sm _ _ _ _ 51 [(0, .ref a0), (1, .int i1), (2, .int i2), (3, .int i3), (4, .long j4), (6, .int i6)] [.int (cm_I w a0 39), .int i6] _ _
    refine sm_if (pc1 := 91) (lv1 := [(0, .ref a0), (1, .int i1), (2, .int i2), (3, .int i3), (4, .long j4)]) (pc2 := 54) (lv2 := [(0, .ref a0), (1, .int i1), (2, .int i2), (3, .int i3), (4, .long j4), (6, .int i6)]) (st1 := []) rfl rfl rfl (fun h8 => ?_) (fun h8 => ?_)
    · exact jt_247_91  k_14 hk_14 a0 i1 i2 i3 j4 w
    · refine sm_seg 1 55 [(0, .ref a0), (1, .int i1), (2, .int i2), (3, .int i3), (4, .long j4), (6, .int i6)] [.ref a0] rfl ?_
      refine sm_gR rfl h7 rfl rfl fun r9 h10 => ?_
      show sm _ _ _ _ 58 [(0, .ref a0), (1, .int i1), (2, .int i2), (3, .int i3), (4, .long j4), (6, .int i6)] [.ref r9] _ _
      refine sm_seg 3 63 [(0, .ref a0), (1, .int i1), (2, .int i2), (3, .int i3), (4, .long j4), (6, .int i6)] [.int ((7 : Int32) * i6), .ref r9] rfl ?_
      refine sm_gd fun h11 => ?_
      refine sm_ai rfl h11 rfl ?_
      show sm _ _ _ _ 64 [(0, .ref a0), (1, .int i1), (2, .int i2), (3, .int i3), (4, .long j4), (6, .int i6)] [.int (cm_I w r9 ((7 : Int32) * i6).toNatClampNeg)] _ _
      refine sm_seg 1 65 [(0, .ref a0), (1, .int i1), (2, .int i2), (3, .int i3), (4, .long j4), (6, .int i6)] [.int i1, .int (cm_I w r9 ((7 : Int32) * i6).toNatClampNeg)] rfl ?_
      refine sm_if (pc1 := 85) (lv1 := [(0, .ref a0), (1, .int i1), (2, .int i2), (3, .int i3), (4, .long j4), (6, .int i6)]) (pc2 := 68) (lv2 := [(0, .ref a0), (1, .int i1), (2, .int i2), (3, .int i3), (4, .long j4), (6, .int i6)]) (st1 := []) rfl rfl rfl (fun h12 => ?_) (fun h12 => ?_)
      · exact jt_247_85  k_14 (fn_247_45 k_14 n) hk_14 ih a0 i1 i2 i3 j4 i6 w
      · refine sm_seg 4 74 [(0, .ref a0), (1, .int i1), (2, .int i2), (3, .int i3), (4, .long j4), (6, .int i6)] [.int i3, .int i6, .ref a0, .long j4] rfl ?_
        refine sm_cV (as := [.int i6, .int i3]) (rest := [.long j4]) rfl rfl rfl rfl h7 (Nat.le_of_ble_eq_true rfl) (ca_246 w a0 i6 i3) fun v13 h14 => ?_
        show sm _ _ _ _ 77 [(0, .ref a0), (1, .int i1), (2, .int i2), (3, .int i3), (4, .long j4), (6, .int i6)] [.int v13, .long j4] _ _
        refine sm_seg 5 85 [(0, .ref a0), (1, .int i1), (2, .int i2), (3, .int i3), (4, .long ((j4 * (Int32.toInt64 v13)) / (10 : Int64))), (6, .int i6)] [] rfl ?_
        exact jt_247_85  k_14 (fn_247_45 k_14 n) hk_14 ih a0 i1 i2 i3 ((j4 * (Int32.toInt64 v13)) / (10 : Int64)) i6 w
def fn_247_116 (a0 : Nat) (w : cm_W) : Option (Bool × cm_W) := (if cm_sh w a0 = some (.inl 11) then (if (lg_cmp (cm_L w a0 50) (0 : Int64)) ≤ 0 then some (false, w) else some (true, w)) else none)
theorem jt_247_116 (a0 : Nat) (w : cm_W) : sm cm_g 247 ck_247 kq_247 116 [(0, .ref a0)] [] w ((fn_247_116 a0 w).map cm_gB) := by
  unfold fn_247_116
  refine sm_seg 1 117 [(0, .ref a0)] [.ref a0] rfl ?_
  refine sm_gd fun h15 => ?_
  refine sm_gL rfl h15 rfl ?_
  show sm _ _ _ _ 120 [(0, .ref a0)] [.long (cm_L w a0 50)] _ _
  refine sm_seg 2 122 [(0, .ref a0)] [.int (lg_cmp (cm_L w a0 50) (0 : Int64))] rfl ?_
  refine sm_if (pc1 := 129) (lv1 := []) (pc2 := 125) (lv2 := [(0, .ref a0)]) (st1 := []) rfl rfl rfl (fun h16 => ?_) (fun h16 => ?_)
  · refine sm_seg 1 130 [] [.int (0 : Int32)] rfl ?_
    exact sm_rBW (b := false) rfl rfl
  · refine sm_seg 2 130 [] [.int (1 : Int32)] rfl ?_
    exact sm_rBW (b := true) rfl rfl
def fn_247_14 : Nat → Nat → Int32 → Int32 → Int32 → cm_W → Option (Bool × cm_W)
  | 0, _, _, _, _, _ => none
  | n + 1, a0, i1, i2, i3, w => (if cm_sh w a0 = some (.inl 11) then (if (cm_I w a0 1) ≤ i3 then fn_247_116  a0 w else (fn_228 w a0 i2 i3).bind fun v19 => (fn_229 w a0 i2).bind fun v21 => (if ¬ (Int32.toInt64 v21) = 0 then fn_247_45  (fn_247_14 n) cm_N a0 i1 i2 i3 (((100000000000000 : Int64) * (Int32.toInt64 v19)) / (Int32.toInt64 v21)) (0 : Int32) w else none)) else none)
theorem jt_247_14 : ∀ (n : Nat) (a0 : Nat) (i1 : Int32) (i2 : Int32) (i3 : Int32) (w : cm_W), sm cm_g 247 ck_247 kq_247 14 [(0, .ref a0), (1, .int i1), (2, .int i2), (3, .int i3)] [] w ((fn_247_14 n a0 i1 i2 i3 w).map cm_gB) := by
  intro n
  induction n with
  | zero => intro a0 i1 i2 i3 w; exact sm_no
  | succ n ih =>
    intro a0 i1 i2 i3 w
    rw [fn_247_14]
    refine sm_seg 2 16 [(0, .ref a0), (1, .int i1), (2, .int i2), (3, .int i3)] [.ref a0, .int i3] rfl ?_
    refine sm_gd fun h17 => ?_
    refine sm_gI rfl h17 rfl ?_
    show sm _ _ _ _ 19 [(0, .ref a0), (1, .int i1), (2, .int i2), (3, .int i3)] [.int (cm_I w a0 1), .int i3] _ _
    refine sm_if (pc1 := 116) (lv1 := [(0, .ref a0)]) (pc2 := 22) (lv2 := [(0, .ref a0), (1, .int i1), (2, .int i2), (3, .int i3)]) (st1 := []) rfl rfl rfl (fun h18 => ?_) (fun h18 => ?_)
    · exact jt_247_116  a0 w
    · refine sm_seg 4 28 [(0, .ref a0), (1, .int i1), (2, .int i2), (3, .int i3)] [.int i3, .int i2, .ref a0, .long (100000000000000 : Int64)] rfl ?_
      refine sm_cV (as := [.int i2, .int i3]) (rest := [.long (100000000000000 : Int64)]) rfl rfl rfl rfl h17 (Nat.le_of_ble_eq_true rfl) (ca_228 w a0 i2 i3) fun v19 h20 => ?_
      show sm _ _ _ _ 31 [(0, .ref a0), (1, .int i1), (2, .int i2), (3, .int i3)] [.int v19, .long (100000000000000 : Int64)] _ _
      refine sm_seg 4 35 [(0, .ref a0), (1, .int i1), (2, .int i2), (3, .int i3)] [.int i2, .ref a0, .long ((100000000000000 : Int64) * (Int32.toInt64 v19))] rfl ?_
      refine sm_cV (as := [.int i2]) (rest := [.long ((100000000000000 : Int64) * (Int32.toInt64 v19))]) rfl rfl rfl rfl h17 (Nat.le_of_ble_eq_true rfl) (ca_229 w a0 i2) fun v21 h22 => ?_
      show sm _ _ _ _ 38 [(0, .ref a0), (1, .int i1), (2, .int i2), (3, .int i3)] [.int v21, .long ((100000000000000 : Int64) * (Int32.toInt64 v19))] _ _
      refine sm_seg 1 39 [(0, .ref a0), (1, .int i1), (2, .int i2), (3, .int i3)] [.long (Int32.toInt64 v21), .long ((100000000000000 : Int64) * (Int32.toInt64 v19))] rfl ?_
      refine sm_gd fun h23 => ?_
      refine sm_ldiv rfl h23 rfl ?_
      show sm _ _ _ _ 40 [(0, .ref a0), (1, .int i1), (2, .int i2), (3, .int i3)] [.long (((100000000000000 : Int64) * (Int32.toInt64 v19)) / (Int32.toInt64 v21))] _ _
      refine sm_seg 3 45 [(0, .ref a0), (1, .int i1), (2, .int i2), (3, .int i3), (4, .long (((100000000000000 : Int64) * (Int32.toInt64 v19)) / (Int32.toInt64 v21))), (6, .int (0 : Int32))] [] rfl ?_
      exact jt_247_45  (fn_247_14 n) ih cm_N a0 i1 i2 i3 (((100000000000000 : Int64) * (Int32.toInt64 v19)) / (Int32.toInt64 v21)) (0 : Int32) w
def fn_247 (a0 : Nat) (i1 : Int32) (w : cm_W) : Option (Bool × cm_W) := (if cm_sh w a0 = some (.inl 11) then (if cm_w2 96 143 a0 = true then (cm_R (cm_sL w a0 50 (0 : Int64)) a0 40).bind fun r26 => (if cm_ga w .int r26 i1 = true then fn_247_14  cm_N a0 i1 (cm_I (cm_sL w a0 50 (0 : Int64)) r26 i1.toNatClampNeg) (0 : Int32) (cm_sL w a0 50 (0 : Int64)) else none) else none) else none)
theorem jt_247_0 (a0 : Nat) (i1 : Int32) (w : cm_W) : sm cm_g 247 ck_247 kq_247 0 [(0, .ref a0), (1, .int i1)] [] w ((fn_247 a0 i1 w).map cm_gB) := by
  unfold fn_247
  refine sm_seg 2 2 [(0, .ref a0), (1, .int i1)] [.long (0 : Int64), .ref a0] rfl ?_
  refine sm_gd fun h24 => ?_
  refine sm_gd fun h25 => ?_
  refine sm_pL rfl h24 rfl h25 rfl ?_
  show sm _ _ _ _ 5 [(0, .ref a0), (1, .int i1)] [] _ _
  refine sm_seg 1 6 [(0, .ref a0), (1, .int i1)] [.ref a0] rfl ?_
  refine sm_gR rfl h24 rfl rfl fun r26 h27 => ?_
  show sm _ _ _ _ 9 [(0, .ref a0), (1, .int i1)] [.ref r26] _ _
  refine sm_seg 1 10 [(0, .ref a0), (1, .int i1)] [.int i1, .ref r26] rfl ?_
  refine sm_gd fun h28 => ?_
  refine sm_ai rfl h28 rfl ?_
  show sm _ _ _ _ 11 [(0, .ref a0), (1, .int i1)] [.int (cm_I (cm_sL w a0 50 (0 : Int64)) r26 i1.toNatClampNeg)] _ _
  refine sm_seg 3 14 [(0, .ref a0), (1, .int i1), (2, .int (cm_I (cm_sL w a0 50 (0 : Int64)) r26 i1.toNatClampNeg)), (3, .int (0 : Int32))] [] rfl ?_
  exact jt_247_14  cm_N a0 i1 (cm_I (cm_sL w a0 50 (0 : Int64)) r26 i1.toNatClampNeg) (0 : Int32) (cm_sL w a0 50 (0 : Int64))
theorem ca_247 (a0 : Nat) (i1 : Int32) (w : cm_W) : cm_ca cm_g 247 [.ref a0, .int i1] w ((fn_247 a0 i1 w).map cm_gB) := cm_ca_of (cm_me_of rfl rfl) rfl (jt_247_0 a0 i1 w)
-- NailedBoxesModel.think(II)I
def fn_248 (a0 : Nat) (i1 : Int32) (i2 : Int32) (w : cm_W) : Option (Int32 × cm_W) := (if cm_sh w a0 = some (.inl 11) then (fn_233 w a0 i1).bind fun v2 => (if (cm_b v2) = 0 then some ((-1 : Int32), w) else (fn_224 w a0 i2).bind fun v5 => (if (cm_b v5) = 0 then some ((-1 : Int32), w) else (fn_247 a0 i1 w).bind fun v8 => (if (cm_b v8.1) = 0 then some ((-1 : Int32), v8.2) else (if cm_sh v8.2 a0 = some (.inl 11) then (cm_R v8.2 a0 49).bind fun r12 => (if cm_ga v8.2 .long r12 i2 = true then (fn_197 v8.2 (cm_L v8.2 r12 i2.toNatClampNeg) (cm_L v8.2 a0 50) (6 : Int32)).bind fun v15 => some ((Int64.toInt32 v15), v8.2) else none) else none)))) else none)
theorem jt_248_0 (a0 : Nat) (i1 : Int32) (i2 : Int32) (w : cm_W) : sm cm_g 248 ck_248 kq_248 0 [(0, .ref a0), (1, .int i1), (2, .int i2)] [] w ((fn_248 a0 i1 i2 w).map cm_gI) := by
  unfold fn_248
  refine sm_seg 2 2 [(0, .ref a0), (1, .int i1), (2, .int i2)] [.int i1, .ref a0] rfl ?_
  refine sm_gd fun h1 => ?_
  refine sm_cV (as := [.int i1]) (rest := []) rfl rfl rfl rfl h1 (Nat.le_of_ble_eq_true rfl) (ca_233 w a0 i1) fun v2 h3 => ?_
  show sm _ _ _ _ 5 [(0, .ref a0), (1, .int i1), (2, .int i2)] [.int (cm_b v2)] _ _
  refine sm_if (pc1 := 43) (lv1 := []) (pc2 := 8) (lv2 := [(0, .ref a0), (1, .int i1), (2, .int i2)]) (st1 := []) rfl rfl rfl (fun h4 => ?_) (fun h4 => ?_)
  · refine sm_seg 1 44 [] [.int (-1 : Int32)] rfl ?_
    exact sm_rIW rfl rfl
  · refine sm_seg 2 10 [(0, .ref a0), (1, .int i1), (2, .int i2)] [.int i2, .ref a0] rfl ?_
    refine sm_cV (as := [.int i2]) (rest := []) rfl rfl rfl rfl h1 (Nat.le_of_ble_eq_true rfl) (ca_224 w a0 i2) fun v5 h6 => ?_
    show sm _ _ _ _ 13 [(0, .ref a0), (1, .int i1), (2, .int i2)] [.int (cm_b v5)] _ _
    refine sm_if (pc1 := 43) (lv1 := []) (pc2 := 16) (lv2 := [(0, .ref a0), (1, .int i1), (2, .int i2)]) (st1 := []) rfl rfl rfl (fun h7 => ?_) (fun h7 => ?_)
    · refine sm_seg 1 44 [] [.int (-1 : Int32)] rfl ?_
      exact sm_rIW rfl rfl
    · refine sm_seg 2 18 [(0, .ref a0), (1, .int i1), (2, .int i2)] [.int i1, .ref a0] rfl ?_
      refine sm_cV (as := [.int i1]) (rest := []) rfl rfl rfl rfl h1 (Nat.le_of_ble_eq_true rfl) (ca_247  a0 i1 w) fun v8 h9 => ?_
      show sm _ _ _ _ 21 [(0, .ref a0), (1, .int i1), (2, .int i2)] [.int (cm_b v8.1)] _ _
      refine sm_if (pc1 := 43) (lv1 := []) (pc2 := 24) (lv2 := [(0, .ref a0), (1, .int i1), (2, .int i2)]) (st1 := []) rfl rfl rfl (fun h10 => ?_) (fun h10 => ?_)
      · refine sm_seg 1 44 [] [.int (-1 : Int32)] rfl ?_
        exact sm_rIW rfl rfl
      · refine sm_seg 1 25 [(0, .ref a0), (1, .int i1), (2, .int i2)] [.ref a0] rfl ?_
        refine sm_gd fun h11 => ?_
        refine sm_gR rfl h11 rfl rfl fun r12 h13 => ?_
        show sm _ _ _ _ 28 [(0, .ref a0), (1, .int i1), (2, .int i2)] [.ref r12] _ _
        refine sm_seg 1 29 [(0, .ref a0), (1, .int i1), (2, .int i2)] [.int i2, .ref r12] rfl ?_
        refine sm_gd fun h14 => ?_
        refine sm_al rfl h14 rfl ?_
        show sm _ _ _ _ 30 [(0, .ref a0), (1, .int i1), (2, .int i2)] [.long (cm_L v8.2 r12 i2.toNatClampNeg)] _ _
        refine sm_seg 1 31 [(0, .ref a0), (1, .int i1), (2, .int i2)] [.ref a0, .long (cm_L v8.2 r12 i2.toNatClampNeg)] rfl ?_
        refine sm_gL rfl h11 rfl ?_
        show sm _ _ _ _ 34 [(0, .ref a0), (1, .int i1), (2, .int i2)] [.long (cm_L v8.2 a0 50), .long (cm_L v8.2 r12 i2.toNatClampNeg)] _ _
        refine sm_seg 1 36 [(0, .ref a0), (1, .int i1), (2, .int i2)] [.int (6 : Int32), .long (cm_L v8.2 a0 50), .long (cm_L v8.2 r12 i2.toNatClampNeg)] rfl ?_
        refine sm_cS (av := [.long (cm_L v8.2 r12 i2.toNatClampNeg), .long (cm_L v8.2 a0 50), .int (6 : Int32)]) (rest := []) rfl rfl rfl rfl (Nat.le_of_ble_eq_true rfl) (ca_197 v8.2 (cm_L v8.2 r12 i2.toNatClampNeg) (cm_L v8.2 a0 50) (6 : Int32)) fun v15 h16 => ?_
        show sm _ _ _ _ 39 [(0, .ref a0), (1, .int i1), (2, .int i2)] [.long v15] _ _
        refine sm_seg 2 44 [] [.int (Int64.toInt32 v15)] rfl ?_
        exact sm_rIW rfl rfl
theorem ca_248 (a0 : Nat) (i1 : Int32) (i2 : Int32) (w : cm_W) : cm_ca cm_g 248 [.ref a0, .int i1, .int i2] w ((fn_248 a0 i1 i2 w).map cm_gI) := cm_ca_of (cm_me_of rfl rfl) rfl (jt_248_0 a0 i1 i2 w)
-- NailedBoxesModel.mean(I)I
def fn_249_57 (a0 : Nat) (j2 : Int64) (w : cm_W) : Option (Int32 × cm_W) := (if cm_sh w a0 = some (.inl 11) then (fn_197 w j2 (cm_L w a0 50) (2 : Int32)).bind fun v2 => some ((Int64.toInt32 v2), w) else none)
theorem jt_249_57 (a0 : Nat) (j2 : Int64) (w : cm_W) : sm cm_g 249 ck_249 kq_249 57 [(0, .ref a0), (2, .long j2)] [] w ((fn_249_57 a0 j2 w).map cm_gI) := by
  unfold fn_249_57
  refine sm_seg 2 59 [(0, .ref a0), (2, .long j2)] [.ref a0, .long j2] rfl ?_
  refine sm_gd fun h1 => ?_
  refine sm_gL rfl h1 rfl ?_
  show sm _ _ _ _ 62 [(0, .ref a0), (2, .long j2)] [.long (cm_L w a0 50), .long j2] _ _
  refine sm_seg 1 63 [(0, .ref a0), (2, .long j2)] [.int (2 : Int32), .long (cm_L w a0 50), .long j2] rfl ?_
  refine sm_cS (av := [.long j2, .long (cm_L w a0 50), .int (2 : Int32)]) (rest := []) rfl rfl rfl rfl (Nat.le_of_ble_eq_true rfl) (ca_197 w j2 (cm_L w a0 50) (2 : Int32)) fun v2 h3 => ?_
  show sm _ _ _ _ 66 [(0, .ref a0), (2, .long j2)] [.long v2] _ _
  refine sm_seg 1 67 [(0, .ref a0), (2, .long j2)] [.int (Int64.toInt32 v2)] rfl ?_
  exact sm_rIW rfl rfl
def fn_249_23 : Nat → Nat → Int64 → Int32 → cm_W → Option (Int32 × cm_W)
  | 0, _, _, _, _ => none
  | n + 1, a0, j2, i4, w => (if cm_sh w a0 = some (.inl 11) then (if (cm_I w a0 1) ≤ i4 then fn_249_57  a0 j2 w else (fn_222 w a0 i4 (5 : Int32)).bind fun v6 => (cm_R w a0 49).bind fun r8 => (if cm_ga w .long r8 i4 = true then fn_249_23 n a0 (j2 + ((Int32.toInt64 v6) * (cm_L w r8 i4.toNatClampNeg))) (i4 + (1 : Int32)) w else none)) else none)
theorem jt_249_23 : ∀ (n : Nat) (a0 : Nat) (j2 : Int64) (i4 : Int32) (w : cm_W), sm cm_g 249 ck_249 kq_249 23 [(0, .ref a0), (2, .long j2), (4, .int i4)] [] w ((fn_249_23 n a0 j2 i4 w).map cm_gI) := by
  intro n
  induction n with
  | zero => intro a0 j2 i4 w; exact sm_no
  | succ n ih =>
    intro a0 j2 i4 w
    rw [fn_249_23]
    refine sm_seg 2 26 [(0, .ref a0), (2, .long j2), (4, .int i4)] [.ref a0, .int i4] rfl ?_
    refine sm_gd fun h4 => ?_
    refine sm_gI rfl h4 rfl ?_
    show sm _ _ _ _ 29 [(0, .ref a0), (2, .long j2), (4, .int i4)] [.int (cm_I w a0 1), .int i4] _ _
    refine sm_if (pc1 := 57) (lv1 := [(0, .ref a0), (2, .long j2)]) (pc2 := 32) (lv2 := [(0, .ref a0), (2, .long j2), (4, .int i4)]) (st1 := []) rfl rfl rfl (fun h5 => ?_) (fun h5 => ?_)
    · exact jt_249_57  a0 j2 w
    · refine sm_seg 4 37 [(0, .ref a0), (2, .long j2), (4, .int i4)] [.int (5 : Int32), .int i4, .ref a0, .long j2] rfl ?_
      refine sm_cV (as := [.int i4, .int (5 : Int32)]) (rest := [.long j2]) rfl rfl rfl rfl h4 (Nat.le_of_ble_eq_true rfl) (ca_222 w a0 i4 (5 : Int32)) fun v6 h7 => ?_
      show sm _ _ _ _ 40 [(0, .ref a0), (2, .long j2), (4, .int i4)] [.int v6, .long j2] _ _
      refine sm_seg 2 42 [(0, .ref a0), (2, .long j2), (4, .int i4)] [.ref a0, .long (Int32.toInt64 v6), .long j2] rfl ?_
      refine sm_gR rfl h4 rfl rfl fun r8 h9 => ?_
      show sm _ _ _ _ 45 [(0, .ref a0), (2, .long j2), (4, .int i4)] [.ref r8, .long (Int32.toInt64 v6), .long j2] _ _
      refine sm_seg 1 47 [(0, .ref a0), (2, .long j2), (4, .int i4)] [.int i4, .ref r8, .long (Int32.toInt64 v6), .long j2] rfl ?_
      refine sm_gd fun h10 => ?_
      refine sm_al rfl h10 rfl ?_
      show sm _ _ _ _ 48 [(0, .ref a0), (2, .long j2), (4, .int i4)] [.long (cm_L w r8 i4.toNatClampNeg), .long (Int32.toInt64 v6), .long j2] _ _
      refine sm_seg 5 23 [(0, .ref a0), (2, .long (j2 + ((Int32.toInt64 v6) * (cm_L w r8 i4.toNatClampNeg)))), (4, .int (i4 + (1 : Int32)))] [] rfl ?_
      exact ih a0 (j2 + ((Int32.toInt64 v6) * (cm_L w r8 i4.toNatClampNeg))) (i4 + (1 : Int32)) w
def fn_249_18 (a0 : Nat) (w : cm_W) : Option (Int32 × cm_W) := fn_249_23  cm_N a0 (0 : Int64) (0 : Int32) w
theorem jt_249_18 (a0 : Nat) (w : cm_W) : sm cm_g 249 ck_249 kq_249 18 [(0, .ref a0)] [] w ((fn_249_18 a0 w).map cm_gI) := by
  unfold fn_249_18
  refine sm_seg 4 23 [(0, .ref a0), (2, .long (0 : Int64)), (4, .int (0 : Int32))] [] rfl ?_
  exact jt_249_23  cm_N a0 (0 : Int64) (0 : Int32) w
def fn_249 (a0 : Nat) (i1 : Int32) (w : cm_W) : Option (Int32 × cm_W) := (if cm_sh w a0 = some (.inl 11) then (fn_233 w a0 i1).bind fun v12 => (if (cm_b v12) = 0 then some ((-1 : Int32), w) else (fn_247 a0 i1 w).bind fun v15 => (if ¬ (cm_b v15.1) = 0 then fn_249_18  a0 v15.2 else some ((-1 : Int32), v15.2))) else none)
theorem jt_249_0 (a0 : Nat) (i1 : Int32) (w : cm_W) : sm cm_g 249 ck_249 kq_249 0 [(0, .ref a0), (1, .int i1)] [] w ((fn_249 a0 i1 w).map cm_gI) := by
  unfold fn_249
  refine sm_seg 2 2 [(0, .ref a0), (1, .int i1)] [.int i1, .ref a0] rfl ?_
  refine sm_gd fun h11 => ?_
  refine sm_cV (as := [.int i1]) (rest := []) rfl rfl rfl rfl h11 (Nat.le_of_ble_eq_true rfl) (ca_233 w a0 i1) fun v12 h13 => ?_
  show sm _ _ _ _ 5 [(0, .ref a0), (1, .int i1)] [.int (cm_b v12)] _ _
  refine sm_if (pc1 := 16) (lv1 := []) (pc2 := 8) (lv2 := [(0, .ref a0), (1, .int i1)]) (st1 := []) rfl rfl rfl (fun h14 => ?_) (fun h14 => ?_)
  · refine sm_seg 1 17 [] [.int (-1 : Int32)] rfl ?_
    exact sm_rIW rfl rfl
  · refine sm_seg 2 10 [(0, .ref a0), (1, .int i1)] [.int i1, .ref a0] rfl ?_
    refine sm_cV (as := [.int i1]) (rest := []) rfl rfl rfl rfl h11 (Nat.le_of_ble_eq_true rfl) (ca_247  a0 i1 w) fun v15 h16 => ?_
    show sm _ _ _ _ 13 [(0, .ref a0), (1, .int i1)] [.int (cm_b v15.1)] _ _
    refine sm_if (pc1 := 18) (lv1 := [(0, .ref a0)]) (pc2 := 16) (lv2 := []) (st1 := []) rfl rfl rfl (fun h17 => ?_) (fun h17 => ?_)
    · exact jt_249_18  a0 v15.2
    · refine sm_seg 1 17 [] [.int (-1 : Int32)] rfl ?_
      exact sm_rIW rfl rfl
theorem ca_249 (a0 : Nat) (i1 : Int32) (w : cm_W) : cm_ca cm_g 249 [.ref a0, .int i1] w ((fn_249 a0 i1 w).map cm_gI) := cm_ca_of (cm_me_of rfl rfl) rfl (jt_249_0 a0 i1 w)
-- NailedBoxesModel.holds(III)Z
def fn_250_26 (a0 : Nat) (w : cm_W) : Option (Bool × cm_W) := (if cm_sh w a0 = some (.inl 11) then (fn_198 a0 (0 : Int32) w).bind fun v2 => some (v2.1, v2.2) else none)
theorem jt_250_26 (a0 : Nat) (w : cm_W) : sm cm_g 250 ck_250 kq_250 26 [(0, .ref a0)] [] w ((fn_250_26 a0 w).map cm_gB) := by
  unfold fn_250_26
  refine sm_seg 2 28 [(0, .ref a0)] [.int (0 : Int32), .ref a0] rfl ?_
  refine sm_gd fun h1 => ?_
  refine sm_cV (as := [.int (0 : Int32)]) (rest := []) rfl rfl rfl rfl h1 (Nat.le_of_ble_eq_true rfl) (ca_198  a0 (0 : Int32) w) fun v2 h3 => ?_
  show sm _ _ _ _ 31 [(0, .ref a0)] [.int (cm_b v2.1)] _ _
  exact sm_rBW (b := v2.1) rfl rfl
def fn_250_93 (a0 : Nat) (i1 : Int32) (i2 : Int32) (i3 : Int32) (w : cm_W) : Option (Bool × cm_W) := (if cm_sh w a0 = some (.inl 11) then (cm_R w a0 47).bind fun r5 => (if cm_ga w .int r5 (((12 : Int32) * i1) + i2) = true then (if cm_w2 96 143 r5 = true then some (true, (cm_sI w r5 (((12 : Int32) * i1) + i2).toNatClampNeg i3)) else none) else none) else none)
theorem jt_250_93 (a0 : Nat) (i1 : Int32) (i2 : Int32) (i3 : Int32) (w : cm_W) : sm cm_g 250 ck_250 kq_250 93 [(0, .ref a0), (1, .int i1), (2, .int i2), (3, .int i3)] [] w ((fn_250_93 a0 i1 i2 i3 w).map cm_gB) := by
  unfold fn_250_93
  refine sm_seg 1 94 [(0, .ref a0), (1, .int i1), (2, .int i2), (3, .int i3)] [.ref a0] rfl ?_
  refine sm_gd fun h4 => ?_
  refine sm_gR rfl h4 rfl rfl fun r5 h6 => ?_
  show sm _ _ _ _ 97 [(0, .ref a0), (1, .int i1), (2, .int i2), (3, .int i3)] [.ref r5] _ _
  refine sm_seg 6 104 [(0, .ref a0), (1, .int i1), (2, .int i2), (3, .int i3)] [.int i3, .int (((12 : Int32) * i1) + i2), .ref r5] rfl ?_
  refine sm_gd fun h7 => ?_
  refine sm_gd fun h8 => ?_
  refine sm_si rfl h7 h8 rfl rfl ?_
  show sm _ _ _ _ 105 [(0, .ref a0), (1, .int i1), (2, .int i2), (3, .int i3)] [] _ _
  refine sm_seg 1 106 [(0, .ref a0), (1, .int i1), (2, .int i2), (3, .int i3)] [.int (1 : Int32)] rfl ?_
  exact sm_rBW (b := true) rfl rfl
def fn_250_80 (a0 : Nat) (i1 : Int32) (i2 : Int32) (i3 : Int32) (i4 : Int32) (w : cm_W) : Option (Bool × cm_W) := (if i4 ≤ (100 : Int32) then fn_250_93  a0 i1 i2 i3 w else (if cm_sh w a0 = some (.inl 11) then (fn_198 a0 (0 : Int32) w).bind fun v11 => some (v11.1, v11.2) else none))
theorem jt_250_80 (a0 : Nat) (i1 : Int32) (i2 : Int32) (i3 : Int32) (i4 : Int32) (w : cm_W) : sm cm_g 250 ck_250 kq_250 80 [(0, .ref a0), (1, .int i1), (2, .int i2), (3, .int i3), (4, .int i4)] [] w ((fn_250_80 a0 i1 i2 i3 i4 w).map cm_gB) := by
  unfold fn_250_80
  refine sm_seg 2 84 [(0, .ref a0), (1, .int i1), (2, .int i2), (3, .int i3), (4, .int i4)] [.int (100 : Int32), .int i4] rfl ?_
  refine sm_if (pc1 := 93) (lv1 := [(0, .ref a0), (1, .int i1), (2, .int i2), (3, .int i3)]) (pc2 := 87) (lv2 := [(0, .ref a0), (1, .int i1), (2, .int i2), (3, .int i3), (4, .int i4)]) (st1 := []) rfl rfl rfl (fun h9 => ?_) (fun h9 => ?_)
  · exact jt_250_93  a0 i1 i2 i3 w
  · refine sm_seg 2 89 [(0, .ref a0), (1, .int i1), (2, .int i2), (3, .int i3), (4, .int i4)] [.int (0 : Int32), .ref a0] rfl ?_
    refine sm_gd fun h10 => ?_
    refine sm_cV (as := [.int (0 : Int32)]) (rest := []) rfl rfl rfl rfl h10 (Nat.le_of_ble_eq_true rfl) (ca_198  a0 (0 : Int32) w) fun v11 h12 => ?_
    show sm _ _ _ _ 92 [(0, .ref a0), (1, .int i1), (2, .int i2), (3, .int i3), (4, .int i4)] [.int (cm_b v11.1)] _ _
    exact sm_rBW (b := v11.1) rfl rfl
def fn_250_38 : Nat → Nat → Int32 → Int32 → Int32 → Int32 → Int32 → cm_W → Option (Bool × cm_W)
  | 0, _, _, _, _, _, _, _ => none
  | n + 1, a0, i1, i2, i3, i4, i5, w => (if cm_sh w a0 = some (.inl 11) then (if (cm_I w a0 2) ≤ i5 then fn_250_80  a0 i1 i2 i3 i4 w else (if ¬ i5 = i2 then (cm_R w a0 47).bind fun r16 => (if cm_ga w .int r16 (((12 : Int32) * i1) + i5) = true then fn_250_38 n a0 i1 i2 i3 (i4 + (cm_I w r16 (((12 : Int32) * i1) + i5).toNatClampNeg)) (i5 + (1 : Int32)) w else none) else fn_250_38 n a0 i1 i2 i3 (i4 + (0 : Int32)) (i5 + (1 : Int32)) w)) else none)
theorem jt_250_38 : ∀ (n : Nat) (a0 : Nat) (i1 : Int32) (i2 : Int32) (i3 : Int32) (i4 : Int32) (i5 : Int32) (w : cm_W), sm cm_g 250 ck_250 kq_250 38 [(0, .ref a0), (1, .int i1), (2, .int i2), (3, .int i3), (4, .int i4), (5, .int i5)] [] w ((fn_250_38 n a0 i1 i2 i3 i4 i5 w).map cm_gB) := by
  intro n
  induction n with
  | zero => intro a0 i1 i2 i3 i4 i5 w; exact sm_no
  | succ n ih =>
    intro a0 i1 i2 i3 i4 i5 w
    rw [fn_250_38]
    refine sm_seg 2 41 [(0, .ref a0), (1, .int i1), (2, .int i2), (3, .int i3), (4, .int i4), (5, .int i5)] [.ref a0, .int i5] rfl ?_
    refine sm_gd fun h13 => ?_
    refine sm_gI rfl h13 rfl ?_
    show sm _ _ _ _ 44 [(0, .ref a0), (1, .int i1), (2, .int i2), (3, .int i3), (4, .int i4), (5, .int i5)] [.int (cm_I w a0 2), .int i5] _ _
    refine sm_if (pc1 := 80) (lv1 := [(0, .ref a0), (1, .int i1), (2, .int i2), (3, .int i3), (4, .int i4)]) (pc2 := 47) (lv2 := [(0, .ref a0), (1, .int i1), (2, .int i2), (3, .int i3), (4, .int i4), (5, .int i5)]) (st1 := []) rfl rfl rfl (fun h14 => ?_) (fun h14 => ?_)
    · exact jt_250_80  a0 i1 i2 i3 i4 w
    · refine sm_seg 3 52 [(0, .ref a0), (1, .int i1), (2, .int i2), (3, .int i3), (4, .int i4), (5, .int i5)] [.int i2, .int i5, .int i4] rfl ?_
      refine sm_if (pc1 := 59) (lv1 := [(0, .ref a0), (1, .int i1), (2, .int i2), (3, .int i3), (5, .int i5)]) (pc2 := 55) (lv2 := [(0, .ref a0), (1, .int i1), (2, .int i2), (3, .int i3), (4, .int i4), (5, .int i5)]) (st1 := [.int i4]) rfl rfl rfl (fun h15 => ?_) (fun h15 => ?_)
      · refine sm_seg 1 60 [(0, .ref a0), (1, .int i1), (2, .int i2), (3, .int i3), (5, .int i5)] [.ref a0, .int i4] rfl ?_
        refine sm_gR rfl h13 rfl rfl fun r16 h17 => ?_
        show sm _ _ _ _ 63 [(0, .ref a0), (1, .int i1), (2, .int i2), (3, .int i3), (5, .int i5)] [.ref r16, .int i4] _ _
        refine sm_seg 5 70 [(0, .ref a0), (1, .int i1), (2, .int i2), (3, .int i3), (5, .int i5)] [.int (((12 : Int32) * i1) + i5), .ref r16, .int i4] rfl ?_
        refine sm_gd fun h18 => ?_
        refine sm_ai rfl h18 rfl ?_
        show sm _ _ _ _ 71 [(0, .ref a0), (1, .int i1), (2, .int i2), (3, .int i3), (5, .int i5)] [.int (cm_I w r16 (((12 : Int32) * i1) + i5).toNatClampNeg), .int i4] _ _
        refine sm_seg 4 38 [(0, .ref a0), (1, .int i1), (2, .int i2), (3, .int i3), (4, .int (i4 + (cm_I w r16 (((12 : Int32) * i1) + i5).toNatClampNeg))), (5, .int (i5 + (1 : Int32)))] [] rfl ?_
        exact ih a0 i1 i2 i3 (i4 + (cm_I w r16 (((12 : Int32) * i1) + i5).toNatClampNeg)) (i5 + (1 : Int32)) w
      · refine sm_seg 6 38 [(0, .ref a0), (1, .int i1), (2, .int i2), (3, .int i3), (4, .int (i4 + (0 : Int32))), (5, .int (i5 + (1 : Int32)))] [] rfl ?_
        exact ih a0 i1 i2 i3 (i4 + (0 : Int32)) (i5 + (1 : Int32)) w
def fn_250_32 (a0 : Nat) (i1 : Int32) (i2 : Int32) (i3 : Int32) (w : cm_W) : Option (Bool × cm_W) := fn_250_38  cm_N a0 i1 i2 i3 i3 (0 : Int32) w
theorem jt_250_32 (a0 : Nat) (i1 : Int32) (i2 : Int32) (i3 : Int32) (w : cm_W) : sm cm_g 250 ck_250 kq_250 32 [(0, .ref a0), (1, .int i1), (2, .int i2), (3, .int i3)] [] w ((fn_250_32 a0 i1 i2 i3 w).map cm_gB) := by
  unfold fn_250_32
  refine sm_seg 4 38 [(0, .ref a0), (1, .int i1), (2, .int i2), (3, .int i3), (4, .int i3), (5, .int (0 : Int32))] [] rfl ?_
  exact jt_250_38  cm_N a0 i1 i2 i3 i3 (0 : Int32) w
def fn_250 (a0 : Nat) (i1 : Int32) (i2 : Int32) (i3 : Int32) (w : cm_W) : Option (Bool × cm_W) := (if cm_sh w a0 = some (.inl 11) then (fn_233 w a0 i1).bind fun v20 => (if (cm_b v20) = 0 then fn_250_26  a0 w else (fn_225 w a0 i2).bind fun v23 => (if (cm_b v23) = 0 then fn_250_26  a0 w else (fn_194 w i3 (0 : Int32) (100 : Int32)).bind fun v26 => (if ¬ (cm_b v26) = 0 then fn_250_32  a0 i1 i2 i3 w else fn_250_26  a0 w))) else none)
theorem jt_250_0 (a0 : Nat) (i1 : Int32) (i2 : Int32) (i3 : Int32) (w : cm_W) : sm cm_g 250 ck_250 kq_250 0 [(0, .ref a0), (1, .int i1), (2, .int i2), (3, .int i3)] [] w ((fn_250 a0 i1 i2 i3 w).map cm_gB) := by
  unfold fn_250
  refine sm_seg 2 2 [(0, .ref a0), (1, .int i1), (2, .int i2), (3, .int i3)] [.int i1, .ref a0] rfl ?_
  refine sm_gd fun h19 => ?_
  refine sm_cV (as := [.int i1]) (rest := []) rfl rfl rfl rfl h19 (Nat.le_of_ble_eq_true rfl) (ca_233 w a0 i1) fun v20 h21 => ?_
  show sm _ _ _ _ 5 [(0, .ref a0), (1, .int i1), (2, .int i2), (3, .int i3)] [.int (cm_b v20)] _ _
  refine sm_if (pc1 := 26) (lv1 := [(0, .ref a0)]) (pc2 := 8) (lv2 := [(0, .ref a0), (1, .int i1), (2, .int i2), (3, .int i3)]) (st1 := []) rfl rfl rfl (fun h22 => ?_) (fun h22 => ?_)
  · exact jt_250_26  a0 w
  · refine sm_seg 2 10 [(0, .ref a0), (1, .int i1), (2, .int i2), (3, .int i3)] [.int i2, .ref a0] rfl ?_
    refine sm_cV (as := [.int i2]) (rest := []) rfl rfl rfl rfl h19 (Nat.le_of_ble_eq_true rfl) (ca_225 w a0 i2) fun v23 h24 => ?_
    show sm _ _ _ _ 13 [(0, .ref a0), (1, .int i1), (2, .int i2), (3, .int i3)] [.int (cm_b v23)] _ _
    refine sm_if (pc1 := 26) (lv1 := [(0, .ref a0)]) (pc2 := 16) (lv2 := [(0, .ref a0), (1, .int i1), (2, .int i2), (3, .int i3)]) (st1 := []) rfl rfl rfl (fun h25 => ?_) (fun h25 => ?_)
    · exact jt_250_26  a0 w
    · refine sm_seg 3 20 [(0, .ref a0), (1, .int i1), (2, .int i2), (3, .int i3)] [.int (100 : Int32), .int (0 : Int32), .int i3] rfl ?_
      refine sm_cS (av := [.int i3, .int (0 : Int32), .int (100 : Int32)]) (rest := []) rfl rfl rfl rfl (Nat.le_of_ble_eq_true rfl) (ca_194 w i3 (0 : Int32) (100 : Int32)) fun v26 h27 => ?_
      show sm _ _ _ _ 23 [(0, .ref a0), (1, .int i1), (2, .int i2), (3, .int i3)] [.int (cm_b v26)] _ _
      refine sm_if (pc1 := 32) (lv1 := [(0, .ref a0), (1, .int i1), (2, .int i2), (3, .int i3)]) (pc2 := 26) (lv2 := [(0, .ref a0)]) (st1 := []) rfl rfl rfl (fun h28 => ?_) (fun h28 => ?_)
      · exact jt_250_32  a0 i1 i2 i3 w
      · exact jt_250_26  a0 w
theorem ca_250 (a0 : Nat) (i1 : Int32) (i2 : Int32) (i3 : Int32) (w : cm_W) : cm_ca cm_g 250 [.ref a0, .int i1, .int i2, .int i3] w ((fn_250 a0 i1 i2 i3 w).map cm_gB) := cm_ca_of (cm_me_of rfl rfl) rfl (jt_250_0 a0 i1 i2 i3 w)
