def fn_300_1773 (k_18 : Nat → Nat → Nat → Int32 → cm_W → Option (Bool × cm_W)) (a0 : Nat) (a1 : Nat) (a2 : Nat) (i3 : Int32) (w : cm_W) : Option (Bool × cm_W) := k_18 a0 a1 a2 (i3 + (6 : Int32)) w
theorem jt_300_1773 (k_18 : Nat → Nat → Nat → Int32 → cm_W → Option (Bool × cm_W)) (hk_18 : ∀ (a0 : Nat) (a1 : Nat) (a2 : Nat) (i3 : Int32) (w : cm_W), sm cm_g 300 ck_300 kq_300 18 [(0, .ref a0), (1, .ref a1), (2, .ref a2), (3, .int i3)] [] w ((k_18 a0 a1 a2 i3 w).map cm_gB)) (a0 : Nat) (a1 : Nat) (a2 : Nat) (i3 : Int32) (w : cm_W) : sm cm_g 300 ck_300 kq_300 1773 [(0, .ref a0), (1, .ref a1), (2, .ref a2), (3, .int i3)] [] w ((fn_300_1773 k_18 a0 a1 a2 i3 w).map cm_gB) := by
  unfold fn_300_1773
  refine sm_seg 2 18 [(0, .ref a0), (1, .ref a1), (2, .ref a2), (3, .int (i3 + (6 : Int32)))] [] rfl ?_
  exact hk_18 a0 a1 a2 (i3 + (6 : Int32)) w
def fn_300_291 (k_18 : Nat → Nat → Nat → Int32 → cm_W → Option (Bool × cm_W)) (a0 : Nat) (a1 : Nat) (a2 : Nat) (i3 : Int32) (w : cm_W) : Option (Bool × cm_W) := (if cm_ga w .int a0 (i3 + (1 : Int32)) = true then (if cm_sh w a1 = some (.inl 10) then (fn_141 a1 (cm_I w a0 (i3 + (1 : Int32)).toNatClampNeg) w).bind fun v3 => (if cm_ga v3.2 .int a0 (i3 + (1 : Int32)) = true then (if cm_sh v3.2 a2 = some (.inl 11) then (fn_220 a2 (cm_I v3.2 a0 (i3 + (1 : Int32)).toNatClampNeg) v3.2).bind fun v7 => (if v3.1 = v7.1 then fn_300_1773  k_18 a0 a1 a2 i3 v7.2 else some (false, v7.2)) else none) else none) else none) else none)
theorem jt_300_291 (k_18 : Nat → Nat → Nat → Int32 → cm_W → Option (Bool × cm_W)) (hk_18 : ∀ (a0 : Nat) (a1 : Nat) (a2 : Nat) (i3 : Int32) (w : cm_W), sm cm_g 300 ck_300 kq_300 18 [(0, .ref a0), (1, .ref a1), (2, .ref a2), (3, .int i3)] [] w ((k_18 a0 a1 a2 i3 w).map cm_gB)) (a0 : Nat) (a1 : Nat) (a2 : Nat) (i3 : Int32) (w : cm_W) : sm cm_g 300 ck_300 kq_300 291 [(0, .ref a0), (1, .ref a1), (2, .ref a2), (3, .int i3)] [] w ((fn_300_291 k_18 a0 a1 a2 i3 w).map cm_gB) := by
  unfold fn_300_291
  refine sm_seg 5 296 [(0, .ref a0), (1, .ref a1), (2, .ref a2), (3, .int i3)] [.int (i3 + (1 : Int32)), .ref a0, .ref a1] rfl ?_
  refine sm_gd fun h1 => ?_
  refine sm_ai rfl h1 rfl ?_
  show sm _ _ _ _ 297 [(0, .ref a0), (1, .ref a1), (2, .ref a2), (3, .int i3)] [.int (cm_I w a0 (i3 + (1 : Int32)).toNatClampNeg), .ref a1] _ _
  refine sm_gd fun h2 => ?_
  refine sm_cV (as := [.int (cm_I w a0 (i3 + (1 : Int32)).toNatClampNeg)]) (rest := []) rfl rfl rfl rfl h2 (Nat.le_of_ble_eq_true rfl) (ca_141  a1 (cm_I w a0 (i3 + (1 : Int32)).toNatClampNeg) w) fun v3 h4 => ?_
  show sm _ _ _ _ 300 [(0, .ref a0), (1, .ref a1), (2, .ref a2), (3, .int i3)] [.int v3.1] _ _
  refine sm_seg 5 305 [(0, .ref a0), (1, .ref a1), (2, .ref a2), (3, .int i3)] [.int (i3 + (1 : Int32)), .ref a0, .ref a2, .int v3.1] rfl ?_
  refine sm_gd fun h5 => ?_
  refine sm_ai rfl h5 rfl ?_
  show sm _ _ _ _ 306 [(0, .ref a0), (1, .ref a1), (2, .ref a2), (3, .int i3)] [.int (cm_I v3.2 a0 (i3 + (1 : Int32)).toNatClampNeg), .ref a2, .int v3.1] _ _
  refine sm_gd fun h6 => ?_
  refine sm_cV (as := [.int (cm_I v3.2 a0 (i3 + (1 : Int32)).toNatClampNeg)]) (rest := [.int v3.1]) rfl rfl rfl rfl h6 (Nat.le_of_ble_eq_true rfl) (ca_220  a2 (cm_I v3.2 a0 (i3 + (1 : Int32)).toNatClampNeg) v3.2) fun v7 h8 => ?_
  show sm _ _ _ _ 309 [(0, .ref a0), (1, .ref a1), (2, .ref a2), (3, .int i3)] [.int v7.1, .int v3.1] _ _
  refine sm_if (pc1 := 1773) (lv1 := [(0, .ref a0), (1, .ref a1), (2, .ref a2), (3, .int i3)]) (pc2 := 312) (lv2 := [(0, .ref a0), (1, .ref a1), (2, .ref a2), (3, .int i3)]) (st1 := []) rfl rfl rfl (fun h9 => ?_) (fun h9 => ?_)
  · exact jt_300_1773  k_18 hk_18 a0 a1 a2 i3 v7.2
  · refine sm_seg 1 313 [(0, .ref a0), (1, .ref a1), (2, .ref a2), (3, .int i3)] [.int (0 : Int32)] rfl ?_
    exact sm_rBW (b := false) rfl rfl
def fn_300_314 (k_18 : Nat → Nat → Nat → Int32 → cm_W → Option (Bool × cm_W)) (a0 : Nat) (a1 : Nat) (a2 : Nat) (i3 : Int32) (w : cm_W) : Option (Bool × cm_W) := (if cm_sh w a1 = some (.inl 10) then (fn_142 w a1).bind fun v11 => (if cm_sh w a2 = some (.inl 11) then (fn_221 w a2).bind fun v14 => (if v11 = v14 then fn_300_1773  k_18 a0 a1 a2 i3 w else some (false, w)) else none) else none)
theorem jt_300_314 (k_18 : Nat → Nat → Nat → Int32 → cm_W → Option (Bool × cm_W)) (hk_18 : ∀ (a0 : Nat) (a1 : Nat) (a2 : Nat) (i3 : Int32) (w : cm_W), sm cm_g 300 ck_300 kq_300 18 [(0, .ref a0), (1, .ref a1), (2, .ref a2), (3, .int i3)] [] w ((k_18 a0 a1 a2 i3 w).map cm_gB)) (a0 : Nat) (a1 : Nat) (a2 : Nat) (i3 : Int32) (w : cm_W) : sm cm_g 300 ck_300 kq_300 314 [(0, .ref a0), (1, .ref a1), (2, .ref a2), (3, .int i3)] [] w ((fn_300_314 k_18 a0 a1 a2 i3 w).map cm_gB) := by
  unfold fn_300_314
  refine sm_seg 1 315 [(0, .ref a0), (1, .ref a1), (2, .ref a2), (3, .int i3)] [.ref a1] rfl ?_
  refine sm_gd fun h10 => ?_
  refine sm_cV (as := []) (rest := []) rfl rfl rfl rfl h10 (Nat.le_of_ble_eq_true rfl) (ca_142 w a1) fun v11 h12 => ?_
  show sm _ _ _ _ 318 [(0, .ref a0), (1, .ref a1), (2, .ref a2), (3, .int i3)] [.int v11] _ _
  refine sm_seg 1 319 [(0, .ref a0), (1, .ref a1), (2, .ref a2), (3, .int i3)] [.ref a2, .int v11] rfl ?_
  refine sm_gd fun h13 => ?_
  refine sm_cV (as := []) (rest := [.int v11]) rfl rfl rfl rfl h13 (Nat.le_of_ble_eq_true rfl) (ca_221 w a2) fun v14 h15 => ?_
  show sm _ _ _ _ 322 [(0, .ref a0), (1, .ref a1), (2, .ref a2), (3, .int i3)] [.int v14, .int v11] _ _
  refine sm_if (pc1 := 1773) (lv1 := [(0, .ref a0), (1, .ref a1), (2, .ref a2), (3, .int i3)]) (pc2 := 325) (lv2 := [(0, .ref a0), (1, .ref a1), (2, .ref a2), (3, .int i3)]) (st1 := []) rfl rfl rfl (fun h16 => ?_) (fun h16 => ?_)
  · exact jt_300_1773  k_18 hk_18 a0 a1 a2 i3 w
  · refine sm_seg 1 326 [(0, .ref a0), (1, .ref a1), (2, .ref a2), (3, .int i3)] [.int (0 : Int32)] rfl ?_
    exact sm_rBW (b := false) rfl rfl
def fn_300_327 (k_18 : Nat → Nat → Nat → Int32 → cm_W → Option (Bool × cm_W)) (a0 : Nat) (a1 : Nat) (a2 : Nat) (i3 : Int32) (w : cm_W) : Option (Bool × cm_W) := (if cm_ga w .int a0 (i3 + (1 : Int32)) = true then (if cm_ga w .int a0 (i3 + (2 : Int32)) = true then (if cm_sh w a1 = some (.inl 10) then (fn_144 w a1 (cm_I w a0 (i3 + (1 : Int32)).toNatClampNeg) (cm_I w a0 (i3 + (2 : Int32)).toNatClampNeg)).bind fun v20 => (if cm_sh w a2 = some (.inl 11) then (fn_227 w a2 (cm_I w a0 (i3 + (1 : Int32)).toNatClampNeg) (cm_I w a0 (i3 + (2 : Int32)).toNatClampNeg)).bind fun v23 => (if v20 = v23 then fn_300_1773  k_18 a0 a1 a2 i3 w else some (false, w)) else none) else none) else none) else none)
theorem jt_300_327 (k_18 : Nat → Nat → Nat → Int32 → cm_W → Option (Bool × cm_W)) (hk_18 : ∀ (a0 : Nat) (a1 : Nat) (a2 : Nat) (i3 : Int32) (w : cm_W), sm cm_g 300 ck_300 kq_300 18 [(0, .ref a0), (1, .ref a1), (2, .ref a2), (3, .int i3)] [] w ((k_18 a0 a1 a2 i3 w).map cm_gB)) (a0 : Nat) (a1 : Nat) (a2 : Nat) (i3 : Int32) (w : cm_W) : sm cm_g 300 ck_300 kq_300 327 [(0, .ref a0), (1, .ref a1), (2, .ref a2), (3, .int i3)] [] w ((fn_300_327 k_18 a0 a1 a2 i3 w).map cm_gB) := by
  unfold fn_300_327
  refine sm_seg 5 332 [(0, .ref a0), (1, .ref a1), (2, .ref a2), (3, .int i3)] [.int (i3 + (1 : Int32)), .ref a0, .ref a1] rfl ?_
  refine sm_gd fun h17 => ?_
  refine sm_ai rfl h17 rfl ?_
  show sm _ _ _ _ 333 [(0, .ref a0), (1, .ref a1), (2, .ref a2), (3, .int i3)] [.int (cm_I w a0 (i3 + (1 : Int32)).toNatClampNeg), .ref a1] _ _
  refine sm_seg 4 337 [(0, .ref a0), (1, .ref a1), (2, .ref a2), (3, .int i3)] [.int (i3 + (2 : Int32)), .ref a0, .int (cm_I w a0 (i3 + (1 : Int32)).toNatClampNeg), .ref a1] rfl ?_
  refine sm_gd fun h18 => ?_
  refine sm_ai rfl h18 rfl ?_
  show sm _ _ _ _ 338 [(0, .ref a0), (1, .ref a1), (2, .ref a2), (3, .int i3)] [.int (cm_I w a0 (i3 + (2 : Int32)).toNatClampNeg), .int (cm_I w a0 (i3 + (1 : Int32)).toNatClampNeg), .ref a1] _ _
  refine sm_gd fun h19 => ?_
  refine sm_cV (as := [.int (cm_I w a0 (i3 + (1 : Int32)).toNatClampNeg), .int (cm_I w a0 (i3 + (2 : Int32)).toNatClampNeg)]) (rest := []) rfl rfl rfl rfl h19 (Nat.le_of_ble_eq_true rfl) (ca_144 w a1 (cm_I w a0 (i3 + (1 : Int32)).toNatClampNeg) (cm_I w a0 (i3 + (2 : Int32)).toNatClampNeg)) fun v20 h21 => ?_
  show sm _ _ _ _ 341 [(0, .ref a0), (1, .ref a1), (2, .ref a2), (3, .int i3)] [.int v20] _ _
  refine sm_seg 5 346 [(0, .ref a0), (1, .ref a1), (2, .ref a2), (3, .int i3)] [.int (i3 + (1 : Int32)), .ref a0, .ref a2, .int v20] rfl ?_
  refine sm_ai rfl h17 rfl ?_
  show sm _ _ _ _ 347 [(0, .ref a0), (1, .ref a1), (2, .ref a2), (3, .int i3)] [.int (cm_I w a0 (i3 + (1 : Int32)).toNatClampNeg), .ref a2, .int v20] _ _
  refine sm_seg 4 351 [(0, .ref a0), (1, .ref a1), (2, .ref a2), (3, .int i3)] [.int (i3 + (2 : Int32)), .ref a0, .int (cm_I w a0 (i3 + (1 : Int32)).toNatClampNeg), .ref a2, .int v20] rfl ?_
  refine sm_ai rfl h18 rfl ?_
  show sm _ _ _ _ 352 [(0, .ref a0), (1, .ref a1), (2, .ref a2), (3, .int i3)] [.int (cm_I w a0 (i3 + (2 : Int32)).toNatClampNeg), .int (cm_I w a0 (i3 + (1 : Int32)).toNatClampNeg), .ref a2, .int v20] _ _
  refine sm_gd fun h22 => ?_
  refine sm_cV (as := [.int (cm_I w a0 (i3 + (1 : Int32)).toNatClampNeg), .int (cm_I w a0 (i3 + (2 : Int32)).toNatClampNeg)]) (rest := [.int v20]) rfl rfl rfl rfl h22 (Nat.le_of_ble_eq_true rfl) (ca_227 w a2 (cm_I w a0 (i3 + (1 : Int32)).toNatClampNeg) (cm_I w a0 (i3 + (2 : Int32)).toNatClampNeg)) fun v23 h24 => ?_
  show sm _ _ _ _ 355 [(0, .ref a0), (1, .ref a1), (2, .ref a2), (3, .int i3)] [.int v23, .int v20] _ _
  refine sm_if (pc1 := 1773) (lv1 := [(0, .ref a0), (1, .ref a1), (2, .ref a2), (3, .int i3)]) (pc2 := 358) (lv2 := [(0, .ref a0), (1, .ref a1), (2, .ref a2), (3, .int i3)]) (st1 := []) rfl rfl rfl (fun h25 => ?_) (fun h25 => ?_)
  · exact jt_300_1773  k_18 hk_18 a0 a1 a2 i3 w
  · refine sm_seg 1 359 [(0, .ref a0), (1, .ref a1), (2, .ref a2), (3, .int i3)] [.int (0 : Int32)] rfl ?_
    exact sm_rBW (b := false) rfl rfl
def fn_300_360 (k_18 : Nat → Nat → Nat → Int32 → cm_W → Option (Bool × cm_W)) (a0 : Nat) (a1 : Nat) (a2 : Nat) (i3 : Int32) (w : cm_W) : Option (Bool × cm_W) := (if cm_ga w .int a0 (i3 + (1 : Int32)) = true then (if cm_ga w .int a0 (i3 + (2 : Int32)) = true then (if cm_sh w a1 = some (.inl 10) then (fn_145 w a1 (cm_I w a0 (i3 + (1 : Int32)).toNatClampNeg) (cm_I w a0 (i3 + (2 : Int32)).toNatClampNeg)).bind fun v29 => (if cm_sh w a2 = some (.inl 11) then (fn_232 w a2 (cm_I w a0 (i3 + (1 : Int32)).toNatClampNeg) (cm_I w a0 (i3 + (2 : Int32)).toNatClampNeg)).bind fun v32 => (if v29 = v32 then fn_300_1773  k_18 a0 a1 a2 i3 w else some (false, w)) else none) else none) else none) else none)
theorem jt_300_360 (k_18 : Nat → Nat → Nat → Int32 → cm_W → Option (Bool × cm_W)) (hk_18 : ∀ (a0 : Nat) (a1 : Nat) (a2 : Nat) (i3 : Int32) (w : cm_W), sm cm_g 300 ck_300 kq_300 18 [(0, .ref a0), (1, .ref a1), (2, .ref a2), (3, .int i3)] [] w ((k_18 a0 a1 a2 i3 w).map cm_gB)) (a0 : Nat) (a1 : Nat) (a2 : Nat) (i3 : Int32) (w : cm_W) : sm cm_g 300 ck_300 kq_300 360 [(0, .ref a0), (1, .ref a1), (2, .ref a2), (3, .int i3)] [] w ((fn_300_360 k_18 a0 a1 a2 i3 w).map cm_gB) := by
  unfold fn_300_360
  refine sm_seg 5 365 [(0, .ref a0), (1, .ref a1), (2, .ref a2), (3, .int i3)] [.int (i3 + (1 : Int32)), .ref a0, .ref a1] rfl ?_
  refine sm_gd fun h26 => ?_
  refine sm_ai rfl h26 rfl ?_
  show sm _ _ _ _ 366 [(0, .ref a0), (1, .ref a1), (2, .ref a2), (3, .int i3)] [.int (cm_I w a0 (i3 + (1 : Int32)).toNatClampNeg), .ref a1] _ _
  refine sm_seg 4 370 [(0, .ref a0), (1, .ref a1), (2, .ref a2), (3, .int i3)] [.int (i3 + (2 : Int32)), .ref a0, .int (cm_I w a0 (i3 + (1 : Int32)).toNatClampNeg), .ref a1] rfl ?_
  refine sm_gd fun h27 => ?_
  refine sm_ai rfl h27 rfl ?_
  show sm _ _ _ _ 371 [(0, .ref a0), (1, .ref a1), (2, .ref a2), (3, .int i3)] [.int (cm_I w a0 (i3 + (2 : Int32)).toNatClampNeg), .int (cm_I w a0 (i3 + (1 : Int32)).toNatClampNeg), .ref a1] _ _
  refine sm_gd fun h28 => ?_
  refine sm_cV (as := [.int (cm_I w a0 (i3 + (1 : Int32)).toNatClampNeg), .int (cm_I w a0 (i3 + (2 : Int32)).toNatClampNeg)]) (rest := []) rfl rfl rfl rfl h28 (Nat.le_of_ble_eq_true rfl) (ca_145 w a1 (cm_I w a0 (i3 + (1 : Int32)).toNatClampNeg) (cm_I w a0 (i3 + (2 : Int32)).toNatClampNeg)) fun v29 h30 => ?_
  show sm _ _ _ _ 374 [(0, .ref a0), (1, .ref a1), (2, .ref a2), (3, .int i3)] [.int v29] _ _
  refine sm_seg 5 379 [(0, .ref a0), (1, .ref a1), (2, .ref a2), (3, .int i3)] [.int (i3 + (1 : Int32)), .ref a0, .ref a2, .int v29] rfl ?_
  refine sm_ai rfl h26 rfl ?_
  show sm _ _ _ _ 380 [(0, .ref a0), (1, .ref a1), (2, .ref a2), (3, .int i3)] [.int (cm_I w a0 (i3 + (1 : Int32)).toNatClampNeg), .ref a2, .int v29] _ _
  refine sm_seg 4 384 [(0, .ref a0), (1, .ref a1), (2, .ref a2), (3, .int i3)] [.int (i3 + (2 : Int32)), .ref a0, .int (cm_I w a0 (i3 + (1 : Int32)).toNatClampNeg), .ref a2, .int v29] rfl ?_
  refine sm_ai rfl h27 rfl ?_
  show sm _ _ _ _ 385 [(0, .ref a0), (1, .ref a1), (2, .ref a2), (3, .int i3)] [.int (cm_I w a0 (i3 + (2 : Int32)).toNatClampNeg), .int (cm_I w a0 (i3 + (1 : Int32)).toNatClampNeg), .ref a2, .int v29] _ _
  refine sm_gd fun h31 => ?_
  refine sm_cV (as := [.int (cm_I w a0 (i3 + (1 : Int32)).toNatClampNeg), .int (cm_I w a0 (i3 + (2 : Int32)).toNatClampNeg)]) (rest := [.int v29]) rfl rfl rfl rfl h31 (Nat.le_of_ble_eq_true rfl) (ca_232 w a2 (cm_I w a0 (i3 + (1 : Int32)).toNatClampNeg) (cm_I w a0 (i3 + (2 : Int32)).toNatClampNeg)) fun v32 h33 => ?_
  show sm _ _ _ _ 388 [(0, .ref a0), (1, .ref a1), (2, .ref a2), (3, .int i3)] [.int v32, .int v29] _ _
  refine sm_if (pc1 := 1773) (lv1 := [(0, .ref a0), (1, .ref a1), (2, .ref a2), (3, .int i3)]) (pc2 := 391) (lv2 := [(0, .ref a0), (1, .ref a1), (2, .ref a2), (3, .int i3)]) (st1 := []) rfl rfl rfl (fun h34 => ?_) (fun h34 => ?_)
  · exact jt_300_1773  k_18 hk_18 a0 a1 a2 i3 w
  · refine sm_seg 1 392 [(0, .ref a0), (1, .ref a1), (2, .ref a2), (3, .int i3)] [.int (0 : Int32)] rfl ?_
    exact sm_rBW (b := false) rfl rfl
def fn_300_393 (k_18 : Nat → Nat → Nat → Int32 → cm_W → Option (Bool × cm_W)) (a0 : Nat) (a1 : Nat) (a2 : Nat) (i3 : Int32) (w : cm_W) : Option (Bool × cm_W) := (if cm_ga w .int a0 (i3 + (1 : Int32)) = true then (if cm_ga w .int a0 (i3 + (2 : Int32)) = true then (if cm_sh w a1 = some (.inl 10) then (fn_147 a1 (cm_I w a0 (i3 + (1 : Int32)).toNatClampNeg) (cm_I w a0 (i3 + (2 : Int32)).toNatClampNeg) w).bind fun v38 => (if cm_ga v38.2 .int a0 (i3 + (1 : Int32)) = true then (if cm_ga v38.2 .int a0 (i3 + (2 : Int32)) = true then (if cm_sh v38.2 a2 = some (.inl 11) then (fn_235 a2 (cm_I v38.2 a0 (i3 + (1 : Int32)).toNatClampNeg) (cm_I v38.2 a0 (i3 + (2 : Int32)).toNatClampNeg) v38.2).bind fun v43 => (if v38.1 = v43.1 then fn_300_1773  k_18 a0 a1 a2 i3 v43.2 else some (false, v43.2)) else none) else none) else none) else none) else none) else none)
theorem jt_300_393 (k_18 : Nat → Nat → Nat → Int32 → cm_W → Option (Bool × cm_W)) (hk_18 : ∀ (a0 : Nat) (a1 : Nat) (a2 : Nat) (i3 : Int32) (w : cm_W), sm cm_g 300 ck_300 kq_300 18 [(0, .ref a0), (1, .ref a1), (2, .ref a2), (3, .int i3)] [] w ((k_18 a0 a1 a2 i3 w).map cm_gB)) (a0 : Nat) (a1 : Nat) (a2 : Nat) (i3 : Int32) (w : cm_W) : sm cm_g 300 ck_300 kq_300 393 [(0, .ref a0), (1, .ref a1), (2, .ref a2), (3, .int i3)] [] w ((fn_300_393 k_18 a0 a1 a2 i3 w).map cm_gB) := by
  unfold fn_300_393
  refine sm_seg 5 398 [(0, .ref a0), (1, .ref a1), (2, .ref a2), (3, .int i3)] [.int (i3 + (1 : Int32)), .ref a0, .ref a1] rfl ?_
  refine sm_gd fun h35 => ?_
  refine sm_ai rfl h35 rfl ?_
  show sm _ _ _ _ 399 [(0, .ref a0), (1, .ref a1), (2, .ref a2), (3, .int i3)] [.int (cm_I w a0 (i3 + (1 : Int32)).toNatClampNeg), .ref a1] _ _
  refine sm_seg 4 403 [(0, .ref a0), (1, .ref a1), (2, .ref a2), (3, .int i3)] [.int (i3 + (2 : Int32)), .ref a0, .int (cm_I w a0 (i3 + (1 : Int32)).toNatClampNeg), .ref a1] rfl ?_
  refine sm_gd fun h36 => ?_
  refine sm_ai rfl h36 rfl ?_
  show sm _ _ _ _ 404 [(0, .ref a0), (1, .ref a1), (2, .ref a2), (3, .int i3)] [.int (cm_I w a0 (i3 + (2 : Int32)).toNatClampNeg), .int (cm_I w a0 (i3 + (1 : Int32)).toNatClampNeg), .ref a1] _ _
  refine sm_gd fun h37 => ?_
  refine sm_cV (as := [.int (cm_I w a0 (i3 + (1 : Int32)).toNatClampNeg), .int (cm_I w a0 (i3 + (2 : Int32)).toNatClampNeg)]) (rest := []) rfl rfl rfl rfl h37 (Nat.le_of_ble_eq_true rfl) (ca_147  a1 (cm_I w a0 (i3 + (1 : Int32)).toNatClampNeg) (cm_I w a0 (i3 + (2 : Int32)).toNatClampNeg) w) fun v38 h39 => ?_
  show sm _ _ _ _ 407 [(0, .ref a0), (1, .ref a1), (2, .ref a2), (3, .int i3)] [.int v38.1] _ _
  refine sm_seg 5 412 [(0, .ref a0), (1, .ref a1), (2, .ref a2), (3, .int i3)] [.int (i3 + (1 : Int32)), .ref a0, .ref a2, .int v38.1] rfl ?_
  refine sm_gd fun h40 => ?_
  refine sm_ai rfl h40 rfl ?_
  show sm _ _ _ _ 413 [(0, .ref a0), (1, .ref a1), (2, .ref a2), (3, .int i3)] [.int (cm_I v38.2 a0 (i3 + (1 : Int32)).toNatClampNeg), .ref a2, .int v38.1] _ _
  refine sm_seg 4 417 [(0, .ref a0), (1, .ref a1), (2, .ref a2), (3, .int i3)] [.int (i3 + (2 : Int32)), .ref a0, .int (cm_I v38.2 a0 (i3 + (1 : Int32)).toNatClampNeg), .ref a2, .int v38.1] rfl ?_
  refine sm_gd fun h41 => ?_
  refine sm_ai rfl h41 rfl ?_
  show sm _ _ _ _ 418 [(0, .ref a0), (1, .ref a1), (2, .ref a2), (3, .int i3)] [.int (cm_I v38.2 a0 (i3 + (2 : Int32)).toNatClampNeg), .int (cm_I v38.2 a0 (i3 + (1 : Int32)).toNatClampNeg), .ref a2, .int v38.1] _ _
  refine sm_gd fun h42 => ?_
  refine sm_cV (as := [.int (cm_I v38.2 a0 (i3 + (1 : Int32)).toNatClampNeg), .int (cm_I v38.2 a0 (i3 + (2 : Int32)).toNatClampNeg)]) (rest := [.int v38.1]) rfl rfl rfl rfl h42 (Nat.le_of_ble_eq_true rfl) (ca_235  a2 (cm_I v38.2 a0 (i3 + (1 : Int32)).toNatClampNeg) (cm_I v38.2 a0 (i3 + (2 : Int32)).toNatClampNeg) v38.2) fun v43 h44 => ?_
  show sm _ _ _ _ 421 [(0, .ref a0), (1, .ref a1), (2, .ref a2), (3, .int i3)] [.int v43.1, .int v38.1] _ _
  refine sm_if (pc1 := 1773) (lv1 := [(0, .ref a0), (1, .ref a1), (2, .ref a2), (3, .int i3)]) (pc2 := 424) (lv2 := [(0, .ref a0), (1, .ref a1), (2, .ref a2), (3, .int i3)]) (st1 := []) rfl rfl rfl (fun h45 => ?_) (fun h45 => ?_)
  · exact jt_300_1773  k_18 hk_18 a0 a1 a2 i3 v43.2
  · refine sm_seg 1 425 [(0, .ref a0), (1, .ref a1), (2, .ref a2), (3, .int i3)] [.int (0 : Int32)] rfl ?_
    exact sm_rBW (b := false) rfl rfl
def fn_300_426 (k_18 : Nat → Nat → Nat → Int32 → cm_W → Option (Bool × cm_W)) (a0 : Nat) (a1 : Nat) (a2 : Nat) (i3 : Int32) (w : cm_W) : Option (Bool × cm_W) := (if cm_ga w .int a0 (i3 + (1 : Int32)) = true then (if cm_ga w .int a0 (i3 + (2 : Int32)) = true then (if cm_sh w a1 = some (.inl 10) then (fn_149 a1 (cm_I w a0 (i3 + (1 : Int32)).toNatClampNeg) (cm_I w a0 (i3 + (2 : Int32)).toNatClampNeg) w).bind fun v49 => (if cm_ga v49.2 .int a0 (i3 + (1 : Int32)) = true then (if cm_ga v49.2 .int a0 (i3 + (2 : Int32)) = true then (if cm_sh v49.2 a2 = some (.inl 11) then (fn_236 a2 (cm_I v49.2 a0 (i3 + (1 : Int32)).toNatClampNeg) (cm_I v49.2 a0 (i3 + (2 : Int32)).toNatClampNeg) v49.2).bind fun v54 => (if (cm_b v49.1) = (cm_b v54.1) then fn_300_1773  k_18 a0 a1 a2 i3 v54.2 else some (false, v54.2)) else none) else none) else none) else none) else none) else none)
theorem jt_300_426 (k_18 : Nat → Nat → Nat → Int32 → cm_W → Option (Bool × cm_W)) (hk_18 : ∀ (a0 : Nat) (a1 : Nat) (a2 : Nat) (i3 : Int32) (w : cm_W), sm cm_g 300 ck_300 kq_300 18 [(0, .ref a0), (1, .ref a1), (2, .ref a2), (3, .int i3)] [] w ((k_18 a0 a1 a2 i3 w).map cm_gB)) (a0 : Nat) (a1 : Nat) (a2 : Nat) (i3 : Int32) (w : cm_W) : sm cm_g 300 ck_300 kq_300 426 [(0, .ref a0), (1, .ref a1), (2, .ref a2), (3, .int i3)] [] w ((fn_300_426 k_18 a0 a1 a2 i3 w).map cm_gB) := by
  unfold fn_300_426
  refine sm_seg 5 431 [(0, .ref a0), (1, .ref a1), (2, .ref a2), (3, .int i3)] [.int (i3 + (1 : Int32)), .ref a0, .ref a1] rfl ?_
  refine sm_gd fun h46 => ?_
  refine sm_ai rfl h46 rfl ?_
  show sm _ _ _ _ 432 [(0, .ref a0), (1, .ref a1), (2, .ref a2), (3, .int i3)] [.int (cm_I w a0 (i3 + (1 : Int32)).toNatClampNeg), .ref a1] _ _
  refine sm_seg 4 436 [(0, .ref a0), (1, .ref a1), (2, .ref a2), (3, .int i3)] [.int (i3 + (2 : Int32)), .ref a0, .int (cm_I w a0 (i3 + (1 : Int32)).toNatClampNeg), .ref a1] rfl ?_
  refine sm_gd fun h47 => ?_
  refine sm_ai rfl h47 rfl ?_
  show sm _ _ _ _ 437 [(0, .ref a0), (1, .ref a1), (2, .ref a2), (3, .int i3)] [.int (cm_I w a0 (i3 + (2 : Int32)).toNatClampNeg), .int (cm_I w a0 (i3 + (1 : Int32)).toNatClampNeg), .ref a1] _ _
  refine sm_gd fun h48 => ?_
  refine sm_cV (as := [.int (cm_I w a0 (i3 + (1 : Int32)).toNatClampNeg), .int (cm_I w a0 (i3 + (2 : Int32)).toNatClampNeg)]) (rest := []) rfl rfl rfl rfl h48 (Nat.le_of_ble_eq_true rfl) (ca_149  a1 (cm_I w a0 (i3 + (1 : Int32)).toNatClampNeg) (cm_I w a0 (i3 + (2 : Int32)).toNatClampNeg) w) fun v49 h50 => ?_
  show sm _ _ _ _ 440 [(0, .ref a0), (1, .ref a1), (2, .ref a2), (3, .int i3)] [.int (cm_b v49.1)] _ _
  refine sm_seg 5 445 [(0, .ref a0), (1, .ref a1), (2, .ref a2), (3, .int i3)] [.int (i3 + (1 : Int32)), .ref a0, .ref a2, .int (cm_b v49.1)] rfl ?_
  refine sm_gd fun h51 => ?_
  refine sm_ai rfl h51 rfl ?_
  show sm _ _ _ _ 446 [(0, .ref a0), (1, .ref a1), (2, .ref a2), (3, .int i3)] [.int (cm_I v49.2 a0 (i3 + (1 : Int32)).toNatClampNeg), .ref a2, .int (cm_b v49.1)] _ _
  refine sm_seg 4 450 [(0, .ref a0), (1, .ref a1), (2, .ref a2), (3, .int i3)] [.int (i3 + (2 : Int32)), .ref a0, .int (cm_I v49.2 a0 (i3 + (1 : Int32)).toNatClampNeg), .ref a2, .int (cm_b v49.1)] rfl ?_
  refine sm_gd fun h52 => ?_
  refine sm_ai rfl h52 rfl ?_
  show sm _ _ _ _ 451 [(0, .ref a0), (1, .ref a1), (2, .ref a2), (3, .int i3)] [.int (cm_I v49.2 a0 (i3 + (2 : Int32)).toNatClampNeg), .int (cm_I v49.2 a0 (i3 + (1 : Int32)).toNatClampNeg), .ref a2, .int (cm_b v49.1)] _ _
  refine sm_gd fun h53 => ?_
  refine sm_cV (as := [.int (cm_I v49.2 a0 (i3 + (1 : Int32)).toNatClampNeg), .int (cm_I v49.2 a0 (i3 + (2 : Int32)).toNatClampNeg)]) (rest := [.int (cm_b v49.1)]) rfl rfl rfl rfl h53 (Nat.le_of_ble_eq_true rfl) (ca_236  a2 (cm_I v49.2 a0 (i3 + (1 : Int32)).toNatClampNeg) (cm_I v49.2 a0 (i3 + (2 : Int32)).toNatClampNeg) v49.2) fun v54 h55 => ?_
  show sm _ _ _ _ 454 [(0, .ref a0), (1, .ref a1), (2, .ref a2), (3, .int i3)] [.int (cm_b v54.1), .int (cm_b v49.1)] _ _
  refine sm_if (pc1 := 1773) (lv1 := [(0, .ref a0), (1, .ref a1), (2, .ref a2), (3, .int i3)]) (pc2 := 457) (lv2 := [(0, .ref a0), (1, .ref a1), (2, .ref a2), (3, .int i3)]) (st1 := []) rfl rfl rfl (fun h56 => ?_) (fun h56 => ?_)
  · exact jt_300_1773  k_18 hk_18 a0 a1 a2 i3 v54.2
  · refine sm_seg 1 458 [(0, .ref a0), (1, .ref a1), (2, .ref a2), (3, .int i3)] [.int (0 : Int32)] rfl ?_
    exact sm_rBW (b := false) rfl rfl
def fn_300_459 (k_18 : Nat → Nat → Nat → Int32 → cm_W → Option (Bool × cm_W)) (a0 : Nat) (a1 : Nat) (a2 : Nat) (i3 : Int32) (w : cm_W) : Option (Bool × cm_W) := (if cm_sh w a1 = some (.inl 10) then (fn_150 a1 w).bind fun v58 => (if cm_sh v58.2 a2 = some (.inl 11) then (fn_237 a2 v58.2).bind fun v61 => (if v58.1 = v61.1 then fn_300_1773  k_18 a0 a1 a2 i3 v61.2 else some (false, v61.2)) else none) else none)
theorem jt_300_459 (k_18 : Nat → Nat → Nat → Int32 → cm_W → Option (Bool × cm_W)) (hk_18 : ∀ (a0 : Nat) (a1 : Nat) (a2 : Nat) (i3 : Int32) (w : cm_W), sm cm_g 300 ck_300 kq_300 18 [(0, .ref a0), (1, .ref a1), (2, .ref a2), (3, .int i3)] [] w ((k_18 a0 a1 a2 i3 w).map cm_gB)) (a0 : Nat) (a1 : Nat) (a2 : Nat) (i3 : Int32) (w : cm_W) : sm cm_g 300 ck_300 kq_300 459 [(0, .ref a0), (1, .ref a1), (2, .ref a2), (3, .int i3)] [] w ((fn_300_459 k_18 a0 a1 a2 i3 w).map cm_gB) := by
  unfold fn_300_459
  refine sm_seg 1 460 [(0, .ref a0), (1, .ref a1), (2, .ref a2), (3, .int i3)] [.ref a1] rfl ?_
  refine sm_gd fun h57 => ?_
  refine sm_cV (as := []) (rest := []) rfl rfl rfl rfl h57 (Nat.le_of_ble_eq_true rfl) (ca_150  a1 w) fun v58 h59 => ?_
  show sm _ _ _ _ 463 [(0, .ref a0), (1, .ref a1), (2, .ref a2), (3, .int i3)] [.int v58.1] _ _
  refine sm_seg 1 464 [(0, .ref a0), (1, .ref a1), (2, .ref a2), (3, .int i3)] [.ref a2, .int v58.1] rfl ?_
  refine sm_gd fun h60 => ?_
  refine sm_cV (as := []) (rest := [.int v58.1]) rfl rfl rfl rfl h60 (Nat.le_of_ble_eq_true rfl) (ca_237  a2 v58.2) fun v61 h62 => ?_
  show sm _ _ _ _ 467 [(0, .ref a0), (1, .ref a1), (2, .ref a2), (3, .int i3)] [.int v61.1, .int v58.1] _ _
  refine sm_if (pc1 := 1773) (lv1 := [(0, .ref a0), (1, .ref a1), (2, .ref a2), (3, .int i3)]) (pc2 := 470) (lv2 := [(0, .ref a0), (1, .ref a1), (2, .ref a2), (3, .int i3)]) (st1 := []) rfl rfl rfl (fun h63 => ?_) (fun h63 => ?_)
  · exact jt_300_1773  k_18 hk_18 a0 a1 a2 i3 v61.2
  · refine sm_seg 1 471 [(0, .ref a0), (1, .ref a1), (2, .ref a2), (3, .int i3)] [.int (0 : Int32)] rfl ?_
    exact sm_rBW (b := false) rfl rfl
def fn_300_472 (k_18 : Nat → Nat → Nat → Int32 → cm_W → Option (Bool × cm_W)) (a0 : Nat) (a1 : Nat) (a2 : Nat) (i3 : Int32) (w : cm_W) : Option (Bool × cm_W) := (if cm_ga w .int a0 (i3 + (1 : Int32)) = true then (if cm_ga w .int a0 (i3 + (2 : Int32)) = true then (if cm_ga w .int a0 (i3 + (3 : Int32)) = true then (if cm_sh w a1 = some (.inl 10) then (fn_152 a1 (cm_I w a0 (i3 + (1 : Int32)).toNatClampNeg) (cm_I w a0 (i3 + (2 : Int32)).toNatClampNeg) (cm_I w a0 (i3 + (3 : Int32)).toNatClampNeg) w).bind fun v68 => (if cm_ga v68.2 .int a0 (i3 + (1 : Int32)) = true then (if cm_ga v68.2 .int a0 (i3 + (2 : Int32)) = true then (if cm_ga v68.2 .int a0 (i3 + (3 : Int32)) = true then (if cm_sh v68.2 a2 = some (.inl 11) then (fn_239 a2 (cm_I v68.2 a0 (i3 + (1 : Int32)).toNatClampNeg) (cm_I v68.2 a0 (i3 + (2 : Int32)).toNatClampNeg) (cm_I v68.2 a0 (i3 + (3 : Int32)).toNatClampNeg) v68.2).bind fun v74 => (if (cm_b v68.1) = (cm_b v74.1) then fn_300_1773  k_18 a0 a1 a2 i3 v74.2 else some (false, v74.2)) else none) else none) else none) else none) else none) else none) else none) else none)
theorem jt_300_472 (k_18 : Nat → Nat → Nat → Int32 → cm_W → Option (Bool × cm_W)) (hk_18 : ∀ (a0 : Nat) (a1 : Nat) (a2 : Nat) (i3 : Int32) (w : cm_W), sm cm_g 300 ck_300 kq_300 18 [(0, .ref a0), (1, .ref a1), (2, .ref a2), (3, .int i3)] [] w ((k_18 a0 a1 a2 i3 w).map cm_gB)) (a0 : Nat) (a1 : Nat) (a2 : Nat) (i3 : Int32) (w : cm_W) : sm cm_g 300 ck_300 kq_300 472 [(0, .ref a0), (1, .ref a1), (2, .ref a2), (3, .int i3)] [] w ((fn_300_472 k_18 a0 a1 a2 i3 w).map cm_gB) := by
  unfold fn_300_472
  refine sm_seg 5 477 [(0, .ref a0), (1, .ref a1), (2, .ref a2), (3, .int i3)] [.int (i3 + (1 : Int32)), .ref a0, .ref a1] rfl ?_
  refine sm_gd fun h64 => ?_
  refine sm_ai rfl h64 rfl ?_
  show sm _ _ _ _ 478 [(0, .ref a0), (1, .ref a1), (2, .ref a2), (3, .int i3)] [.int (cm_I w a0 (i3 + (1 : Int32)).toNatClampNeg), .ref a1] _ _
  refine sm_seg 4 482 [(0, .ref a0), (1, .ref a1), (2, .ref a2), (3, .int i3)] [.int (i3 + (2 : Int32)), .ref a0, .int (cm_I w a0 (i3 + (1 : Int32)).toNatClampNeg), .ref a1] rfl ?_
  refine sm_gd fun h65 => ?_
  refine sm_ai rfl h65 rfl ?_
  show sm _ _ _ _ 483 [(0, .ref a0), (1, .ref a1), (2, .ref a2), (3, .int i3)] [.int (cm_I w a0 (i3 + (2 : Int32)).toNatClampNeg), .int (cm_I w a0 (i3 + (1 : Int32)).toNatClampNeg), .ref a1] _ _
  refine sm_seg 4 487 [(0, .ref a0), (1, .ref a1), (2, .ref a2), (3, .int i3)] [.int (i3 + (3 : Int32)), .ref a0, .int (cm_I w a0 (i3 + (2 : Int32)).toNatClampNeg), .int (cm_I w a0 (i3 + (1 : Int32)).toNatClampNeg), .ref a1] rfl ?_
  refine sm_gd fun h66 => ?_
  refine sm_ai rfl h66 rfl ?_
  show sm _ _ _ _ 488 [(0, .ref a0), (1, .ref a1), (2, .ref a2), (3, .int i3)] [.int (cm_I w a0 (i3 + (3 : Int32)).toNatClampNeg), .int (cm_I w a0 (i3 + (2 : Int32)).toNatClampNeg), .int (cm_I w a0 (i3 + (1 : Int32)).toNatClampNeg), .ref a1] _ _
  refine sm_gd fun h67 => ?_
  refine sm_cV (as := [.int (cm_I w a0 (i3 + (1 : Int32)).toNatClampNeg), .int (cm_I w a0 (i3 + (2 : Int32)).toNatClampNeg), .int (cm_I w a0 (i3 + (3 : Int32)).toNatClampNeg)]) (rest := []) rfl rfl rfl rfl h67 (Nat.le_of_ble_eq_true rfl) (ca_152  a1 (cm_I w a0 (i3 + (1 : Int32)).toNatClampNeg) (cm_I w a0 (i3 + (2 : Int32)).toNatClampNeg) (cm_I w a0 (i3 + (3 : Int32)).toNatClampNeg) w) fun v68 h69 => ?_
  show sm _ _ _ _ 491 [(0, .ref a0), (1, .ref a1), (2, .ref a2), (3, .int i3)] [.int (cm_b v68.1)] _ _
  refine sm_seg 5 496 [(0, .ref a0), (1, .ref a1), (2, .ref a2), (3, .int i3)] [.int (i3 + (1 : Int32)), .ref a0, .ref a2, .int (cm_b v68.1)] rfl ?_
  refine sm_gd fun h70 => ?_
  refine sm_ai rfl h70 rfl ?_
  show sm _ _ _ _ 497 [(0, .ref a0), (1, .ref a1), (2, .ref a2), (3, .int i3)] [.int (cm_I v68.2 a0 (i3 + (1 : Int32)).toNatClampNeg), .ref a2, .int (cm_b v68.1)] _ _
  refine sm_seg 4 501 [(0, .ref a0), (1, .ref a1), (2, .ref a2), (3, .int i3)] [.int (i3 + (2 : Int32)), .ref a0, .int (cm_I v68.2 a0 (i3 + (1 : Int32)).toNatClampNeg), .ref a2, .int (cm_b v68.1)] rfl ?_
  refine sm_gd fun h71 => ?_
  refine sm_ai rfl h71 rfl ?_
  show sm _ _ _ _ 502 [(0, .ref a0), (1, .ref a1), (2, .ref a2), (3, .int i3)] [.int (cm_I v68.2 a0 (i3 + (2 : Int32)).toNatClampNeg), .int (cm_I v68.2 a0 (i3 + (1 : Int32)).toNatClampNeg), .ref a2, .int (cm_b v68.1)] _ _
  refine sm_seg 4 506 [(0, .ref a0), (1, .ref a1), (2, .ref a2), (3, .int i3)] [.int (i3 + (3 : Int32)), .ref a0, .int (cm_I v68.2 a0 (i3 + (2 : Int32)).toNatClampNeg), .int (cm_I v68.2 a0 (i3 + (1 : Int32)).toNatClampNeg), .ref a2, .int (cm_b v68.1)] rfl ?_
  refine sm_gd fun h72 => ?_
  refine sm_ai rfl h72 rfl ?_
  show sm _ _ _ _ 507 [(0, .ref a0), (1, .ref a1), (2, .ref a2), (3, .int i3)] [.int (cm_I v68.2 a0 (i3 + (3 : Int32)).toNatClampNeg), .int (cm_I v68.2 a0 (i3 + (2 : Int32)).toNatClampNeg), .int (cm_I v68.2 a0 (i3 + (1 : Int32)).toNatClampNeg), .ref a2, .int (cm_b v68.1)] _ _
  refine sm_gd fun h73 => ?_
  refine sm_cV (as := [.int (cm_I v68.2 a0 (i3 + (1 : Int32)).toNatClampNeg), .int (cm_I v68.2 a0 (i3 + (2 : Int32)).toNatClampNeg), .int (cm_I v68.2 a0 (i3 + (3 : Int32)).toNatClampNeg)]) (rest := [.int (cm_b v68.1)]) rfl rfl rfl rfl h73 (Nat.le_of_ble_eq_true rfl) (ca_239  a2 (cm_I v68.2 a0 (i3 + (1 : Int32)).toNatClampNeg) (cm_I v68.2 a0 (i3 + (2 : Int32)).toNatClampNeg) (cm_I v68.2 a0 (i3 + (3 : Int32)).toNatClampNeg) v68.2) fun v74 h75 => ?_
  show sm _ _ _ _ 510 [(0, .ref a0), (1, .ref a1), (2, .ref a2), (3, .int i3)] [.int (cm_b v74.1), .int (cm_b v68.1)] _ _
  refine sm_if (pc1 := 1773) (lv1 := [(0, .ref a0), (1, .ref a1), (2, .ref a2), (3, .int i3)]) (pc2 := 513) (lv2 := [(0, .ref a0), (1, .ref a1), (2, .ref a2), (3, .int i3)]) (st1 := []) rfl rfl rfl (fun h76 => ?_) (fun h76 => ?_)
  · exact jt_300_1773  k_18 hk_18 a0 a1 a2 i3 v74.2
  · refine sm_seg 1 514 [(0, .ref a0), (1, .ref a1), (2, .ref a2), (3, .int i3)] [.int (0 : Int32)] rfl ?_
    exact sm_rBW (b := false) rfl rfl
def fn_300_515 (k_18 : Nat → Nat → Nat → Int32 → cm_W → Option (Bool × cm_W)) (a0 : Nat) (a1 : Nat) (a2 : Nat) (i3 : Int32) (w : cm_W) : Option (Bool × cm_W) := (if cm_ga w .int a0 (i3 + (1 : Int32)) = true then (if cm_ga w .int a0 (i3 + (2 : Int32)) = true then (if cm_sh w a1 = some (.inl 10) then (fn_153 a1 (cm_I w a0 (i3 + (1 : Int32)).toNatClampNeg) (cm_I w a0 (i3 + (2 : Int32)).toNatClampNeg) w).bind fun v80 => (if cm_ga v80.2 .int a0 (i3 + (1 : Int32)) = true then (if cm_ga v80.2 .int a0 (i3 + (2 : Int32)) = true then (if cm_sh v80.2 a2 = some (.inl 11) then (fn_240 a2 (cm_I v80.2 a0 (i3 + (1 : Int32)).toNatClampNeg) (cm_I v80.2 a0 (i3 + (2 : Int32)).toNatClampNeg) v80.2).bind fun v85 => (if (cm_b v80.1) = (cm_b v85.1) then fn_300_1773  k_18 a0 a1 a2 i3 v85.2 else some (false, v85.2)) else none) else none) else none) else none) else none) else none)
theorem jt_300_515 (k_18 : Nat → Nat → Nat → Int32 → cm_W → Option (Bool × cm_W)) (hk_18 : ∀ (a0 : Nat) (a1 : Nat) (a2 : Nat) (i3 : Int32) (w : cm_W), sm cm_g 300 ck_300 kq_300 18 [(0, .ref a0), (1, .ref a1), (2, .ref a2), (3, .int i3)] [] w ((k_18 a0 a1 a2 i3 w).map cm_gB)) (a0 : Nat) (a1 : Nat) (a2 : Nat) (i3 : Int32) (w : cm_W) : sm cm_g 300 ck_300 kq_300 515 [(0, .ref a0), (1, .ref a1), (2, .ref a2), (3, .int i3)] [] w ((fn_300_515 k_18 a0 a1 a2 i3 w).map cm_gB) := by
  unfold fn_300_515
  refine sm_seg 5 520 [(0, .ref a0), (1, .ref a1), (2, .ref a2), (3, .int i3)] [.int (i3 + (1 : Int32)), .ref a0, .ref a1] rfl ?_
  refine sm_gd fun h77 => ?_
  refine sm_ai rfl h77 rfl ?_
  show sm _ _ _ _ 521 [(0, .ref a0), (1, .ref a1), (2, .ref a2), (3, .int i3)] [.int (cm_I w a0 (i3 + (1 : Int32)).toNatClampNeg), .ref a1] _ _
  refine sm_seg 4 525 [(0, .ref a0), (1, .ref a1), (2, .ref a2), (3, .int i3)] [.int (i3 + (2 : Int32)), .ref a0, .int (cm_I w a0 (i3 + (1 : Int32)).toNatClampNeg), .ref a1] rfl ?_
  refine sm_gd fun h78 => ?_
  refine sm_ai rfl h78 rfl ?_
  show sm _ _ _ _ 526 [(0, .ref a0), (1, .ref a1), (2, .ref a2), (3, .int i3)] [.int (cm_I w a0 (i3 + (2 : Int32)).toNatClampNeg), .int (cm_I w a0 (i3 + (1 : Int32)).toNatClampNeg), .ref a1] _ _
  refine sm_gd fun h79 => ?_
  refine sm_cV (as := [.int (cm_I w a0 (i3 + (1 : Int32)).toNatClampNeg), .int (cm_I w a0 (i3 + (2 : Int32)).toNatClampNeg)]) (rest := []) rfl rfl rfl rfl h79 (Nat.le_of_ble_eq_true rfl) (ca_153  a1 (cm_I w a0 (i3 + (1 : Int32)).toNatClampNeg) (cm_I w a0 (i3 + (2 : Int32)).toNatClampNeg) w) fun v80 h81 => ?_
  show sm _ _ _ _ 529 [(0, .ref a0), (1, .ref a1), (2, .ref a2), (3, .int i3)] [.int (cm_b v80.1)] _ _
  refine sm_seg 5 534 [(0, .ref a0), (1, .ref a1), (2, .ref a2), (3, .int i3)] [.int (i3 + (1 : Int32)), .ref a0, .ref a2, .int (cm_b v80.1)] rfl ?_
  refine sm_gd fun h82 => ?_
  refine sm_ai rfl h82 rfl ?_
  show sm _ _ _ _ 535 [(0, .ref a0), (1, .ref a1), (2, .ref a2), (3, .int i3)] [.int (cm_I v80.2 a0 (i3 + (1 : Int32)).toNatClampNeg), .ref a2, .int (cm_b v80.1)] _ _
  refine sm_seg 4 539 [(0, .ref a0), (1, .ref a1), (2, .ref a2), (3, .int i3)] [.int (i3 + (2 : Int32)), .ref a0, .int (cm_I v80.2 a0 (i3 + (1 : Int32)).toNatClampNeg), .ref a2, .int (cm_b v80.1)] rfl ?_
  refine sm_gd fun h83 => ?_
  refine sm_ai rfl h83 rfl ?_
  show sm _ _ _ _ 540 [(0, .ref a0), (1, .ref a1), (2, .ref a2), (3, .int i3)] [.int (cm_I v80.2 a0 (i3 + (2 : Int32)).toNatClampNeg), .int (cm_I v80.2 a0 (i3 + (1 : Int32)).toNatClampNeg), .ref a2, .int (cm_b v80.1)] _ _
  refine sm_gd fun h84 => ?_
  refine sm_cV (as := [.int (cm_I v80.2 a0 (i3 + (1 : Int32)).toNatClampNeg), .int (cm_I v80.2 a0 (i3 + (2 : Int32)).toNatClampNeg)]) (rest := [.int (cm_b v80.1)]) rfl rfl rfl rfl h84 (Nat.le_of_ble_eq_true rfl) (ca_240  a2 (cm_I v80.2 a0 (i3 + (1 : Int32)).toNatClampNeg) (cm_I v80.2 a0 (i3 + (2 : Int32)).toNatClampNeg) v80.2) fun v85 h86 => ?_
  show sm _ _ _ _ 543 [(0, .ref a0), (1, .ref a1), (2, .ref a2), (3, .int i3)] [.int (cm_b v85.1), .int (cm_b v80.1)] _ _
  refine sm_if (pc1 := 1773) (lv1 := [(0, .ref a0), (1, .ref a1), (2, .ref a2), (3, .int i3)]) (pc2 := 546) (lv2 := [(0, .ref a0), (1, .ref a1), (2, .ref a2), (3, .int i3)]) (st1 := []) rfl rfl rfl (fun h87 => ?_) (fun h87 => ?_)
  · exact jt_300_1773  k_18 hk_18 a0 a1 a2 i3 v85.2
  · refine sm_seg 1 547 [(0, .ref a0), (1, .ref a1), (2, .ref a2), (3, .int i3)] [.int (0 : Int32)] rfl ?_
    exact sm_rBW (b := false) rfl rfl
def fn_300_548 (k_18 : Nat → Nat → Nat → Int32 → cm_W → Option (Bool × cm_W)) (a0 : Nat) (a1 : Nat) (a2 : Nat) (i3 : Int32) (w : cm_W) : Option (Bool × cm_W) := (if cm_ga w .int a0 (i3 + (1 : Int32)) = true then (if cm_ga w .int a0 (i3 + (2 : Int32)) = true then (if cm_ga w .int a0 (i3 + (3 : Int32)) = true then (if cm_sh w a1 = some (.inl 10) then (fn_154 a1 (cm_I w a0 (i3 + (1 : Int32)).toNatClampNeg) (cm_I w a0 (i3 + (2 : Int32)).toNatClampNeg) (cm_I w a0 (i3 + (3 : Int32)).toNatClampNeg) w).bind fun v92 => (if cm_ga v92.2 .int a0 (i3 + (1 : Int32)) = true then (if cm_ga v92.2 .int a0 (i3 + (2 : Int32)) = true then (if cm_ga v92.2 .int a0 (i3 + (3 : Int32)) = true then (if cm_sh v92.2 a2 = some (.inl 11) then (fn_241 a2 (cm_I v92.2 a0 (i3 + (1 : Int32)).toNatClampNeg) (cm_I v92.2 a0 (i3 + (2 : Int32)).toNatClampNeg) (cm_I v92.2 a0 (i3 + (3 : Int32)).toNatClampNeg) v92.2).bind fun v98 => (if (cm_b v92.1) = (cm_b v98.1) then fn_300_1773  k_18 a0 a1 a2 i3 v98.2 else some (false, v98.2)) else none) else none) else none) else none) else none) else none) else none) else none)
theorem jt_300_548 (k_18 : Nat → Nat → Nat → Int32 → cm_W → Option (Bool × cm_W)) (hk_18 : ∀ (a0 : Nat) (a1 : Nat) (a2 : Nat) (i3 : Int32) (w : cm_W), sm cm_g 300 ck_300 kq_300 18 [(0, .ref a0), (1, .ref a1), (2, .ref a2), (3, .int i3)] [] w ((k_18 a0 a1 a2 i3 w).map cm_gB)) (a0 : Nat) (a1 : Nat) (a2 : Nat) (i3 : Int32) (w : cm_W) : sm cm_g 300 ck_300 kq_300 548 [(0, .ref a0), (1, .ref a1), (2, .ref a2), (3, .int i3)] [] w ((fn_300_548 k_18 a0 a1 a2 i3 w).map cm_gB) := by
  unfold fn_300_548
  refine sm_seg 5 553 [(0, .ref a0), (1, .ref a1), (2, .ref a2), (3, .int i3)] [.int (i3 + (1 : Int32)), .ref a0, .ref a1] rfl ?_
  refine sm_gd fun h88 => ?_
  refine sm_ai rfl h88 rfl ?_
  show sm _ _ _ _ 554 [(0, .ref a0), (1, .ref a1), (2, .ref a2), (3, .int i3)] [.int (cm_I w a0 (i3 + (1 : Int32)).toNatClampNeg), .ref a1] _ _
  refine sm_seg 4 558 [(0, .ref a0), (1, .ref a1), (2, .ref a2), (3, .int i3)] [.int (i3 + (2 : Int32)), .ref a0, .int (cm_I w a0 (i3 + (1 : Int32)).toNatClampNeg), .ref a1] rfl ?_
  refine sm_gd fun h89 => ?_
  refine sm_ai rfl h89 rfl ?_
  show sm _ _ _ _ 559 [(0, .ref a0), (1, .ref a1), (2, .ref a2), (3, .int i3)] [.int (cm_I w a0 (i3 + (2 : Int32)).toNatClampNeg), .int (cm_I w a0 (i3 + (1 : Int32)).toNatClampNeg), .ref a1] _ _
  refine sm_seg 4 563 [(0, .ref a0), (1, .ref a1), (2, .ref a2), (3, .int i3)] [.int (i3 + (3 : Int32)), .ref a0, .int (cm_I w a0 (i3 + (2 : Int32)).toNatClampNeg), .int (cm_I w a0 (i3 + (1 : Int32)).toNatClampNeg), .ref a1] rfl ?_
  refine sm_gd fun h90 => ?_
  refine sm_ai rfl h90 rfl ?_
  show sm _ _ _ _ 564 [(0, .ref a0), (1, .ref a1), (2, .ref a2), (3, .int i3)] [.int (cm_I w a0 (i3 + (3 : Int32)).toNatClampNeg), .int (cm_I w a0 (i3 + (2 : Int32)).toNatClampNeg), .int (cm_I w a0 (i3 + (1 : Int32)).toNatClampNeg), .ref a1] _ _
  refine sm_gd fun h91 => ?_
  refine sm_cV (as := [.int (cm_I w a0 (i3 + (1 : Int32)).toNatClampNeg), .int (cm_I w a0 (i3 + (2 : Int32)).toNatClampNeg), .int (cm_I w a0 (i3 + (3 : Int32)).toNatClampNeg)]) (rest := []) rfl rfl rfl rfl h91 (Nat.le_of_ble_eq_true rfl) (ca_154  a1 (cm_I w a0 (i3 + (1 : Int32)).toNatClampNeg) (cm_I w a0 (i3 + (2 : Int32)).toNatClampNeg) (cm_I w a0 (i3 + (3 : Int32)).toNatClampNeg) w) fun v92 h93 => ?_
  show sm _ _ _ _ 567 [(0, .ref a0), (1, .ref a1), (2, .ref a2), (3, .int i3)] [.int (cm_b v92.1)] _ _
  refine sm_seg 5 572 [(0, .ref a0), (1, .ref a1), (2, .ref a2), (3, .int i3)] [.int (i3 + (1 : Int32)), .ref a0, .ref a2, .int (cm_b v92.1)] rfl ?_
  refine sm_gd fun h94 => ?_
  refine sm_ai rfl h94 rfl ?_
  show sm _ _ _ _ 573 [(0, .ref a0), (1, .ref a1), (2, .ref a2), (3, .int i3)] [.int (cm_I v92.2 a0 (i3 + (1 : Int32)).toNatClampNeg), .ref a2, .int (cm_b v92.1)] _ _
  refine sm_seg 4 577 [(0, .ref a0), (1, .ref a1), (2, .ref a2), (3, .int i3)] [.int (i3 + (2 : Int32)), .ref a0, .int (cm_I v92.2 a0 (i3 + (1 : Int32)).toNatClampNeg), .ref a2, .int (cm_b v92.1)] rfl ?_
  refine sm_gd fun h95 => ?_
  refine sm_ai rfl h95 rfl ?_
  show sm _ _ _ _ 578 [(0, .ref a0), (1, .ref a1), (2, .ref a2), (3, .int i3)] [.int (cm_I v92.2 a0 (i3 + (2 : Int32)).toNatClampNeg), .int (cm_I v92.2 a0 (i3 + (1 : Int32)).toNatClampNeg), .ref a2, .int (cm_b v92.1)] _ _
  refine sm_seg 4 582 [(0, .ref a0), (1, .ref a1), (2, .ref a2), (3, .int i3)] [.int (i3 + (3 : Int32)), .ref a0, .int (cm_I v92.2 a0 (i3 + (2 : Int32)).toNatClampNeg), .int (cm_I v92.2 a0 (i3 + (1 : Int32)).toNatClampNeg), .ref a2, .int (cm_b v92.1)] rfl ?_
  refine sm_gd fun h96 => ?_
  refine sm_ai rfl h96 rfl ?_
  show sm _ _ _ _ 583 [(0, .ref a0), (1, .ref a1), (2, .ref a2), (3, .int i3)] [.int (cm_I v92.2 a0 (i3 + (3 : Int32)).toNatClampNeg), .int (cm_I v92.2 a0 (i3 + (2 : Int32)).toNatClampNeg), .int (cm_I v92.2 a0 (i3 + (1 : Int32)).toNatClampNeg), .ref a2, .int (cm_b v92.1)] _ _
  refine sm_gd fun h97 => ?_
  refine sm_cV (as := [.int (cm_I v92.2 a0 (i3 + (1 : Int32)).toNatClampNeg), .int (cm_I v92.2 a0 (i3 + (2 : Int32)).toNatClampNeg), .int (cm_I v92.2 a0 (i3 + (3 : Int32)).toNatClampNeg)]) (rest := [.int (cm_b v92.1)]) rfl rfl rfl rfl h97 (Nat.le_of_ble_eq_true rfl) (ca_241  a2 (cm_I v92.2 a0 (i3 + (1 : Int32)).toNatClampNeg) (cm_I v92.2 a0 (i3 + (2 : Int32)).toNatClampNeg) (cm_I v92.2 a0 (i3 + (3 : Int32)).toNatClampNeg) v92.2) fun v98 h99 => ?_
  show sm _ _ _ _ 586 [(0, .ref a0), (1, .ref a1), (2, .ref a2), (3, .int i3)] [.int (cm_b v98.1), .int (cm_b v92.1)] _ _
  refine sm_if (pc1 := 1773) (lv1 := [(0, .ref a0), (1, .ref a1), (2, .ref a2), (3, .int i3)]) (pc2 := 589) (lv2 := [(0, .ref a0), (1, .ref a1), (2, .ref a2), (3, .int i3)]) (st1 := []) rfl rfl rfl (fun h100 => ?_) (fun h100 => ?_)
  · exact jt_300_1773  k_18 hk_18 a0 a1 a2 i3 v98.2
  · refine sm_seg 1 590 [(0, .ref a0), (1, .ref a1), (2, .ref a2), (3, .int i3)] [.int (0 : Int32)] rfl ?_
    exact sm_rBW (b := false) rfl rfl
def fn_300_591 (k_18 : Nat → Nat → Nat → Int32 → cm_W → Option (Bool × cm_W)) (a0 : Nat) (a1 : Nat) (a2 : Nat) (i3 : Int32) (w : cm_W) : Option (Bool × cm_W) := (if cm_ga w .int a0 (i3 + (1 : Int32)) = true then (if cm_sh w a1 = some (.inl 10) then (fn_155 a1 (cm_I w a0 (i3 + (1 : Int32)).toNatClampNeg) w).bind fun v103 => (if cm_ga v103.2 .int a0 (i3 + (1 : Int32)) = true then (if cm_sh v103.2 a2 = some (.inl 11) then (fn_242 a2 (cm_I v103.2 a0 (i3 + (1 : Int32)).toNatClampNeg) v103.2).bind fun v107 => (if v103.1 = v107.1 then fn_300_1773  k_18 a0 a1 a2 i3 v107.2 else some (false, v107.2)) else none) else none) else none) else none)
theorem jt_300_591 (k_18 : Nat → Nat → Nat → Int32 → cm_W → Option (Bool × cm_W)) (hk_18 : ∀ (a0 : Nat) (a1 : Nat) (a2 : Nat) (i3 : Int32) (w : cm_W), sm cm_g 300 ck_300 kq_300 18 [(0, .ref a0), (1, .ref a1), (2, .ref a2), (3, .int i3)] [] w ((k_18 a0 a1 a2 i3 w).map cm_gB)) (a0 : Nat) (a1 : Nat) (a2 : Nat) (i3 : Int32) (w : cm_W) : sm cm_g 300 ck_300 kq_300 591 [(0, .ref a0), (1, .ref a1), (2, .ref a2), (3, .int i3)] [] w ((fn_300_591 k_18 a0 a1 a2 i3 w).map cm_gB) := by
  unfold fn_300_591
  refine sm_seg 5 596 [(0, .ref a0), (1, .ref a1), (2, .ref a2), (3, .int i3)] [.int (i3 + (1 : Int32)), .ref a0, .ref a1] rfl ?_
  refine sm_gd fun h101 => ?_
  refine sm_ai rfl h101 rfl ?_
  show sm _ _ _ _ 597 [(0, .ref a0), (1, .ref a1), (2, .ref a2), (3, .int i3)] [.int (cm_I w a0 (i3 + (1 : Int32)).toNatClampNeg), .ref a1] _ _
  refine sm_gd fun h102 => ?_
  refine sm_cV (as := [.int (cm_I w a0 (i3 + (1 : Int32)).toNatClampNeg)]) (rest := []) rfl rfl rfl rfl h102 (Nat.le_of_ble_eq_true rfl) (ca_155  a1 (cm_I w a0 (i3 + (1 : Int32)).toNatClampNeg) w) fun v103 h104 => ?_
  show sm _ _ _ _ 600 [(0, .ref a0), (1, .ref a1), (2, .ref a2), (3, .int i3)] [.int v103.1] _ _
  refine sm_seg 5 605 [(0, .ref a0), (1, .ref a1), (2, .ref a2), (3, .int i3)] [.int (i3 + (1 : Int32)), .ref a0, .ref a2, .int v103.1] rfl ?_
  refine sm_gd fun h105 => ?_
  refine sm_ai rfl h105 rfl ?_
  show sm _ _ _ _ 606 [(0, .ref a0), (1, .ref a1), (2, .ref a2), (3, .int i3)] [.int (cm_I v103.2 a0 (i3 + (1 : Int32)).toNatClampNeg), .ref a2, .int v103.1] _ _
  refine sm_gd fun h106 => ?_
  refine sm_cV (as := [.int (cm_I v103.2 a0 (i3 + (1 : Int32)).toNatClampNeg)]) (rest := [.int v103.1]) rfl rfl rfl rfl h106 (Nat.le_of_ble_eq_true rfl) (ca_242  a2 (cm_I v103.2 a0 (i3 + (1 : Int32)).toNatClampNeg) v103.2) fun v107 h108 => ?_
  show sm _ _ _ _ 609 [(0, .ref a0), (1, .ref a1), (2, .ref a2), (3, .int i3)] [.int v107.1, .int v103.1] _ _
  refine sm_if (pc1 := 1773) (lv1 := [(0, .ref a0), (1, .ref a1), (2, .ref a2), (3, .int i3)]) (pc2 := 612) (lv2 := [(0, .ref a0), (1, .ref a1), (2, .ref a2), (3, .int i3)]) (st1 := []) rfl rfl rfl (fun h109 => ?_) (fun h109 => ?_)
  · exact jt_300_1773  k_18 hk_18 a0 a1 a2 i3 v107.2
  · refine sm_seg 1 613 [(0, .ref a0), (1, .ref a1), (2, .ref a2), (3, .int i3)] [.int (0 : Int32)] rfl ?_
    exact sm_rBW (b := false) rfl rfl
def fn_300_614 (k_18 : Nat → Nat → Nat → Int32 → cm_W → Option (Bool × cm_W)) (a0 : Nat) (a1 : Nat) (a2 : Nat) (i3 : Int32) (w : cm_W) : Option (Bool × cm_W) := (if cm_ga w .int a0 (i3 + (1 : Int32)) = true then (if cm_ga w .int a0 (i3 + (2 : Int32)) = true then (if cm_sh w a1 = some (.inl 10) then (fn_156 w a1 (cm_I w a0 (i3 + (1 : Int32)).toNatClampNeg) (cm_I w a0 (i3 + (2 : Int32)).toNatClampNeg)).bind fun v113 => (if cm_sh w a2 = some (.inl 11) then (fn_243 w a2 (cm_I w a0 (i3 + (1 : Int32)).toNatClampNeg) (cm_I w a0 (i3 + (2 : Int32)).toNatClampNeg)).bind fun v116 => (if v113 = v116 then fn_300_1773  k_18 a0 a1 a2 i3 w else some (false, w)) else none) else none) else none) else none)
theorem jt_300_614 (k_18 : Nat → Nat → Nat → Int32 → cm_W → Option (Bool × cm_W)) (hk_18 : ∀ (a0 : Nat) (a1 : Nat) (a2 : Nat) (i3 : Int32) (w : cm_W), sm cm_g 300 ck_300 kq_300 18 [(0, .ref a0), (1, .ref a1), (2, .ref a2), (3, .int i3)] [] w ((k_18 a0 a1 a2 i3 w).map cm_gB)) (a0 : Nat) (a1 : Nat) (a2 : Nat) (i3 : Int32) (w : cm_W) : sm cm_g 300 ck_300 kq_300 614 [(0, .ref a0), (1, .ref a1), (2, .ref a2), (3, .int i3)] [] w ((fn_300_614 k_18 a0 a1 a2 i3 w).map cm_gB) := by
  unfold fn_300_614
  refine sm_seg 5 619 [(0, .ref a0), (1, .ref a1), (2, .ref a2), (3, .int i3)] [.int (i3 + (1 : Int32)), .ref a0, .ref a1] rfl ?_
  refine sm_gd fun h110 => ?_
  refine sm_ai rfl h110 rfl ?_
  show sm _ _ _ _ 620 [(0, .ref a0), (1, .ref a1), (2, .ref a2), (3, .int i3)] [.int (cm_I w a0 (i3 + (1 : Int32)).toNatClampNeg), .ref a1] _ _
  refine sm_seg 4 624 [(0, .ref a0), (1, .ref a1), (2, .ref a2), (3, .int i3)] [.int (i3 + (2 : Int32)), .ref a0, .int (cm_I w a0 (i3 + (1 : Int32)).toNatClampNeg), .ref a1] rfl ?_
  refine sm_gd fun h111 => ?_
  refine sm_ai rfl h111 rfl ?_
  show sm _ _ _ _ 625 [(0, .ref a0), (1, .ref a1), (2, .ref a2), (3, .int i3)] [.int (cm_I w a0 (i3 + (2 : Int32)).toNatClampNeg), .int (cm_I w a0 (i3 + (1 : Int32)).toNatClampNeg), .ref a1] _ _
  refine sm_gd fun h112 => ?_
  refine sm_cV (as := [.int (cm_I w a0 (i3 + (1 : Int32)).toNatClampNeg), .int (cm_I w a0 (i3 + (2 : Int32)).toNatClampNeg)]) (rest := []) rfl rfl rfl rfl h112 (Nat.le_of_ble_eq_true rfl) (ca_156 w a1 (cm_I w a0 (i3 + (1 : Int32)).toNatClampNeg) (cm_I w a0 (i3 + (2 : Int32)).toNatClampNeg)) fun v113 h114 => ?_
  show sm _ _ _ _ 628 [(0, .ref a0), (1, .ref a1), (2, .ref a2), (3, .int i3)] [.int v113] _ _
  refine sm_seg 5 633 [(0, .ref a0), (1, .ref a1), (2, .ref a2), (3, .int i3)] [.int (i3 + (1 : Int32)), .ref a0, .ref a2, .int v113] rfl ?_
  refine sm_ai rfl h110 rfl ?_
  show sm _ _ _ _ 634 [(0, .ref a0), (1, .ref a1), (2, .ref a2), (3, .int i3)] [.int (cm_I w a0 (i3 + (1 : Int32)).toNatClampNeg), .ref a2, .int v113] _ _
  refine sm_seg 4 638 [(0, .ref a0), (1, .ref a1), (2, .ref a2), (3, .int i3)] [.int (i3 + (2 : Int32)), .ref a0, .int (cm_I w a0 (i3 + (1 : Int32)).toNatClampNeg), .ref a2, .int v113] rfl ?_
  refine sm_ai rfl h111 rfl ?_
  show sm _ _ _ _ 639 [(0, .ref a0), (1, .ref a1), (2, .ref a2), (3, .int i3)] [.int (cm_I w a0 (i3 + (2 : Int32)).toNatClampNeg), .int (cm_I w a0 (i3 + (1 : Int32)).toNatClampNeg), .ref a2, .int v113] _ _
  refine sm_gd fun h115 => ?_
  refine sm_cV (as := [.int (cm_I w a0 (i3 + (1 : Int32)).toNatClampNeg), .int (cm_I w a0 (i3 + (2 : Int32)).toNatClampNeg)]) (rest := [.int v113]) rfl rfl rfl rfl h115 (Nat.le_of_ble_eq_true rfl) (ca_243 w a2 (cm_I w a0 (i3 + (1 : Int32)).toNatClampNeg) (cm_I w a0 (i3 + (2 : Int32)).toNatClampNeg)) fun v116 h117 => ?_
  show sm _ _ _ _ 642 [(0, .ref a0), (1, .ref a1), (2, .ref a2), (3, .int i3)] [.int v116, .int v113] _ _
  refine sm_if (pc1 := 1773) (lv1 := [(0, .ref a0), (1, .ref a1), (2, .ref a2), (3, .int i3)]) (pc2 := 645) (lv2 := [(0, .ref a0), (1, .ref a1), (2, .ref a2), (3, .int i3)]) (st1 := []) rfl rfl rfl (fun h118 => ?_) (fun h118 => ?_)
  · exact jt_300_1773  k_18 hk_18 a0 a1 a2 i3 w
  · refine sm_seg 1 646 [(0, .ref a0), (1, .ref a1), (2, .ref a2), (3, .int i3)] [.int (0 : Int32)] rfl ?_
    exact sm_rBW (b := false) rfl rfl
def fn_300_647 (k_18 : Nat → Nat → Nat → Int32 → cm_W → Option (Bool × cm_W)) (a0 : Nat) (a1 : Nat) (a2 : Nat) (i3 : Int32) (w : cm_W) : Option (Bool × cm_W) := (if cm_ga w .int a0 (i3 + (1 : Int32)) = true then (if cm_ga w .int a0 (i3 + (2 : Int32)) = true then (if cm_ga w .int a0 (i3 + (3 : Int32)) = true then (if cm_sh w a1 = some (.inl 10) then (fn_157 w a1 (cm_I w a0 (i3 + (1 : Int32)).toNatClampNeg) (cm_I w a0 (i3 + (2 : Int32)).toNatClampNeg) (cm_I w a0 (i3 + (3 : Int32)).toNatClampNeg)).bind fun v123 => (if cm_sh w a2 = some (.inl 11) then (fn_244 w a2 (cm_I w a0 (i3 + (1 : Int32)).toNatClampNeg) (cm_I w a0 (i3 + (2 : Int32)).toNatClampNeg) (cm_I w a0 (i3 + (3 : Int32)).toNatClampNeg)).bind fun v126 => (if v123 = v126 then fn_300_1773  k_18 a0 a1 a2 i3 w else some (false, w)) else none) else none) else none) else none) else none)
theorem jt_300_647 (k_18 : Nat → Nat → Nat → Int32 → cm_W → Option (Bool × cm_W)) (hk_18 : ∀ (a0 : Nat) (a1 : Nat) (a2 : Nat) (i3 : Int32) (w : cm_W), sm cm_g 300 ck_300 kq_300 18 [(0, .ref a0), (1, .ref a1), (2, .ref a2), (3, .int i3)] [] w ((k_18 a0 a1 a2 i3 w).map cm_gB)) (a0 : Nat) (a1 : Nat) (a2 : Nat) (i3 : Int32) (w : cm_W) : sm cm_g 300 ck_300 kq_300 647 [(0, .ref a0), (1, .ref a1), (2, .ref a2), (3, .int i3)] [] w ((fn_300_647 k_18 a0 a1 a2 i3 w).map cm_gB) := by
  unfold fn_300_647
  refine sm_seg 5 652 [(0, .ref a0), (1, .ref a1), (2, .ref a2), (3, .int i3)] [.int (i3 + (1 : Int32)), .ref a0, .ref a1] rfl ?_
  refine sm_gd fun h119 => ?_
  refine sm_ai rfl h119 rfl ?_
  show sm _ _ _ _ 653 [(0, .ref a0), (1, .ref a1), (2, .ref a2), (3, .int i3)] [.int (cm_I w a0 (i3 + (1 : Int32)).toNatClampNeg), .ref a1] _ _
  refine sm_seg 4 657 [(0, .ref a0), (1, .ref a1), (2, .ref a2), (3, .int i3)] [.int (i3 + (2 : Int32)), .ref a0, .int (cm_I w a0 (i3 + (1 : Int32)).toNatClampNeg), .ref a1] rfl ?_
  refine sm_gd fun h120 => ?_
  refine sm_ai rfl h120 rfl ?_
  show sm _ _ _ _ 658 [(0, .ref a0), (1, .ref a1), (2, .ref a2), (3, .int i3)] [.int (cm_I w a0 (i3 + (2 : Int32)).toNatClampNeg), .int (cm_I w a0 (i3 + (1 : Int32)).toNatClampNeg), .ref a1] _ _
  refine sm_seg 4 662 [(0, .ref a0), (1, .ref a1), (2, .ref a2), (3, .int i3)] [.int (i3 + (3 : Int32)), .ref a0, .int (cm_I w a0 (i3 + (2 : Int32)).toNatClampNeg), .int (cm_I w a0 (i3 + (1 : Int32)).toNatClampNeg), .ref a1] rfl ?_
  refine sm_gd fun h121 => ?_
  refine sm_ai rfl h121 rfl ?_
  show sm _ _ _ _ 663 [(0, .ref a0), (1, .ref a1), (2, .ref a2), (3, .int i3)] [.int (cm_I w a0 (i3 + (3 : Int32)).toNatClampNeg), .int (cm_I w a0 (i3 + (2 : Int32)).toNatClampNeg), .int (cm_I w a0 (i3 + (1 : Int32)).toNatClampNeg), .ref a1] _ _
  refine sm_gd fun h122 => ?_
  refine sm_cV (as := [.int (cm_I w a0 (i3 + (1 : Int32)).toNatClampNeg), .int (cm_I w a0 (i3 + (2 : Int32)).toNatClampNeg), .int (cm_I w a0 (i3 + (3 : Int32)).toNatClampNeg)]) (rest := []) rfl rfl rfl rfl h122 (Nat.le_of_ble_eq_true rfl) (ca_157 w a1 (cm_I w a0 (i3 + (1 : Int32)).toNatClampNeg) (cm_I w a0 (i3 + (2 : Int32)).toNatClampNeg) (cm_I w a0 (i3 + (3 : Int32)).toNatClampNeg)) fun v123 h124 => ?_
  show sm _ _ _ _ 666 [(0, .ref a0), (1, .ref a1), (2, .ref a2), (3, .int i3)] [.int v123] _ _
  refine sm_seg 5 671 [(0, .ref a0), (1, .ref a1), (2, .ref a2), (3, .int i3)] [.int (i3 + (1 : Int32)), .ref a0, .ref a2, .int v123] rfl ?_
  refine sm_ai rfl h119 rfl ?_
  show sm _ _ _ _ 672 [(0, .ref a0), (1, .ref a1), (2, .ref a2), (3, .int i3)] [.int (cm_I w a0 (i3 + (1 : Int32)).toNatClampNeg), .ref a2, .int v123] _ _
  refine sm_seg 4 676 [(0, .ref a0), (1, .ref a1), (2, .ref a2), (3, .int i3)] [.int (i3 + (2 : Int32)), .ref a0, .int (cm_I w a0 (i3 + (1 : Int32)).toNatClampNeg), .ref a2, .int v123] rfl ?_
  refine sm_ai rfl h120 rfl ?_
  show sm _ _ _ _ 677 [(0, .ref a0), (1, .ref a1), (2, .ref a2), (3, .int i3)] [.int (cm_I w a0 (i3 + (2 : Int32)).toNatClampNeg), .int (cm_I w a0 (i3 + (1 : Int32)).toNatClampNeg), .ref a2, .int v123] _ _
  refine sm_seg 4 681 [(0, .ref a0), (1, .ref a1), (2, .ref a2), (3, .int i3)] [.int (i3 + (3 : Int32)), .ref a0, .int (cm_I w a0 (i3 + (2 : Int32)).toNatClampNeg), .int (cm_I w a0 (i3 + (1 : Int32)).toNatClampNeg), .ref a2, .int v123] rfl ?_
  refine sm_ai rfl h121 rfl ?_
  show sm _ _ _ _ 682 [(0, .ref a0), (1, .ref a1), (2, .ref a2), (3, .int i3)] [.int (cm_I w a0 (i3 + (3 : Int32)).toNatClampNeg), .int (cm_I w a0 (i3 + (2 : Int32)).toNatClampNeg), .int (cm_I w a0 (i3 + (1 : Int32)).toNatClampNeg), .ref a2, .int v123] _ _
  refine sm_gd fun h125 => ?_
  refine sm_cV (as := [.int (cm_I w a0 (i3 + (1 : Int32)).toNatClampNeg), .int (cm_I w a0 (i3 + (2 : Int32)).toNatClampNeg), .int (cm_I w a0 (i3 + (3 : Int32)).toNatClampNeg)]) (rest := [.int v123]) rfl rfl rfl rfl h125 (Nat.le_of_ble_eq_true rfl) (ca_244 w a2 (cm_I w a0 (i3 + (1 : Int32)).toNatClampNeg) (cm_I w a0 (i3 + (2 : Int32)).toNatClampNeg) (cm_I w a0 (i3 + (3 : Int32)).toNatClampNeg)) fun v126 h127 => ?_
  show sm _ _ _ _ 685 [(0, .ref a0), (1, .ref a1), (2, .ref a2), (3, .int i3)] [.int v126, .int v123] _ _
  refine sm_if (pc1 := 1773) (lv1 := [(0, .ref a0), (1, .ref a1), (2, .ref a2), (3, .int i3)]) (pc2 := 688) (lv2 := [(0, .ref a0), (1, .ref a1), (2, .ref a2), (3, .int i3)]) (st1 := []) rfl rfl rfl (fun h128 => ?_) (fun h128 => ?_)
  · exact jt_300_1773  k_18 hk_18 a0 a1 a2 i3 w
  · refine sm_seg 1 689 [(0, .ref a0), (1, .ref a1), (2, .ref a2), (3, .int i3)] [.int (0 : Int32)] rfl ?_
    exact sm_rBW (b := false) rfl rfl
def fn_300_690 (k_18 : Nat → Nat → Nat → Int32 → cm_W → Option (Bool × cm_W)) (a0 : Nat) (a1 : Nat) (a2 : Nat) (i3 : Int32) (w : cm_W) : Option (Bool × cm_W) := (if cm_ga w .int a0 (i3 + (1 : Int32)) = true then (if cm_ga w .int a0 (i3 + (2 : Int32)) = true then (if cm_sh w a1 = some (.inl 10) then (fn_158 a1 (cm_I w a0 (i3 + (1 : Int32)).toNatClampNeg) (cm_I w a0 (i3 + (2 : Int32)).toNatClampNeg) w).bind fun v132 => (if cm_ga v132.2 .int a0 (i3 + (1 : Int32)) = true then (if cm_ga v132.2 .int a0 (i3 + (2 : Int32)) = true then (if cm_sh v132.2 a2 = some (.inl 11) then (fn_248 a2 (cm_I v132.2 a0 (i3 + (1 : Int32)).toNatClampNeg) (cm_I v132.2 a0 (i3 + (2 : Int32)).toNatClampNeg) v132.2).bind fun v137 => (if v132.1 = v137.1 then fn_300_1773  k_18 a0 a1 a2 i3 v137.2 else some (false, v137.2)) else none) else none) else none) else none) else none) else none)
theorem jt_300_690 (k_18 : Nat → Nat → Nat → Int32 → cm_W → Option (Bool × cm_W)) (hk_18 : ∀ (a0 : Nat) (a1 : Nat) (a2 : Nat) (i3 : Int32) (w : cm_W), sm cm_g 300 ck_300 kq_300 18 [(0, .ref a0), (1, .ref a1), (2, .ref a2), (3, .int i3)] [] w ((k_18 a0 a1 a2 i3 w).map cm_gB)) (a0 : Nat) (a1 : Nat) (a2 : Nat) (i3 : Int32) (w : cm_W) : sm cm_g 300 ck_300 kq_300 690 [(0, .ref a0), (1, .ref a1), (2, .ref a2), (3, .int i3)] [] w ((fn_300_690 k_18 a0 a1 a2 i3 w).map cm_gB) := by
  unfold fn_300_690
  refine sm_seg 5 695 [(0, .ref a0), (1, .ref a1), (2, .ref a2), (3, .int i3)] [.int (i3 + (1 : Int32)), .ref a0, .ref a1] rfl ?_
  refine sm_gd fun h129 => ?_
  refine sm_ai rfl h129 rfl ?_
  show sm _ _ _ _ 696 [(0, .ref a0), (1, .ref a1), (2, .ref a2), (3, .int i3)] [.int (cm_I w a0 (i3 + (1 : Int32)).toNatClampNeg), .ref a1] _ _
  refine sm_seg 4 700 [(0, .ref a0), (1, .ref a1), (2, .ref a2), (3, .int i3)] [.int (i3 + (2 : Int32)), .ref a0, .int (cm_I w a0 (i3 + (1 : Int32)).toNatClampNeg), .ref a1] rfl ?_
  refine sm_gd fun h130 => ?_
  refine sm_ai rfl h130 rfl ?_
  show sm _ _ _ _ 701 [(0, .ref a0), (1, .ref a1), (2, .ref a2), (3, .int i3)] [.int (cm_I w a0 (i3 + (2 : Int32)).toNatClampNeg), .int (cm_I w a0 (i3 + (1 : Int32)).toNatClampNeg), .ref a1] _ _
  refine sm_gd fun h131 => ?_
  refine sm_cV (as := [.int (cm_I w a0 (i3 + (1 : Int32)).toNatClampNeg), .int (cm_I w a0 (i3 + (2 : Int32)).toNatClampNeg)]) (rest := []) rfl rfl rfl rfl h131 (Nat.le_of_ble_eq_true rfl) (ca_158  a1 (cm_I w a0 (i3 + (1 : Int32)).toNatClampNeg) (cm_I w a0 (i3 + (2 : Int32)).toNatClampNeg) w) fun v132 h133 => ?_
  show sm _ _ _ _ 704 [(0, .ref a0), (1, .ref a1), (2, .ref a2), (3, .int i3)] [.int v132.1] _ _
  refine sm_seg 5 709 [(0, .ref a0), (1, .ref a1), (2, .ref a2), (3, .int i3)] [.int (i3 + (1 : Int32)), .ref a0, .ref a2, .int v132.1] rfl ?_
  refine sm_gd fun h134 => ?_
  refine sm_ai rfl h134 rfl ?_
  show sm _ _ _ _ 710 [(0, .ref a0), (1, .ref a1), (2, .ref a2), (3, .int i3)] [.int (cm_I v132.2 a0 (i3 + (1 : Int32)).toNatClampNeg), .ref a2, .int v132.1] _ _
  refine sm_seg 4 714 [(0, .ref a0), (1, .ref a1), (2, .ref a2), (3, .int i3)] [.int (i3 + (2 : Int32)), .ref a0, .int (cm_I v132.2 a0 (i3 + (1 : Int32)).toNatClampNeg), .ref a2, .int v132.1] rfl ?_
  refine sm_gd fun h135 => ?_
  refine sm_ai rfl h135 rfl ?_
  show sm _ _ _ _ 715 [(0, .ref a0), (1, .ref a1), (2, .ref a2), (3, .int i3)] [.int (cm_I v132.2 a0 (i3 + (2 : Int32)).toNatClampNeg), .int (cm_I v132.2 a0 (i3 + (1 : Int32)).toNatClampNeg), .ref a2, .int v132.1] _ _
  refine sm_gd fun h136 => ?_
  refine sm_cV (as := [.int (cm_I v132.2 a0 (i3 + (1 : Int32)).toNatClampNeg), .int (cm_I v132.2 a0 (i3 + (2 : Int32)).toNatClampNeg)]) (rest := [.int v132.1]) rfl rfl rfl rfl h136 (Nat.le_of_ble_eq_true rfl) (ca_248  a2 (cm_I v132.2 a0 (i3 + (1 : Int32)).toNatClampNeg) (cm_I v132.2 a0 (i3 + (2 : Int32)).toNatClampNeg) v132.2) fun v137 h138 => ?_
  show sm _ _ _ _ 718 [(0, .ref a0), (1, .ref a1), (2, .ref a2), (3, .int i3)] [.int v137.1, .int v132.1] _ _
  refine sm_if (pc1 := 1773) (lv1 := [(0, .ref a0), (1, .ref a1), (2, .ref a2), (3, .int i3)]) (pc2 := 721) (lv2 := [(0, .ref a0), (1, .ref a1), (2, .ref a2), (3, .int i3)]) (st1 := []) rfl rfl rfl (fun h139 => ?_) (fun h139 => ?_)
  · exact jt_300_1773  k_18 hk_18 a0 a1 a2 i3 v137.2
  · refine sm_seg 1 722 [(0, .ref a0), (1, .ref a1), (2, .ref a2), (3, .int i3)] [.int (0 : Int32)] rfl ?_
    exact sm_rBW (b := false) rfl rfl
def fn_300_723 (k_18 : Nat → Nat → Nat → Int32 → cm_W → Option (Bool × cm_W)) (a0 : Nat) (a1 : Nat) (a2 : Nat) (i3 : Int32) (w : cm_W) : Option (Bool × cm_W) := (if cm_ga w .int a0 (i3 + (1 : Int32)) = true then (if cm_sh w a1 = some (.inl 10) then (fn_159 a1 (cm_I w a0 (i3 + (1 : Int32)).toNatClampNeg) w).bind fun v142 => (if cm_ga v142.2 .int a0 (i3 + (1 : Int32)) = true then (if cm_sh v142.2 a2 = some (.inl 11) then (fn_249 a2 (cm_I v142.2 a0 (i3 + (1 : Int32)).toNatClampNeg) v142.2).bind fun v146 => (if v142.1 = v146.1 then fn_300_1773  k_18 a0 a1 a2 i3 v146.2 else some (false, v146.2)) else none) else none) else none) else none)
theorem jt_300_723 (k_18 : Nat → Nat → Nat → Int32 → cm_W → Option (Bool × cm_W)) (hk_18 : ∀ (a0 : Nat) (a1 : Nat) (a2 : Nat) (i3 : Int32) (w : cm_W), sm cm_g 300 ck_300 kq_300 18 [(0, .ref a0), (1, .ref a1), (2, .ref a2), (3, .int i3)] [] w ((k_18 a0 a1 a2 i3 w).map cm_gB)) (a0 : Nat) (a1 : Nat) (a2 : Nat) (i3 : Int32) (w : cm_W) : sm cm_g 300 ck_300 kq_300 723 [(0, .ref a0), (1, .ref a1), (2, .ref a2), (3, .int i3)] [] w ((fn_300_723 k_18 a0 a1 a2 i3 w).map cm_gB) := by
  unfold fn_300_723
  refine sm_seg 5 728 [(0, .ref a0), (1, .ref a1), (2, .ref a2), (3, .int i3)] [.int (i3 + (1 : Int32)), .ref a0, .ref a1] rfl ?_
  refine sm_gd fun h140 => ?_
  refine sm_ai rfl h140 rfl ?_
  show sm _ _ _ _ 729 [(0, .ref a0), (1, .ref a1), (2, .ref a2), (3, .int i3)] [.int (cm_I w a0 (i3 + (1 : Int32)).toNatClampNeg), .ref a1] _ _
  refine sm_gd fun h141 => ?_
  refine sm_cV (as := [.int (cm_I w a0 (i3 + (1 : Int32)).toNatClampNeg)]) (rest := []) rfl rfl rfl rfl h141 (Nat.le_of_ble_eq_true rfl) (ca_159  a1 (cm_I w a0 (i3 + (1 : Int32)).toNatClampNeg) w) fun v142 h143 => ?_
  show sm _ _ _ _ 732 [(0, .ref a0), (1, .ref a1), (2, .ref a2), (3, .int i3)] [.int v142.1] _ _
  refine sm_seg 5 737 [(0, .ref a0), (1, .ref a1), (2, .ref a2), (3, .int i3)] [.int (i3 + (1 : Int32)), .ref a0, .ref a2, .int v142.1] rfl ?_
  refine sm_gd fun h144 => ?_
  refine sm_ai rfl h144 rfl ?_
  show sm _ _ _ _ 738 [(0, .ref a0), (1, .ref a1), (2, .ref a2), (3, .int i3)] [.int (cm_I v142.2 a0 (i3 + (1 : Int32)).toNatClampNeg), .ref a2, .int v142.1] _ _
  refine sm_gd fun h145 => ?_
  refine sm_cV (as := [.int (cm_I v142.2 a0 (i3 + (1 : Int32)).toNatClampNeg)]) (rest := [.int v142.1]) rfl rfl rfl rfl h145 (Nat.le_of_ble_eq_true rfl) (ca_249  a2 (cm_I v142.2 a0 (i3 + (1 : Int32)).toNatClampNeg) v142.2) fun v146 h147 => ?_
  show sm _ _ _ _ 741 [(0, .ref a0), (1, .ref a1), (2, .ref a2), (3, .int i3)] [.int v146.1, .int v142.1] _ _
  refine sm_if (pc1 := 1773) (lv1 := [(0, .ref a0), (1, .ref a1), (2, .ref a2), (3, .int i3)]) (pc2 := 744) (lv2 := [(0, .ref a0), (1, .ref a1), (2, .ref a2), (3, .int i3)]) (st1 := []) rfl rfl rfl (fun h148 => ?_) (fun h148 => ?_)
  · exact jt_300_1773  k_18 hk_18 a0 a1 a2 i3 v146.2
  · refine sm_seg 1 745 [(0, .ref a0), (1, .ref a1), (2, .ref a2), (3, .int i3)] [.int (0 : Int32)] rfl ?_
    exact sm_rBW (b := false) rfl rfl
def fn_300_746 (k_18 : Nat → Nat → Nat → Int32 → cm_W → Option (Bool × cm_W)) (a0 : Nat) (a1 : Nat) (a2 : Nat) (i3 : Int32) (w : cm_W) : Option (Bool × cm_W) := (if cm_ga w .int a0 (i3 + (1 : Int32)) = true then (if cm_ga w .int a0 (i3 + (2 : Int32)) = true then (if cm_ga w .int a0 (i3 + (3 : Int32)) = true then (if cm_sh w a1 = some (.inl 10) then (fn_160 a1 (cm_I w a0 (i3 + (1 : Int32)).toNatClampNeg) (cm_I w a0 (i3 + (2 : Int32)).toNatClampNeg) (cm_I w a0 (i3 + (3 : Int32)).toNatClampNeg) w).bind fun v153 => (if cm_ga v153.2 .int a0 (i3 + (1 : Int32)) = true then (if cm_ga v153.2 .int a0 (i3 + (2 : Int32)) = true then (if cm_ga v153.2 .int a0 (i3 + (3 : Int32)) = true then (if cm_sh v153.2 a2 = some (.inl 11) then (fn_250 a2 (cm_I v153.2 a0 (i3 + (1 : Int32)).toNatClampNeg) (cm_I v153.2 a0 (i3 + (2 : Int32)).toNatClampNeg) (cm_I v153.2 a0 (i3 + (3 : Int32)).toNatClampNeg) v153.2).bind fun v159 => (if (cm_b v153.1) = (cm_b v159.1) then fn_300_1773  k_18 a0 a1 a2 i3 v159.2 else some (false, v159.2)) else none) else none) else none) else none) else none) else none) else none) else none)
theorem jt_300_746 (k_18 : Nat → Nat → Nat → Int32 → cm_W → Option (Bool × cm_W)) (hk_18 : ∀ (a0 : Nat) (a1 : Nat) (a2 : Nat) (i3 : Int32) (w : cm_W), sm cm_g 300 ck_300 kq_300 18 [(0, .ref a0), (1, .ref a1), (2, .ref a2), (3, .int i3)] [] w ((k_18 a0 a1 a2 i3 w).map cm_gB)) (a0 : Nat) (a1 : Nat) (a2 : Nat) (i3 : Int32) (w : cm_W) : sm cm_g 300 ck_300 kq_300 746 [(0, .ref a0), (1, .ref a1), (2, .ref a2), (3, .int i3)] [] w ((fn_300_746 k_18 a0 a1 a2 i3 w).map cm_gB) := by
  unfold fn_300_746
  refine sm_seg 5 751 [(0, .ref a0), (1, .ref a1), (2, .ref a2), (3, .int i3)] [.int (i3 + (1 : Int32)), .ref a0, .ref a1] rfl ?_
  refine sm_gd fun h149 => ?_
  refine sm_ai rfl h149 rfl ?_
  show sm _ _ _ _ 752 [(0, .ref a0), (1, .ref a1), (2, .ref a2), (3, .int i3)] [.int (cm_I w a0 (i3 + (1 : Int32)).toNatClampNeg), .ref a1] _ _
  refine sm_seg 4 756 [(0, .ref a0), (1, .ref a1), (2, .ref a2), (3, .int i3)] [.int (i3 + (2 : Int32)), .ref a0, .int (cm_I w a0 (i3 + (1 : Int32)).toNatClampNeg), .ref a1] rfl ?_
  refine sm_gd fun h150 => ?_
  refine sm_ai rfl h150 rfl ?_
  show sm _ _ _ _ 757 [(0, .ref a0), (1, .ref a1), (2, .ref a2), (3, .int i3)] [.int (cm_I w a0 (i3 + (2 : Int32)).toNatClampNeg), .int (cm_I w a0 (i3 + (1 : Int32)).toNatClampNeg), .ref a1] _ _
  refine sm_seg 4 761 [(0, .ref a0), (1, .ref a1), (2, .ref a2), (3, .int i3)] [.int (i3 + (3 : Int32)), .ref a0, .int (cm_I w a0 (i3 + (2 : Int32)).toNatClampNeg), .int (cm_I w a0 (i3 + (1 : Int32)).toNatClampNeg), .ref a1] rfl ?_
  refine sm_gd fun h151 => ?_
  refine sm_ai rfl h151 rfl ?_
  show sm _ _ _ _ 762 [(0, .ref a0), (1, .ref a1), (2, .ref a2), (3, .int i3)] [.int (cm_I w a0 (i3 + (3 : Int32)).toNatClampNeg), .int (cm_I w a0 (i3 + (2 : Int32)).toNatClampNeg), .int (cm_I w a0 (i3 + (1 : Int32)).toNatClampNeg), .ref a1] _ _
  refine sm_gd fun h152 => ?_
  refine sm_cV (as := [.int (cm_I w a0 (i3 + (1 : Int32)).toNatClampNeg), .int (cm_I w a0 (i3 + (2 : Int32)).toNatClampNeg), .int (cm_I w a0 (i3 + (3 : Int32)).toNatClampNeg)]) (rest := []) rfl rfl rfl rfl h152 (Nat.le_of_ble_eq_true rfl) (ca_160  a1 (cm_I w a0 (i3 + (1 : Int32)).toNatClampNeg) (cm_I w a0 (i3 + (2 : Int32)).toNatClampNeg) (cm_I w a0 (i3 + (3 : Int32)).toNatClampNeg) w) fun v153 h154 => ?_
  show sm _ _ _ _ 765 [(0, .ref a0), (1, .ref a1), (2, .ref a2), (3, .int i3)] [.int (cm_b v153.1)] _ _
  refine sm_seg 5 770 [(0, .ref a0), (1, .ref a1), (2, .ref a2), (3, .int i3)] [.int (i3 + (1 : Int32)), .ref a0, .ref a2, .int (cm_b v153.1)] rfl ?_
  refine sm_gd fun h155 => ?_
  refine sm_ai rfl h155 rfl ?_
  show sm _ _ _ _ 771 [(0, .ref a0), (1, .ref a1), (2, .ref a2), (3, .int i3)] [.int (cm_I v153.2 a0 (i3 + (1 : Int32)).toNatClampNeg), .ref a2, .int (cm_b v153.1)] _ _
  refine sm_seg 4 775 [(0, .ref a0), (1, .ref a1), (2, .ref a2), (3, .int i3)] [.int (i3 + (2 : Int32)), .ref a0, .int (cm_I v153.2 a0 (i3 + (1 : Int32)).toNatClampNeg), .ref a2, .int (cm_b v153.1)] rfl ?_
  refine sm_gd fun h156 => ?_
  refine sm_ai rfl h156 rfl ?_
  show sm _ _ _ _ 776 [(0, .ref a0), (1, .ref a1), (2, .ref a2), (3, .int i3)] [.int (cm_I v153.2 a0 (i3 + (2 : Int32)).toNatClampNeg), .int (cm_I v153.2 a0 (i3 + (1 : Int32)).toNatClampNeg), .ref a2, .int (cm_b v153.1)] _ _
  refine sm_seg 4 780 [(0, .ref a0), (1, .ref a1), (2, .ref a2), (3, .int i3)] [.int (i3 + (3 : Int32)), .ref a0, .int (cm_I v153.2 a0 (i3 + (2 : Int32)).toNatClampNeg), .int (cm_I v153.2 a0 (i3 + (1 : Int32)).toNatClampNeg), .ref a2, .int (cm_b v153.1)] rfl ?_
  refine sm_gd fun h157 => ?_
  refine sm_ai rfl h157 rfl ?_
  show sm _ _ _ _ 781 [(0, .ref a0), (1, .ref a1), (2, .ref a2), (3, .int i3)] [.int (cm_I v153.2 a0 (i3 + (3 : Int32)).toNatClampNeg), .int (cm_I v153.2 a0 (i3 + (2 : Int32)).toNatClampNeg), .int (cm_I v153.2 a0 (i3 + (1 : Int32)).toNatClampNeg), .ref a2, .int (cm_b v153.1)] _ _
  refine sm_gd fun h158 => ?_
  refine sm_cV (as := [.int (cm_I v153.2 a0 (i3 + (1 : Int32)).toNatClampNeg), .int (cm_I v153.2 a0 (i3 + (2 : Int32)).toNatClampNeg), .int (cm_I v153.2 a0 (i3 + (3 : Int32)).toNatClampNeg)]) (rest := [.int (cm_b v153.1)]) rfl rfl rfl rfl h158 (Nat.le_of_ble_eq_true rfl) (ca_250  a2 (cm_I v153.2 a0 (i3 + (1 : Int32)).toNatClampNeg) (cm_I v153.2 a0 (i3 + (2 : Int32)).toNatClampNeg) (cm_I v153.2 a0 (i3 + (3 : Int32)).toNatClampNeg) v153.2) fun v159 h160 => ?_
  show sm _ _ _ _ 784 [(0, .ref a0), (1, .ref a1), (2, .ref a2), (3, .int i3)] [.int (cm_b v159.1), .int (cm_b v153.1)] _ _
  refine sm_if (pc1 := 1773) (lv1 := [(0, .ref a0), (1, .ref a1), (2, .ref a2), (3, .int i3)]) (pc2 := 787) (lv2 := [(0, .ref a0), (1, .ref a1), (2, .ref a2), (3, .int i3)]) (st1 := []) rfl rfl rfl (fun h161 => ?_) (fun h161 => ?_)
  · exact jt_300_1773  k_18 hk_18 a0 a1 a2 i3 v159.2
  · refine sm_seg 1 788 [(0, .ref a0), (1, .ref a1), (2, .ref a2), (3, .int i3)] [.int (0 : Int32)] rfl ?_
    exact sm_rBW (b := false) rfl rfl
def fn_300_789 (k_18 : Nat → Nat → Nat → Int32 → cm_W → Option (Bool × cm_W)) (a0 : Nat) (a1 : Nat) (a2 : Nat) (i3 : Int32) (w : cm_W) : Option (Bool × cm_W) := (if cm_ga w .int a0 (i3 + (1 : Int32)) = true then (if cm_sh w a1 = some (.inl 10) then (fn_161 a1 (cm_I w a0 (i3 + (1 : Int32)).toNatClampNeg) w).bind fun v164 => (if cm_ga v164.2 .int a0 (i3 + (1 : Int32)) = true then (if cm_sh v164.2 a2 = some (.inl 11) then (fn_254 v164.2 a2 (cm_I v164.2 a0 (i3 + (1 : Int32)).toNatClampNeg)).bind fun v168 => (if v164.1 = v168 then fn_300_1773  k_18 a0 a1 a2 i3 v164.2 else some (false, v164.2)) else none) else none) else none) else none)
theorem jt_300_789 (k_18 : Nat → Nat → Nat → Int32 → cm_W → Option (Bool × cm_W)) (hk_18 : ∀ (a0 : Nat) (a1 : Nat) (a2 : Nat) (i3 : Int32) (w : cm_W), sm cm_g 300 ck_300 kq_300 18 [(0, .ref a0), (1, .ref a1), (2, .ref a2), (3, .int i3)] [] w ((k_18 a0 a1 a2 i3 w).map cm_gB)) (a0 : Nat) (a1 : Nat) (a2 : Nat) (i3 : Int32) (w : cm_W) : sm cm_g 300 ck_300 kq_300 789 [(0, .ref a0), (1, .ref a1), (2, .ref a2), (3, .int i3)] [] w ((fn_300_789 k_18 a0 a1 a2 i3 w).map cm_gB) := by
  unfold fn_300_789
  refine sm_seg 5 794 [(0, .ref a0), (1, .ref a1), (2, .ref a2), (3, .int i3)] [.int (i3 + (1 : Int32)), .ref a0, .ref a1] rfl ?_
  refine sm_gd fun h162 => ?_
  refine sm_ai rfl h162 rfl ?_
  show sm _ _ _ _ 795 [(0, .ref a0), (1, .ref a1), (2, .ref a2), (3, .int i3)] [.int (cm_I w a0 (i3 + (1 : Int32)).toNatClampNeg), .ref a1] _ _
  refine sm_gd fun h163 => ?_
  refine sm_cV (as := [.int (cm_I w a0 (i3 + (1 : Int32)).toNatClampNeg)]) (rest := []) rfl rfl rfl rfl h163 (Nat.le_of_ble_eq_true rfl) (ca_161  a1 (cm_I w a0 (i3 + (1 : Int32)).toNatClampNeg) w) fun v164 h165 => ?_
  show sm _ _ _ _ 798 [(0, .ref a0), (1, .ref a1), (2, .ref a2), (3, .int i3)] [.int v164.1] _ _
  refine sm_seg 5 803 [(0, .ref a0), (1, .ref a1), (2, .ref a2), (3, .int i3)] [.int (i3 + (1 : Int32)), .ref a0, .ref a2, .int v164.1] rfl ?_
  refine sm_gd fun h166 => ?_
  refine sm_ai rfl h166 rfl ?_
  show sm _ _ _ _ 804 [(0, .ref a0), (1, .ref a1), (2, .ref a2), (3, .int i3)] [.int (cm_I v164.2 a0 (i3 + (1 : Int32)).toNatClampNeg), .ref a2, .int v164.1] _ _
  refine sm_gd fun h167 => ?_
  refine sm_cV (as := [.int (cm_I v164.2 a0 (i3 + (1 : Int32)).toNatClampNeg)]) (rest := [.int v164.1]) rfl rfl rfl rfl h167 (Nat.le_of_ble_eq_true rfl) (ca_254 v164.2 a2 (cm_I v164.2 a0 (i3 + (1 : Int32)).toNatClampNeg)) fun v168 h169 => ?_
  show sm _ _ _ _ 807 [(0, .ref a0), (1, .ref a1), (2, .ref a2), (3, .int i3)] [.int v168, .int v164.1] _ _
  refine sm_if (pc1 := 1773) (lv1 := [(0, .ref a0), (1, .ref a1), (2, .ref a2), (3, .int i3)]) (pc2 := 810) (lv2 := [(0, .ref a0), (1, .ref a1), (2, .ref a2), (3, .int i3)]) (st1 := []) rfl rfl rfl (fun h170 => ?_) (fun h170 => ?_)
  · exact jt_300_1773  k_18 hk_18 a0 a1 a2 i3 v164.2
  · refine sm_seg 1 811 [(0, .ref a0), (1, .ref a1), (2, .ref a2), (3, .int i3)] [.int (0 : Int32)] rfl ?_
    exact sm_rBW (b := false) rfl rfl
def fn_300_812 (k_18 : Nat → Nat → Nat → Int32 → cm_W → Option (Bool × cm_W)) (a0 : Nat) (a1 : Nat) (a2 : Nat) (i3 : Int32) (w : cm_W) : Option (Bool × cm_W) := (if cm_sh w a1 = some (.inl 10) then (fn_162 a1 w).bind fun v172 => (if cm_sh v172.2 a2 = some (.inl 11) then (fn_255 v172.2 a2).bind fun v175 => (if v172.1 = v175 then fn_300_1773  k_18 a0 a1 a2 i3 v172.2 else some (false, v172.2)) else none) else none)
theorem jt_300_812 (k_18 : Nat → Nat → Nat → Int32 → cm_W → Option (Bool × cm_W)) (hk_18 : ∀ (a0 : Nat) (a1 : Nat) (a2 : Nat) (i3 : Int32) (w : cm_W), sm cm_g 300 ck_300 kq_300 18 [(0, .ref a0), (1, .ref a1), (2, .ref a2), (3, .int i3)] [] w ((k_18 a0 a1 a2 i3 w).map cm_gB)) (a0 : Nat) (a1 : Nat) (a2 : Nat) (i3 : Int32) (w : cm_W) : sm cm_g 300 ck_300 kq_300 812 [(0, .ref a0), (1, .ref a1), (2, .ref a2), (3, .int i3)] [] w ((fn_300_812 k_18 a0 a1 a2 i3 w).map cm_gB) := by
  unfold fn_300_812
  refine sm_seg 1 813 [(0, .ref a0), (1, .ref a1), (2, .ref a2), (3, .int i3)] [.ref a1] rfl ?_
  refine sm_gd fun h171 => ?_
  refine sm_cV (as := []) (rest := []) rfl rfl rfl rfl h171 (Nat.le_of_ble_eq_true rfl) (ca_162  a1 w) fun v172 h173 => ?_
  show sm _ _ _ _ 816 [(0, .ref a0), (1, .ref a1), (2, .ref a2), (3, .int i3)] [.int v172.1] _ _
  refine sm_seg 1 817 [(0, .ref a0), (1, .ref a1), (2, .ref a2), (3, .int i3)] [.ref a2, .int v172.1] rfl ?_
  refine sm_gd fun h174 => ?_
  refine sm_cV (as := []) (rest := [.int v172.1]) rfl rfl rfl rfl h174 (Nat.le_of_ble_eq_true rfl) (ca_255 v172.2 a2) fun v175 h176 => ?_
  show sm _ _ _ _ 820 [(0, .ref a0), (1, .ref a1), (2, .ref a2), (3, .int i3)] [.int v175, .int v172.1] _ _
  refine sm_if (pc1 := 1773) (lv1 := [(0, .ref a0), (1, .ref a1), (2, .ref a2), (3, .int i3)]) (pc2 := 823) (lv2 := [(0, .ref a0), (1, .ref a1), (2, .ref a2), (3, .int i3)]) (st1 := []) rfl rfl rfl (fun h177 => ?_) (fun h177 => ?_)
  · exact jt_300_1773  k_18 hk_18 a0 a1 a2 i3 v172.2
  · refine sm_seg 1 824 [(0, .ref a0), (1, .ref a1), (2, .ref a2), (3, .int i3)] [.int (0 : Int32)] rfl ?_
    exact sm_rBW (b := false) rfl rfl
def fn_300_825 (k_18 : Nat → Nat → Nat → Int32 → cm_W → Option (Bool × cm_W)) (a0 : Nat) (a1 : Nat) (a2 : Nat) (i3 : Int32) (w : cm_W) : Option (Bool × cm_W) := (if cm_ga w .int a0 (i3 + (1 : Int32)) = true then (if cm_ga w .int a0 (i3 + (2 : Int32)) = true then (if cm_ga w .int a0 (i3 + (3 : Int32)) = true then (if cm_ga w .int a0 (i3 + (4 : Int32)) = true then (if cm_sh w a1 = some (.inl 10) then (fn_163 a1 (cm_I w a0 (i3 + (1 : Int32)).toNatClampNeg) (cm_I w a0 (i3 + (2 : Int32)).toNatClampNeg) (cm_I w a0 (i3 + (3 : Int32)).toNatClampNeg) (cm_I w a0 (i3 + (4 : Int32)).toNatClampNeg) w).bind fun v183 => (if cm_ga v183.2 .int a0 (i3 + (1 : Int32)) = true then (if cm_ga v183.2 .int a0 (i3 + (2 : Int32)) = true then (if cm_ga v183.2 .int a0 (i3 + (3 : Int32)) = true then (if cm_ga v183.2 .int a0 (i3 + (4 : Int32)) = true then (if cm_sh v183.2 a2 = some (.inl 11) then (fn_257 a2 (cm_I v183.2 a0 (i3 + (1 : Int32)).toNatClampNeg) (cm_I v183.2 a0 (i3 + (2 : Int32)).toNatClampNeg) (cm_I v183.2 a0 (i3 + (3 : Int32)).toNatClampNeg) (cm_I v183.2 a0 (i3 + (4 : Int32)).toNatClampNeg) v183.2).bind fun v190 => (if v183.1 = v190.1 then fn_300_1773  k_18 a0 a1 a2 i3 v190.2 else some (false, v190.2)) else none) else none) else none) else none) else none) else none) else none) else none) else none) else none)
theorem jt_300_825 (k_18 : Nat → Nat → Nat → Int32 → cm_W → Option (Bool × cm_W)) (hk_18 : ∀ (a0 : Nat) (a1 : Nat) (a2 : Nat) (i3 : Int32) (w : cm_W), sm cm_g 300 ck_300 kq_300 18 [(0, .ref a0), (1, .ref a1), (2, .ref a2), (3, .int i3)] [] w ((k_18 a0 a1 a2 i3 w).map cm_gB)) (a0 : Nat) (a1 : Nat) (a2 : Nat) (i3 : Int32) (w : cm_W) : sm cm_g 300 ck_300 kq_300 825 [(0, .ref a0), (1, .ref a1), (2, .ref a2), (3, .int i3)] [] w ((fn_300_825 k_18 a0 a1 a2 i3 w).map cm_gB) := by
  unfold fn_300_825
  refine sm_seg 5 830 [(0, .ref a0), (1, .ref a1), (2, .ref a2), (3, .int i3)] [.int (i3 + (1 : Int32)), .ref a0, .ref a1] rfl ?_
  refine sm_gd fun h178 => ?_
  refine sm_ai rfl h178 rfl ?_
  show sm _ _ _ _ 831 [(0, .ref a0), (1, .ref a1), (2, .ref a2), (3, .int i3)] [.int (cm_I w a0 (i3 + (1 : Int32)).toNatClampNeg), .ref a1] _ _
  refine sm_seg 4 835 [(0, .ref a0), (1, .ref a1), (2, .ref a2), (3, .int i3)] [.int (i3 + (2 : Int32)), .ref a0, .int (cm_I w a0 (i3 + (1 : Int32)).toNatClampNeg), .ref a1] rfl ?_
  refine sm_gd fun h179 => ?_
  refine sm_ai rfl h179 rfl ?_
  show sm _ _ _ _ 836 [(0, .ref a0), (1, .ref a1), (2, .ref a2), (3, .int i3)] [.int (cm_I w a0 (i3 + (2 : Int32)).toNatClampNeg), .int (cm_I w a0 (i3 + (1 : Int32)).toNatClampNeg), .ref a1] _ _
  refine sm_seg 4 840 [(0, .ref a0), (1, .ref a1), (2, .ref a2), (3, .int i3)] [.int (i3 + (3 : Int32)), .ref a0, .int (cm_I w a0 (i3 + (2 : Int32)).toNatClampNeg), .int (cm_I w a0 (i3 + (1 : Int32)).toNatClampNeg), .ref a1] rfl ?_
  refine sm_gd fun h180 => ?_
  refine sm_ai rfl h180 rfl ?_
  show sm _ _ _ _ 841 [(0, .ref a0), (1, .ref a1), (2, .ref a2), (3, .int i3)] [.int (cm_I w a0 (i3 + (3 : Int32)).toNatClampNeg), .int (cm_I w a0 (i3 + (2 : Int32)).toNatClampNeg), .int (cm_I w a0 (i3 + (1 : Int32)).toNatClampNeg), .ref a1] _ _
  refine sm_seg 4 845 [(0, .ref a0), (1, .ref a1), (2, .ref a2), (3, .int i3)] [.int (i3 + (4 : Int32)), .ref a0, .int (cm_I w a0 (i3 + (3 : Int32)).toNatClampNeg), .int (cm_I w a0 (i3 + (2 : Int32)).toNatClampNeg), .int (cm_I w a0 (i3 + (1 : Int32)).toNatClampNeg), .ref a1] rfl ?_
  refine sm_gd fun h181 => ?_
  refine sm_ai rfl h181 rfl ?_
  show sm _ _ _ _ 846 [(0, .ref a0), (1, .ref a1), (2, .ref a2), (3, .int i3)] [.int (cm_I w a0 (i3 + (4 : Int32)).toNatClampNeg), .int (cm_I w a0 (i3 + (3 : Int32)).toNatClampNeg), .int (cm_I w a0 (i3 + (2 : Int32)).toNatClampNeg), .int (cm_I w a0 (i3 + (1 : Int32)).toNatClampNeg), .ref a1] _ _
  refine sm_gd fun h182 => ?_
  refine sm_cV (as := [.int (cm_I w a0 (i3 + (1 : Int32)).toNatClampNeg), .int (cm_I w a0 (i3 + (2 : Int32)).toNatClampNeg), .int (cm_I w a0 (i3 + (3 : Int32)).toNatClampNeg), .int (cm_I w a0 (i3 + (4 : Int32)).toNatClampNeg)]) (rest := []) rfl rfl rfl rfl h182 (Nat.le_of_ble_eq_true rfl) (ca_163  a1 (cm_I w a0 (i3 + (1 : Int32)).toNatClampNeg) (cm_I w a0 (i3 + (2 : Int32)).toNatClampNeg) (cm_I w a0 (i3 + (3 : Int32)).toNatClampNeg) (cm_I w a0 (i3 + (4 : Int32)).toNatClampNeg) w) fun v183 h184 => ?_
  show sm _ _ _ _ 849 [(0, .ref a0), (1, .ref a1), (2, .ref a2), (3, .int i3)] [.int v183.1] _ _
  refine sm_seg 5 854 [(0, .ref a0), (1, .ref a1), (2, .ref a2), (3, .int i3)] [.int (i3 + (1 : Int32)), .ref a0, .ref a2, .int v183.1] rfl ?_
  refine sm_gd fun h185 => ?_
  refine sm_ai rfl h185 rfl ?_
  show sm _ _ _ _ 855 [(0, .ref a0), (1, .ref a1), (2, .ref a2), (3, .int i3)] [.int (cm_I v183.2 a0 (i3 + (1 : Int32)).toNatClampNeg), .ref a2, .int v183.1] _ _
  refine sm_seg 4 859 [(0, .ref a0), (1, .ref a1), (2, .ref a2), (3, .int i3)] [.int (i3 + (2 : Int32)), .ref a0, .int (cm_I v183.2 a0 (i3 + (1 : Int32)).toNatClampNeg), .ref a2, .int v183.1] rfl ?_
  refine sm_gd fun h186 => ?_
  refine sm_ai rfl h186 rfl ?_
  show sm _ _ _ _ 860 [(0, .ref a0), (1, .ref a1), (2, .ref a2), (3, .int i3)] [.int (cm_I v183.2 a0 (i3 + (2 : Int32)).toNatClampNeg), .int (cm_I v183.2 a0 (i3 + (1 : Int32)).toNatClampNeg), .ref a2, .int v183.1] _ _
  refine sm_seg 4 864 [(0, .ref a0), (1, .ref a1), (2, .ref a2), (3, .int i3)] [.int (i3 + (3 : Int32)), .ref a0, .int (cm_I v183.2 a0 (i3 + (2 : Int32)).toNatClampNeg), .int (cm_I v183.2 a0 (i3 + (1 : Int32)).toNatClampNeg), .ref a2, .int v183.1] rfl ?_
  refine sm_gd fun h187 => ?_
  refine sm_ai rfl h187 rfl ?_
  show sm _ _ _ _ 865 [(0, .ref a0), (1, .ref a1), (2, .ref a2), (3, .int i3)] [.int (cm_I v183.2 a0 (i3 + (3 : Int32)).toNatClampNeg), .int (cm_I v183.2 a0 (i3 + (2 : Int32)).toNatClampNeg), .int (cm_I v183.2 a0 (i3 + (1 : Int32)).toNatClampNeg), .ref a2, .int v183.1] _ _
  refine sm_seg 4 869 [(0, .ref a0), (1, .ref a1), (2, .ref a2), (3, .int i3)] [.int (i3 + (4 : Int32)), .ref a0, .int (cm_I v183.2 a0 (i3 + (3 : Int32)).toNatClampNeg), .int (cm_I v183.2 a0 (i3 + (2 : Int32)).toNatClampNeg), .int (cm_I v183.2 a0 (i3 + (1 : Int32)).toNatClampNeg), .ref a2, .int v183.1] rfl ?_
  refine sm_gd fun h188 => ?_
  refine sm_ai rfl h188 rfl ?_
  show sm _ _ _ _ 870 [(0, .ref a0), (1, .ref a1), (2, .ref a2), (3, .int i3)] [.int (cm_I v183.2 a0 (i3 + (4 : Int32)).toNatClampNeg), .int (cm_I v183.2 a0 (i3 + (3 : Int32)).toNatClampNeg), .int (cm_I v183.2 a0 (i3 + (2 : Int32)).toNatClampNeg), .int (cm_I v183.2 a0 (i3 + (1 : Int32)).toNatClampNeg), .ref a2, .int v183.1] _ _
  refine sm_gd fun h189 => ?_
  refine sm_cV (as := [.int (cm_I v183.2 a0 (i3 + (1 : Int32)).toNatClampNeg), .int (cm_I v183.2 a0 (i3 + (2 : Int32)).toNatClampNeg), .int (cm_I v183.2 a0 (i3 + (3 : Int32)).toNatClampNeg), .int (cm_I v183.2 a0 (i3 + (4 : Int32)).toNatClampNeg)]) (rest := [.int v183.1]) rfl rfl rfl rfl h189 (Nat.le_of_ble_eq_true rfl) (ca_257  a2 (cm_I v183.2 a0 (i3 + (1 : Int32)).toNatClampNeg) (cm_I v183.2 a0 (i3 + (2 : Int32)).toNatClampNeg) (cm_I v183.2 a0 (i3 + (3 : Int32)).toNatClampNeg) (cm_I v183.2 a0 (i3 + (4 : Int32)).toNatClampNeg) v183.2) fun v190 h191 => ?_
  show sm _ _ _ _ 873 [(0, .ref a0), (1, .ref a1), (2, .ref a2), (3, .int i3)] [.int v190.1, .int v183.1] _ _
  refine sm_if (pc1 := 1773) (lv1 := [(0, .ref a0), (1, .ref a1), (2, .ref a2), (3, .int i3)]) (pc2 := 876) (lv2 := [(0, .ref a0), (1, .ref a1), (2, .ref a2), (3, .int i3)]) (st1 := []) rfl rfl rfl (fun h192 => ?_) (fun h192 => ?_)
  · exact jt_300_1773  k_18 hk_18 a0 a1 a2 i3 v190.2
  · refine sm_seg 1 877 [(0, .ref a0), (1, .ref a1), (2, .ref a2), (3, .int i3)] [.int (0 : Int32)] rfl ?_
    exact sm_rBW (b := false) rfl rfl
def fn_300_878 (k_18 : Nat → Nat → Nat → Int32 → cm_W → Option (Bool × cm_W)) (a0 : Nat) (a1 : Nat) (a2 : Nat) (i3 : Int32) (w : cm_W) : Option (Bool × cm_W) := (if cm_ga w .int a0 (i3 + (1 : Int32)) = true then (if cm_sh w a1 = some (.inl 10) then (fn_164 a1 (cm_I w a0 (i3 + (1 : Int32)).toNatClampNeg) w).bind fun v195 => (if cm_ga v195.2 .int a0 (i3 + (1 : Int32)) = true then (if cm_sh v195.2 a2 = some (.inl 11) then (fn_258 a2 (cm_I v195.2 a0 (i3 + (1 : Int32)).toNatClampNeg) v195.2).bind fun v199 => (if (cm_b v195.1) = (cm_b v199.1) then fn_300_1773  k_18 a0 a1 a2 i3 v199.2 else some (false, v199.2)) else none) else none) else none) else none)
theorem jt_300_878 (k_18 : Nat → Nat → Nat → Int32 → cm_W → Option (Bool × cm_W)) (hk_18 : ∀ (a0 : Nat) (a1 : Nat) (a2 : Nat) (i3 : Int32) (w : cm_W), sm cm_g 300 ck_300 kq_300 18 [(0, .ref a0), (1, .ref a1), (2, .ref a2), (3, .int i3)] [] w ((k_18 a0 a1 a2 i3 w).map cm_gB)) (a0 : Nat) (a1 : Nat) (a2 : Nat) (i3 : Int32) (w : cm_W) : sm cm_g 300 ck_300 kq_300 878 [(0, .ref a0), (1, .ref a1), (2, .ref a2), (3, .int i3)] [] w ((fn_300_878 k_18 a0 a1 a2 i3 w).map cm_gB) := by
  unfold fn_300_878
  refine sm_seg 5 883 [(0, .ref a0), (1, .ref a1), (2, .ref a2), (3, .int i3)] [.int (i3 + (1 : Int32)), .ref a0, .ref a1] rfl ?_
  refine sm_gd fun h193 => ?_
  refine sm_ai rfl h193 rfl ?_
  show sm _ _ _ _ 884 [(0, .ref a0), (1, .ref a1), (2, .ref a2), (3, .int i3)] [.int (cm_I w a0 (i3 + (1 : Int32)).toNatClampNeg), .ref a1] _ _
  refine sm_gd fun h194 => ?_
  refine sm_cV (as := [.int (cm_I w a0 (i3 + (1 : Int32)).toNatClampNeg)]) (rest := []) rfl rfl rfl rfl h194 (Nat.le_of_ble_eq_true rfl) (ca_164  a1 (cm_I w a0 (i3 + (1 : Int32)).toNatClampNeg) w) fun v195 h196 => ?_
  show sm _ _ _ _ 887 [(0, .ref a0), (1, .ref a1), (2, .ref a2), (3, .int i3)] [.int (cm_b v195.1)] _ _
  refine sm_seg 5 892 [(0, .ref a0), (1, .ref a1), (2, .ref a2), (3, .int i3)] [.int (i3 + (1 : Int32)), .ref a0, .ref a2, .int (cm_b v195.1)] rfl ?_
  refine sm_gd fun h197 => ?_
  refine sm_ai rfl h197 rfl ?_
  show sm _ _ _ _ 893 [(0, .ref a0), (1, .ref a1), (2, .ref a2), (3, .int i3)] [.int (cm_I v195.2 a0 (i3 + (1 : Int32)).toNatClampNeg), .ref a2, .int (cm_b v195.1)] _ _
  refine sm_gd fun h198 => ?_
  refine sm_cV (as := [.int (cm_I v195.2 a0 (i3 + (1 : Int32)).toNatClampNeg)]) (rest := [.int (cm_b v195.1)]) rfl rfl rfl rfl h198 (Nat.le_of_ble_eq_true rfl) (ca_258  a2 (cm_I v195.2 a0 (i3 + (1 : Int32)).toNatClampNeg) v195.2) fun v199 h200 => ?_
  show sm _ _ _ _ 896 [(0, .ref a0), (1, .ref a1), (2, .ref a2), (3, .int i3)] [.int (cm_b v199.1), .int (cm_b v195.1)] _ _
  refine sm_if (pc1 := 1773) (lv1 := [(0, .ref a0), (1, .ref a1), (2, .ref a2), (3, .int i3)]) (pc2 := 899) (lv2 := [(0, .ref a0), (1, .ref a1), (2, .ref a2), (3, .int i3)]) (st1 := []) rfl rfl rfl (fun h201 => ?_) (fun h201 => ?_)
  · exact jt_300_1773  k_18 hk_18 a0 a1 a2 i3 v199.2
  · refine sm_seg 1 900 [(0, .ref a0), (1, .ref a1), (2, .ref a2), (3, .int i3)] [.int (0 : Int32)] rfl ?_
    exact sm_rBW (b := false) rfl rfl
def fn_300_901 (k_18 : Nat → Nat → Nat → Int32 → cm_W → Option (Bool × cm_W)) (a0 : Nat) (a1 : Nat) (a2 : Nat) (i3 : Int32) (w : cm_W) : Option (Bool × cm_W) := (if cm_ga w .int a0 (i3 + (1 : Int32)) = true then (if cm_ga w .int a0 (i3 + (2 : Int32)) = true then (if cm_sh w a1 = some (.inl 10) then (fn_165 w a1 (cm_I w a0 (i3 + (1 : Int32)).toNatClampNeg) (cm_I w a0 (i3 + (2 : Int32)).toNatClampNeg)).bind fun v205 => (if cm_sh w a2 = some (.inl 11) then (fn_259 w a2 (cm_I w a0 (i3 + (1 : Int32)).toNatClampNeg) (cm_I w a0 (i3 + (2 : Int32)).toNatClampNeg)).bind fun v208 => (if v205 = v208 then fn_300_1773  k_18 a0 a1 a2 i3 w else some (false, w)) else none) else none) else none) else none)
theorem jt_300_901 (k_18 : Nat → Nat → Nat → Int32 → cm_W → Option (Bool × cm_W)) (hk_18 : ∀ (a0 : Nat) (a1 : Nat) (a2 : Nat) (i3 : Int32) (w : cm_W), sm cm_g 300 ck_300 kq_300 18 [(0, .ref a0), (1, .ref a1), (2, .ref a2), (3, .int i3)] [] w ((k_18 a0 a1 a2 i3 w).map cm_gB)) (a0 : Nat) (a1 : Nat) (a2 : Nat) (i3 : Int32) (w : cm_W) : sm cm_g 300 ck_300 kq_300 901 [(0, .ref a0), (1, .ref a1), (2, .ref a2), (3, .int i3)] [] w ((fn_300_901 k_18 a0 a1 a2 i3 w).map cm_gB) := by
  unfold fn_300_901
  refine sm_seg 5 906 [(0, .ref a0), (1, .ref a1), (2, .ref a2), (3, .int i3)] [.int (i3 + (1 : Int32)), .ref a0, .ref a1] rfl ?_
  refine sm_gd fun h202 => ?_
  refine sm_ai rfl h202 rfl ?_
  show sm _ _ _ _ 907 [(0, .ref a0), (1, .ref a1), (2, .ref a2), (3, .int i3)] [.int (cm_I w a0 (i3 + (1 : Int32)).toNatClampNeg), .ref a1] _ _
  refine sm_seg 4 911 [(0, .ref a0), (1, .ref a1), (2, .ref a2), (3, .int i3)] [.int (i3 + (2 : Int32)), .ref a0, .int (cm_I w a0 (i3 + (1 : Int32)).toNatClampNeg), .ref a1] rfl ?_
  refine sm_gd fun h203 => ?_
  refine sm_ai rfl h203 rfl ?_
  show sm _ _ _ _ 912 [(0, .ref a0), (1, .ref a1), (2, .ref a2), (3, .int i3)] [.int (cm_I w a0 (i3 + (2 : Int32)).toNatClampNeg), .int (cm_I w a0 (i3 + (1 : Int32)).toNatClampNeg), .ref a1] _ _
  refine sm_gd fun h204 => ?_
  refine sm_cV (as := [.int (cm_I w a0 (i3 + (1 : Int32)).toNatClampNeg), .int (cm_I w a0 (i3 + (2 : Int32)).toNatClampNeg)]) (rest := []) rfl rfl rfl rfl h204 (Nat.le_of_ble_eq_true rfl) (ca_165 w a1 (cm_I w a0 (i3 + (1 : Int32)).toNatClampNeg) (cm_I w a0 (i3 + (2 : Int32)).toNatClampNeg)) fun v205 h206 => ?_
  show sm _ _ _ _ 915 [(0, .ref a0), (1, .ref a1), (2, .ref a2), (3, .int i3)] [.int v205] _ _
  refine sm_seg 5 920 [(0, .ref a0), (1, .ref a1), (2, .ref a2), (3, .int i3)] [.int (i3 + (1 : Int32)), .ref a0, .ref a2, .int v205] rfl ?_
  refine sm_ai rfl h202 rfl ?_
  show sm _ _ _ _ 921 [(0, .ref a0), (1, .ref a1), (2, .ref a2), (3, .int i3)] [.int (cm_I w a0 (i3 + (1 : Int32)).toNatClampNeg), .ref a2, .int v205] _ _
  refine sm_seg 4 925 [(0, .ref a0), (1, .ref a1), (2, .ref a2), (3, .int i3)] [.int (i3 + (2 : Int32)), .ref a0, .int (cm_I w a0 (i3 + (1 : Int32)).toNatClampNeg), .ref a2, .int v205] rfl ?_
  refine sm_ai rfl h203 rfl ?_
  show sm _ _ _ _ 926 [(0, .ref a0), (1, .ref a1), (2, .ref a2), (3, .int i3)] [.int (cm_I w a0 (i3 + (2 : Int32)).toNatClampNeg), .int (cm_I w a0 (i3 + (1 : Int32)).toNatClampNeg), .ref a2, .int v205] _ _
  refine sm_gd fun h207 => ?_
  refine sm_cV (as := [.int (cm_I w a0 (i3 + (1 : Int32)).toNatClampNeg), .int (cm_I w a0 (i3 + (2 : Int32)).toNatClampNeg)]) (rest := [.int v205]) rfl rfl rfl rfl h207 (Nat.le_of_ble_eq_true rfl) (ca_259 w a2 (cm_I w a0 (i3 + (1 : Int32)).toNatClampNeg) (cm_I w a0 (i3 + (2 : Int32)).toNatClampNeg)) fun v208 h209 => ?_
  show sm _ _ _ _ 929 [(0, .ref a0), (1, .ref a1), (2, .ref a2), (3, .int i3)] [.int v208, .int v205] _ _
  refine sm_if (pc1 := 1773) (lv1 := [(0, .ref a0), (1, .ref a1), (2, .ref a2), (3, .int i3)]) (pc2 := 932) (lv2 := [(0, .ref a0), (1, .ref a1), (2, .ref a2), (3, .int i3)]) (st1 := []) rfl rfl rfl (fun h210 => ?_) (fun h210 => ?_)
  · exact jt_300_1773  k_18 hk_18 a0 a1 a2 i3 w
  · refine sm_seg 1 933 [(0, .ref a0), (1, .ref a1), (2, .ref a2), (3, .int i3)] [.int (0 : Int32)] rfl ?_
    exact sm_rBW (b := false) rfl rfl
def fn_300_934 (k_18 : Nat → Nat → Nat → Int32 → cm_W → Option (Bool × cm_W)) (a0 : Nat) (a1 : Nat) (a2 : Nat) (i3 : Int32) (w : cm_W) : Option (Bool × cm_W) := (if cm_ga w .int a0 (i3 + (1 : Int32)) = true then (if cm_ga w .int a0 (i3 + (2 : Int32)) = true then (if cm_sh w a1 = some (.inl 10) then (fn_166 w a1 (cm_I w a0 (i3 + (1 : Int32)).toNatClampNeg) (cm_I w a0 (i3 + (2 : Int32)).toNatClampNeg)).bind fun v214 => (if cm_sh w a2 = some (.inl 11) then (fn_261 w a2 (cm_I w a0 (i3 + (1 : Int32)).toNatClampNeg) (cm_I w a0 (i3 + (2 : Int32)).toNatClampNeg)).bind fun v217 => (if v214 = v217 then fn_300_1773  k_18 a0 a1 a2 i3 w else some (false, w)) else none) else none) else none) else none)
theorem jt_300_934 (k_18 : Nat → Nat → Nat → Int32 → cm_W → Option (Bool × cm_W)) (hk_18 : ∀ (a0 : Nat) (a1 : Nat) (a2 : Nat) (i3 : Int32) (w : cm_W), sm cm_g 300 ck_300 kq_300 18 [(0, .ref a0), (1, .ref a1), (2, .ref a2), (3, .int i3)] [] w ((k_18 a0 a1 a2 i3 w).map cm_gB)) (a0 : Nat) (a1 : Nat) (a2 : Nat) (i3 : Int32) (w : cm_W) : sm cm_g 300 ck_300 kq_300 934 [(0, .ref a0), (1, .ref a1), (2, .ref a2), (3, .int i3)] [] w ((fn_300_934 k_18 a0 a1 a2 i3 w).map cm_gB) := by
  unfold fn_300_934
  refine sm_seg 5 939 [(0, .ref a0), (1, .ref a1), (2, .ref a2), (3, .int i3)] [.int (i3 + (1 : Int32)), .ref a0, .ref a1] rfl ?_
  refine sm_gd fun h211 => ?_
  refine sm_ai rfl h211 rfl ?_
  show sm _ _ _ _ 940 [(0, .ref a0), (1, .ref a1), (2, .ref a2), (3, .int i3)] [.int (cm_I w a0 (i3 + (1 : Int32)).toNatClampNeg), .ref a1] _ _
  refine sm_seg 4 944 [(0, .ref a0), (1, .ref a1), (2, .ref a2), (3, .int i3)] [.int (i3 + (2 : Int32)), .ref a0, .int (cm_I w a0 (i3 + (1 : Int32)).toNatClampNeg), .ref a1] rfl ?_
  refine sm_gd fun h212 => ?_
  refine sm_ai rfl h212 rfl ?_
  show sm _ _ _ _ 945 [(0, .ref a0), (1, .ref a1), (2, .ref a2), (3, .int i3)] [.int (cm_I w a0 (i3 + (2 : Int32)).toNatClampNeg), .int (cm_I w a0 (i3 + (1 : Int32)).toNatClampNeg), .ref a1] _ _
  refine sm_gd fun h213 => ?_
  refine sm_cV (as := [.int (cm_I w a0 (i3 + (1 : Int32)).toNatClampNeg), .int (cm_I w a0 (i3 + (2 : Int32)).toNatClampNeg)]) (rest := []) rfl rfl rfl rfl h213 (Nat.le_of_ble_eq_true rfl) (ca_166 w a1 (cm_I w a0 (i3 + (1 : Int32)).toNatClampNeg) (cm_I w a0 (i3 + (2 : Int32)).toNatClampNeg)) fun v214 h215 => ?_
  show sm _ _ _ _ 948 [(0, .ref a0), (1, .ref a1), (2, .ref a2), (3, .int i3)] [.int v214] _ _
  refine sm_seg 5 953 [(0, .ref a0), (1, .ref a1), (2, .ref a2), (3, .int i3)] [.int (i3 + (1 : Int32)), .ref a0, .ref a2, .int v214] rfl ?_
  refine sm_ai rfl h211 rfl ?_
  show sm _ _ _ _ 954 [(0, .ref a0), (1, .ref a1), (2, .ref a2), (3, .int i3)] [.int (cm_I w a0 (i3 + (1 : Int32)).toNatClampNeg), .ref a2, .int v214] _ _
  refine sm_seg 4 958 [(0, .ref a0), (1, .ref a1), (2, .ref a2), (3, .int i3)] [.int (i3 + (2 : Int32)), .ref a0, .int (cm_I w a0 (i3 + (1 : Int32)).toNatClampNeg), .ref a2, .int v214] rfl ?_
  refine sm_ai rfl h212 rfl ?_
  show sm _ _ _ _ 959 [(0, .ref a0), (1, .ref a1), (2, .ref a2), (3, .int i3)] [.int (cm_I w a0 (i3 + (2 : Int32)).toNatClampNeg), .int (cm_I w a0 (i3 + (1 : Int32)).toNatClampNeg), .ref a2, .int v214] _ _
  refine sm_gd fun h216 => ?_
  refine sm_cV (as := [.int (cm_I w a0 (i3 + (1 : Int32)).toNatClampNeg), .int (cm_I w a0 (i3 + (2 : Int32)).toNatClampNeg)]) (rest := [.int v214]) rfl rfl rfl rfl h216 (Nat.le_of_ble_eq_true rfl) (ca_261 w a2 (cm_I w a0 (i3 + (1 : Int32)).toNatClampNeg) (cm_I w a0 (i3 + (2 : Int32)).toNatClampNeg)) fun v217 h218 => ?_
  show sm _ _ _ _ 962 [(0, .ref a0), (1, .ref a1), (2, .ref a2), (3, .int i3)] [.int v217, .int v214] _ _
  refine sm_if (pc1 := 1773) (lv1 := [(0, .ref a0), (1, .ref a1), (2, .ref a2), (3, .int i3)]) (pc2 := 965) (lv2 := [(0, .ref a0), (1, .ref a1), (2, .ref a2), (3, .int i3)]) (st1 := []) rfl rfl rfl (fun h219 => ?_) (fun h219 => ?_)
  · exact jt_300_1773  k_18 hk_18 a0 a1 a2 i3 w
  · refine sm_seg 1 966 [(0, .ref a0), (1, .ref a1), (2, .ref a2), (3, .int i3)] [.int (0 : Int32)] rfl ?_
    exact sm_rBW (b := false) rfl rfl
def fn_300_967 (k_18 : Nat → Nat → Nat → Int32 → cm_W → Option (Bool × cm_W)) (a0 : Nat) (a1 : Nat) (a2 : Nat) (i3 : Int32) (w : cm_W) : Option (Bool × cm_W) := (if cm_ga w .int a0 (i3 + (1 : Int32)) = true then (if cm_sh w a1 = some (.inl 10) then (fn_167 w a1 (cm_I w a0 (i3 + (1 : Int32)).toNatClampNeg)).bind fun v222 => (if cm_sh w a2 = some (.inl 11) then (fn_263 w a2 (cm_I w a0 (i3 + (1 : Int32)).toNatClampNeg)).bind fun v225 => (if v222 = v225 then fn_300_1773  k_18 a0 a1 a2 i3 w else some (false, w)) else none) else none) else none)
theorem jt_300_967 (k_18 : Nat → Nat → Nat → Int32 → cm_W → Option (Bool × cm_W)) (hk_18 : ∀ (a0 : Nat) (a1 : Nat) (a2 : Nat) (i3 : Int32) (w : cm_W), sm cm_g 300 ck_300 kq_300 18 [(0, .ref a0), (1, .ref a1), (2, .ref a2), (3, .int i3)] [] w ((k_18 a0 a1 a2 i3 w).map cm_gB)) (a0 : Nat) (a1 : Nat) (a2 : Nat) (i3 : Int32) (w : cm_W) : sm cm_g 300 ck_300 kq_300 967 [(0, .ref a0), (1, .ref a1), (2, .ref a2), (3, .int i3)] [] w ((fn_300_967 k_18 a0 a1 a2 i3 w).map cm_gB) := by
  unfold fn_300_967
  refine sm_seg 5 972 [(0, .ref a0), (1, .ref a1), (2, .ref a2), (3, .int i3)] [.int (i3 + (1 : Int32)), .ref a0, .ref a1] rfl ?_
  refine sm_gd fun h220 => ?_
  refine sm_ai rfl h220 rfl ?_
  show sm _ _ _ _ 973 [(0, .ref a0), (1, .ref a1), (2, .ref a2), (3, .int i3)] [.int (cm_I w a0 (i3 + (1 : Int32)).toNatClampNeg), .ref a1] _ _
  refine sm_gd fun h221 => ?_
  refine sm_cV (as := [.int (cm_I w a0 (i3 + (1 : Int32)).toNatClampNeg)]) (rest := []) rfl rfl rfl rfl h221 (Nat.le_of_ble_eq_true rfl) (ca_167 w a1 (cm_I w a0 (i3 + (1 : Int32)).toNatClampNeg)) fun v222 h223 => ?_
  show sm _ _ _ _ 976 [(0, .ref a0), (1, .ref a1), (2, .ref a2), (3, .int i3)] [.int v222] _ _
  refine sm_seg 5 981 [(0, .ref a0), (1, .ref a1), (2, .ref a2), (3, .int i3)] [.int (i3 + (1 : Int32)), .ref a0, .ref a2, .int v222] rfl ?_
  refine sm_ai rfl h220 rfl ?_
  show sm _ _ _ _ 982 [(0, .ref a0), (1, .ref a1), (2, .ref a2), (3, .int i3)] [.int (cm_I w a0 (i3 + (1 : Int32)).toNatClampNeg), .ref a2, .int v222] _ _
  refine sm_gd fun h224 => ?_
  refine sm_cV (as := [.int (cm_I w a0 (i3 + (1 : Int32)).toNatClampNeg)]) (rest := [.int v222]) rfl rfl rfl rfl h224 (Nat.le_of_ble_eq_true rfl) (ca_263 w a2 (cm_I w a0 (i3 + (1 : Int32)).toNatClampNeg)) fun v225 h226 => ?_
  show sm _ _ _ _ 985 [(0, .ref a0), (1, .ref a1), (2, .ref a2), (3, .int i3)] [.int v225, .int v222] _ _
  refine sm_if (pc1 := 1773) (lv1 := [(0, .ref a0), (1, .ref a1), (2, .ref a2), (3, .int i3)]) (pc2 := 988) (lv2 := [(0, .ref a0), (1, .ref a1), (2, .ref a2), (3, .int i3)]) (st1 := []) rfl rfl rfl (fun h227 => ?_) (fun h227 => ?_)
  · exact jt_300_1773  k_18 hk_18 a0 a1 a2 i3 w
  · refine sm_seg 1 989 [(0, .ref a0), (1, .ref a1), (2, .ref a2), (3, .int i3)] [.int (0 : Int32)] rfl ?_
    exact sm_rBW (b := false) rfl rfl
def fn_300_990 (k_18 : Nat → Nat → Nat → Int32 → cm_W → Option (Bool × cm_W)) (a0 : Nat) (a1 : Nat) (a2 : Nat) (i3 : Int32) (w : cm_W) : Option (Bool × cm_W) := (if cm_ga w .int a0 (i3 + (1 : Int32)) = true then (if cm_sh w a1 = some (.inl 10) then (fn_168 w a1 (cm_I w a0 (i3 + (1 : Int32)).toNatClampNeg)).bind fun v230 => (if cm_sh w a2 = some (.inl 11) then (fn_264 w a2 (cm_I w a0 (i3 + (1 : Int32)).toNatClampNeg)).bind fun v233 => (if v230 = v233 then fn_300_1773  k_18 a0 a1 a2 i3 w else some (false, w)) else none) else none) else none)
theorem jt_300_990 (k_18 : Nat → Nat → Nat → Int32 → cm_W → Option (Bool × cm_W)) (hk_18 : ∀ (a0 : Nat) (a1 : Nat) (a2 : Nat) (i3 : Int32) (w : cm_W), sm cm_g 300 ck_300 kq_300 18 [(0, .ref a0), (1, .ref a1), (2, .ref a2), (3, .int i3)] [] w ((k_18 a0 a1 a2 i3 w).map cm_gB)) (a0 : Nat) (a1 : Nat) (a2 : Nat) (i3 : Int32) (w : cm_W) : sm cm_g 300 ck_300 kq_300 990 [(0, .ref a0), (1, .ref a1), (2, .ref a2), (3, .int i3)] [] w ((fn_300_990 k_18 a0 a1 a2 i3 w).map cm_gB) := by
  unfold fn_300_990
  refine sm_seg 5 995 [(0, .ref a0), (1, .ref a1), (2, .ref a2), (3, .int i3)] [.int (i3 + (1 : Int32)), .ref a0, .ref a1] rfl ?_
  refine sm_gd fun h228 => ?_
  refine sm_ai rfl h228 rfl ?_
  show sm _ _ _ _ 996 [(0, .ref a0), (1, .ref a1), (2, .ref a2), (3, .int i3)] [.int (cm_I w a0 (i3 + (1 : Int32)).toNatClampNeg), .ref a1] _ _
  refine sm_gd fun h229 => ?_
  refine sm_cV (as := [.int (cm_I w a0 (i3 + (1 : Int32)).toNatClampNeg)]) (rest := []) rfl rfl rfl rfl h229 (Nat.le_of_ble_eq_true rfl) (ca_168 w a1 (cm_I w a0 (i3 + (1 : Int32)).toNatClampNeg)) fun v230 h231 => ?_
  show sm _ _ _ _ 999 [(0, .ref a0), (1, .ref a1), (2, .ref a2), (3, .int i3)] [.int v230] _ _
  refine sm_seg 5 1004 [(0, .ref a0), (1, .ref a1), (2, .ref a2), (3, .int i3)] [.int (i3 + (1 : Int32)), .ref a0, .ref a2, .int v230] rfl ?_
  refine sm_ai rfl h228 rfl ?_
  show sm _ _ _ _ 1005 [(0, .ref a0), (1, .ref a1), (2, .ref a2), (3, .int i3)] [.int (cm_I w a0 (i3 + (1 : Int32)).toNatClampNeg), .ref a2, .int v230] _ _
  refine sm_gd fun h232 => ?_
  refine sm_cV (as := [.int (cm_I w a0 (i3 + (1 : Int32)).toNatClampNeg)]) (rest := [.int v230]) rfl rfl rfl rfl h232 (Nat.le_of_ble_eq_true rfl) (ca_264 w a2 (cm_I w a0 (i3 + (1 : Int32)).toNatClampNeg)) fun v233 h234 => ?_
  show sm _ _ _ _ 1008 [(0, .ref a0), (1, .ref a1), (2, .ref a2), (3, .int i3)] [.int v233, .int v230] _ _
  refine sm_if (pc1 := 1773) (lv1 := [(0, .ref a0), (1, .ref a1), (2, .ref a2), (3, .int i3)]) (pc2 := 1011) (lv2 := [(0, .ref a0), (1, .ref a1), (2, .ref a2), (3, .int i3)]) (st1 := []) rfl rfl rfl (fun h235 => ?_) (fun h235 => ?_)
  · exact jt_300_1773  k_18 hk_18 a0 a1 a2 i3 w
  · refine sm_seg 1 1012 [(0, .ref a0), (1, .ref a1), (2, .ref a2), (3, .int i3)] [.int (0 : Int32)] rfl ?_
    exact sm_rBW (b := false) rfl rfl
def fn_300_1013 (k_18 : Nat → Nat → Nat → Int32 → cm_W → Option (Bool × cm_W)) (a0 : Nat) (a1 : Nat) (a2 : Nat) (i3 : Int32) (w : cm_W) : Option (Bool × cm_W) := (if cm_ga w .int a0 (i3 + (1 : Int32)) = true then (if cm_ga w .int a0 (i3 + (2 : Int32)) = true then (if cm_sh w a1 = some (.inl 10) then (fn_169 a1 (cm_I w a0 (i3 + (1 : Int32)).toNatClampNeg) (cm_I w a0 (i3 + (2 : Int32)).toNatClampNeg) w).bind fun v239 => (if cm_ga v239.2 .int a0 (i3 + (1 : Int32)) = true then (if cm_ga v239.2 .int a0 (i3 + (2 : Int32)) = true then (if cm_sh v239.2 a2 = some (.inl 11) then (fn_256 v239.2 a2 (cm_I v239.2 a0 (i3 + (1 : Int32)).toNatClampNeg) (cm_I v239.2 a0 (i3 + (2 : Int32)).toNatClampNeg)).bind fun v244 => (if v239.1 = v244 then fn_300_1773  k_18 a0 a1 a2 i3 v239.2 else some (false, v239.2)) else none) else none) else none) else none) else none) else none)
theorem jt_300_1013 (k_18 : Nat → Nat → Nat → Int32 → cm_W → Option (Bool × cm_W)) (hk_18 : ∀ (a0 : Nat) (a1 : Nat) (a2 : Nat) (i3 : Int32) (w : cm_W), sm cm_g 300 ck_300 kq_300 18 [(0, .ref a0), (1, .ref a1), (2, .ref a2), (3, .int i3)] [] w ((k_18 a0 a1 a2 i3 w).map cm_gB)) (a0 : Nat) (a1 : Nat) (a2 : Nat) (i3 : Int32) (w : cm_W) : sm cm_g 300 ck_300 kq_300 1013 [(0, .ref a0), (1, .ref a1), (2, .ref a2), (3, .int i3)] [] w ((fn_300_1013 k_18 a0 a1 a2 i3 w).map cm_gB) := by
  unfold fn_300_1013
  refine sm_seg 5 1018 [(0, .ref a0), (1, .ref a1), (2, .ref a2), (3, .int i3)] [.int (i3 + (1 : Int32)), .ref a0, .ref a1] rfl ?_
  refine sm_gd fun h236 => ?_
  refine sm_ai rfl h236 rfl ?_
  show sm _ _ _ _ 1019 [(0, .ref a0), (1, .ref a1), (2, .ref a2), (3, .int i3)] [.int (cm_I w a0 (i3 + (1 : Int32)).toNatClampNeg), .ref a1] _ _
  refine sm_seg 4 1023 [(0, .ref a0), (1, .ref a1), (2, .ref a2), (3, .int i3)] [.int (i3 + (2 : Int32)), .ref a0, .int (cm_I w a0 (i3 + (1 : Int32)).toNatClampNeg), .ref a1] rfl ?_
  refine sm_gd fun h237 => ?_
  refine sm_ai rfl h237 rfl ?_
  show sm _ _ _ _ 1024 [(0, .ref a0), (1, .ref a1), (2, .ref a2), (3, .int i3)] [.int (cm_I w a0 (i3 + (2 : Int32)).toNatClampNeg), .int (cm_I w a0 (i3 + (1 : Int32)).toNatClampNeg), .ref a1] _ _
  refine sm_gd fun h238 => ?_
  refine sm_cV (as := [.int (cm_I w a0 (i3 + (1 : Int32)).toNatClampNeg), .int (cm_I w a0 (i3 + (2 : Int32)).toNatClampNeg)]) (rest := []) rfl rfl rfl rfl h238 (Nat.le_of_ble_eq_true rfl) (ca_169  a1 (cm_I w a0 (i3 + (1 : Int32)).toNatClampNeg) (cm_I w a0 (i3 + (2 : Int32)).toNatClampNeg) w) fun v239 h240 => ?_
  show sm _ _ _ _ 1027 [(0, .ref a0), (1, .ref a1), (2, .ref a2), (3, .int i3)] [.int v239.1] _ _
  refine sm_seg 5 1032 [(0, .ref a0), (1, .ref a1), (2, .ref a2), (3, .int i3)] [.int (i3 + (1 : Int32)), .ref a0, .ref a2, .int v239.1] rfl ?_
  refine sm_gd fun h241 => ?_
  refine sm_ai rfl h241 rfl ?_
  show sm _ _ _ _ 1033 [(0, .ref a0), (1, .ref a1), (2, .ref a2), (3, .int i3)] [.int (cm_I v239.2 a0 (i3 + (1 : Int32)).toNatClampNeg), .ref a2, .int v239.1] _ _
  refine sm_seg 4 1037 [(0, .ref a0), (1, .ref a1), (2, .ref a2), (3, .int i3)] [.int (i3 + (2 : Int32)), .ref a0, .int (cm_I v239.2 a0 (i3 + (1 : Int32)).toNatClampNeg), .ref a2, .int v239.1] rfl ?_
  refine sm_gd fun h242 => ?_
  refine sm_ai rfl h242 rfl ?_
  show sm _ _ _ _ 1038 [(0, .ref a0), (1, .ref a1), (2, .ref a2), (3, .int i3)] [.int (cm_I v239.2 a0 (i3 + (2 : Int32)).toNatClampNeg), .int (cm_I v239.2 a0 (i3 + (1 : Int32)).toNatClampNeg), .ref a2, .int v239.1] _ _
  refine sm_gd fun h243 => ?_
  refine sm_cV (as := [.int (cm_I v239.2 a0 (i3 + (1 : Int32)).toNatClampNeg), .int (cm_I v239.2 a0 (i3 + (2 : Int32)).toNatClampNeg)]) (rest := [.int v239.1]) rfl rfl rfl rfl h243 (Nat.le_of_ble_eq_true rfl) (ca_256 v239.2 a2 (cm_I v239.2 a0 (i3 + (1 : Int32)).toNatClampNeg) (cm_I v239.2 a0 (i3 + (2 : Int32)).toNatClampNeg)) fun v244 h245 => ?_
  show sm _ _ _ _ 1041 [(0, .ref a0), (1, .ref a1), (2, .ref a2), (3, .int i3)] [.int v244, .int v239.1] _ _
  refine sm_if (pc1 := 1773) (lv1 := [(0, .ref a0), (1, .ref a1), (2, .ref a2), (3, .int i3)]) (pc2 := 1044) (lv2 := [(0, .ref a0), (1, .ref a1), (2, .ref a2), (3, .int i3)]) (st1 := []) rfl rfl rfl (fun h246 => ?_) (fun h246 => ?_)
  · exact jt_300_1773  k_18 hk_18 a0 a1 a2 i3 v239.2
  · refine sm_seg 1 1045 [(0, .ref a0), (1, .ref a1), (2, .ref a2), (3, .int i3)] [.int (0 : Int32)] rfl ?_
    exact sm_rBW (b := false) rfl rfl
def fn_300_1046 (k_18 : Nat → Nat → Nat → Int32 → cm_W → Option (Bool × cm_W)) (a0 : Nat) (a1 : Nat) (a2 : Nat) (i3 : Int32) (w : cm_W) : Option (Bool × cm_W) := (if cm_ga w .int a0 (i3 + (1 : Int32)) = true then (if cm_ga w .int a0 (i3 + (2 : Int32)) = true then (if cm_ga w .int a0 (i3 + (3 : Int32)) = true then (if cm_ga w .int a0 (i3 + (4 : Int32)) = true then (if cm_sh w a1 = some (.inl 10) then (fn_170 a1 (cm_I w a0 (i3 + (1 : Int32)).toNatClampNeg) (cm_I w a0 (i3 + (2 : Int32)).toNatClampNeg) (cm_I w a0 (i3 + (3 : Int32)).toNatClampNeg) (cm_I w a0 (i3 + (4 : Int32)).toNatClampNeg) w).bind fun v252 => (if cm_ga v252.2 .int a0 (i3 + (1 : Int32)) = true then (if cm_ga v252.2 .int a0 (i3 + (2 : Int32)) = true then (if cm_ga v252.2 .int a0 (i3 + (3 : Int32)) = true then (if cm_ga v252.2 .int a0 (i3 + (4 : Int32)) = true then (if cm_sh v252.2 a2 = some (.inl 11) then (fn_265 a2 (cm_I v252.2 a0 (i3 + (1 : Int32)).toNatClampNeg) (cm_I v252.2 a0 (i3 + (2 : Int32)).toNatClampNeg) (cm_I v252.2 a0 (i3 + (3 : Int32)).toNatClampNeg) (cm_I v252.2 a0 (i3 + (4 : Int32)).toNatClampNeg) v252.2).bind fun v259 => (if v252.1 = v259.1 then fn_300_1773  k_18 a0 a1 a2 i3 v259.2 else some (false, v259.2)) else none) else none) else none) else none) else none) else none) else none) else none) else none) else none)
theorem jt_300_1046 (k_18 : Nat → Nat → Nat → Int32 → cm_W → Option (Bool × cm_W)) (hk_18 : ∀ (a0 : Nat) (a1 : Nat) (a2 : Nat) (i3 : Int32) (w : cm_W), sm cm_g 300 ck_300 kq_300 18 [(0, .ref a0), (1, .ref a1), (2, .ref a2), (3, .int i3)] [] w ((k_18 a0 a1 a2 i3 w).map cm_gB)) (a0 : Nat) (a1 : Nat) (a2 : Nat) (i3 : Int32) (w : cm_W) : sm cm_g 300 ck_300 kq_300 1046 [(0, .ref a0), (1, .ref a1), (2, .ref a2), (3, .int i3)] [] w ((fn_300_1046 k_18 a0 a1 a2 i3 w).map cm_gB) := by
  unfold fn_300_1046
  refine sm_seg 5 1051 [(0, .ref a0), (1, .ref a1), (2, .ref a2), (3, .int i3)] [.int (i3 + (1 : Int32)), .ref a0, .ref a1] rfl ?_
  refine sm_gd fun h247 => ?_
  refine sm_ai rfl h247 rfl ?_
  show sm _ _ _ _ 1052 [(0, .ref a0), (1, .ref a1), (2, .ref a2), (3, .int i3)] [.int (cm_I w a0 (i3 + (1 : Int32)).toNatClampNeg), .ref a1] _ _
  refine sm_seg 4 1056 [(0, .ref a0), (1, .ref a1), (2, .ref a2), (3, .int i3)] [.int (i3 + (2 : Int32)), .ref a0, .int (cm_I w a0 (i3 + (1 : Int32)).toNatClampNeg), .ref a1] rfl ?_
  refine sm_gd fun h248 => ?_
  refine sm_ai rfl h248 rfl ?_
  show sm _ _ _ _ 1057 [(0, .ref a0), (1, .ref a1), (2, .ref a2), (3, .int i3)] [.int (cm_I w a0 (i3 + (2 : Int32)).toNatClampNeg), .int (cm_I w a0 (i3 + (1 : Int32)).toNatClampNeg), .ref a1] _ _
  refine sm_seg 4 1061 [(0, .ref a0), (1, .ref a1), (2, .ref a2), (3, .int i3)] [.int (i3 + (3 : Int32)), .ref a0, .int (cm_I w a0 (i3 + (2 : Int32)).toNatClampNeg), .int (cm_I w a0 (i3 + (1 : Int32)).toNatClampNeg), .ref a1] rfl ?_
  refine sm_gd fun h249 => ?_
  refine sm_ai rfl h249 rfl ?_
  show sm _ _ _ _ 1062 [(0, .ref a0), (1, .ref a1), (2, .ref a2), (3, .int i3)] [.int (cm_I w a0 (i3 + (3 : Int32)).toNatClampNeg), .int (cm_I w a0 (i3 + (2 : Int32)).toNatClampNeg), .int (cm_I w a0 (i3 + (1 : Int32)).toNatClampNeg), .ref a1] _ _
  refine sm_seg 4 1066 [(0, .ref a0), (1, .ref a1), (2, .ref a2), (3, .int i3)] [.int (i3 + (4 : Int32)), .ref a0, .int (cm_I w a0 (i3 + (3 : Int32)).toNatClampNeg), .int (cm_I w a0 (i3 + (2 : Int32)).toNatClampNeg), .int (cm_I w a0 (i3 + (1 : Int32)).toNatClampNeg), .ref a1] rfl ?_
  refine sm_gd fun h250 => ?_
  refine sm_ai rfl h250 rfl ?_
  show sm _ _ _ _ 1067 [(0, .ref a0), (1, .ref a1), (2, .ref a2), (3, .int i3)] [.int (cm_I w a0 (i3 + (4 : Int32)).toNatClampNeg), .int (cm_I w a0 (i3 + (3 : Int32)).toNatClampNeg), .int (cm_I w a0 (i3 + (2 : Int32)).toNatClampNeg), .int (cm_I w a0 (i3 + (1 : Int32)).toNatClampNeg), .ref a1] _ _
  refine sm_gd fun h251 => ?_
  refine sm_cV (as := [.int (cm_I w a0 (i3 + (1 : Int32)).toNatClampNeg), .int (cm_I w a0 (i3 + (2 : Int32)).toNatClampNeg), .int (cm_I w a0 (i3 + (3 : Int32)).toNatClampNeg), .int (cm_I w a0 (i3 + (4 : Int32)).toNatClampNeg)]) (rest := []) rfl rfl rfl rfl h251 (Nat.le_of_ble_eq_true rfl) (ca_170  a1 (cm_I w a0 (i3 + (1 : Int32)).toNatClampNeg) (cm_I w a0 (i3 + (2 : Int32)).toNatClampNeg) (cm_I w a0 (i3 + (3 : Int32)).toNatClampNeg) (cm_I w a0 (i3 + (4 : Int32)).toNatClampNeg) w) fun v252 h253 => ?_
  show sm _ _ _ _ 1070 [(0, .ref a0), (1, .ref a1), (2, .ref a2), (3, .int i3)] [.int v252.1] _ _
  refine sm_seg 5 1075 [(0, .ref a0), (1, .ref a1), (2, .ref a2), (3, .int i3)] [.int (i3 + (1 : Int32)), .ref a0, .ref a2, .int v252.1] rfl ?_
  refine sm_gd fun h254 => ?_
  refine sm_ai rfl h254 rfl ?_
  show sm _ _ _ _ 1076 [(0, .ref a0), (1, .ref a1), (2, .ref a2), (3, .int i3)] [.int (cm_I v252.2 a0 (i3 + (1 : Int32)).toNatClampNeg), .ref a2, .int v252.1] _ _
  refine sm_seg 4 1080 [(0, .ref a0), (1, .ref a1), (2, .ref a2), (3, .int i3)] [.int (i3 + (2 : Int32)), .ref a0, .int (cm_I v252.2 a0 (i3 + (1 : Int32)).toNatClampNeg), .ref a2, .int v252.1] rfl ?_
  refine sm_gd fun h255 => ?_
  refine sm_ai rfl h255 rfl ?_
  show sm _ _ _ _ 1081 [(0, .ref a0), (1, .ref a1), (2, .ref a2), (3, .int i3)] [.int (cm_I v252.2 a0 (i3 + (2 : Int32)).toNatClampNeg), .int (cm_I v252.2 a0 (i3 + (1 : Int32)).toNatClampNeg), .ref a2, .int v252.1] _ _
  refine sm_seg 4 1085 [(0, .ref a0), (1, .ref a1), (2, .ref a2), (3, .int i3)] [.int (i3 + (3 : Int32)), .ref a0, .int (cm_I v252.2 a0 (i3 + (2 : Int32)).toNatClampNeg), .int (cm_I v252.2 a0 (i3 + (1 : Int32)).toNatClampNeg), .ref a2, .int v252.1] rfl ?_
  refine sm_gd fun h256 => ?_
  refine sm_ai rfl h256 rfl ?_
  show sm _ _ _ _ 1086 [(0, .ref a0), (1, .ref a1), (2, .ref a2), (3, .int i3)] [.int (cm_I v252.2 a0 (i3 + (3 : Int32)).toNatClampNeg), .int (cm_I v252.2 a0 (i3 + (2 : Int32)).toNatClampNeg), .int (cm_I v252.2 a0 (i3 + (1 : Int32)).toNatClampNeg), .ref a2, .int v252.1] _ _
  refine sm_seg 4 1090 [(0, .ref a0), (1, .ref a1), (2, .ref a2), (3, .int i3)] [.int (i3 + (4 : Int32)), .ref a0, .int (cm_I v252.2 a0 (i3 + (3 : Int32)).toNatClampNeg), .int (cm_I v252.2 a0 (i3 + (2 : Int32)).toNatClampNeg), .int (cm_I v252.2 a0 (i3 + (1 : Int32)).toNatClampNeg), .ref a2, .int v252.1] rfl ?_
  refine sm_gd fun h257 => ?_
  refine sm_ai rfl h257 rfl ?_
  show sm _ _ _ _ 1091 [(0, .ref a0), (1, .ref a1), (2, .ref a2), (3, .int i3)] [.int (cm_I v252.2 a0 (i3 + (4 : Int32)).toNatClampNeg), .int (cm_I v252.2 a0 (i3 + (3 : Int32)).toNatClampNeg), .int (cm_I v252.2 a0 (i3 + (2 : Int32)).toNatClampNeg), .int (cm_I v252.2 a0 (i3 + (1 : Int32)).toNatClampNeg), .ref a2, .int v252.1] _ _
  refine sm_gd fun h258 => ?_
  refine sm_cV (as := [.int (cm_I v252.2 a0 (i3 + (1 : Int32)).toNatClampNeg), .int (cm_I v252.2 a0 (i3 + (2 : Int32)).toNatClampNeg), .int (cm_I v252.2 a0 (i3 + (3 : Int32)).toNatClampNeg), .int (cm_I v252.2 a0 (i3 + (4 : Int32)).toNatClampNeg)]) (rest := [.int v252.1]) rfl rfl rfl rfl h258 (Nat.le_of_ble_eq_true rfl) (ca_265  a2 (cm_I v252.2 a0 (i3 + (1 : Int32)).toNatClampNeg) (cm_I v252.2 a0 (i3 + (2 : Int32)).toNatClampNeg) (cm_I v252.2 a0 (i3 + (3 : Int32)).toNatClampNeg) (cm_I v252.2 a0 (i3 + (4 : Int32)).toNatClampNeg) v252.2) fun v259 h260 => ?_
  show sm _ _ _ _ 1094 [(0, .ref a0), (1, .ref a1), (2, .ref a2), (3, .int i3)] [.int v259.1, .int v252.1] _ _
  refine sm_if (pc1 := 1773) (lv1 := [(0, .ref a0), (1, .ref a1), (2, .ref a2), (3, .int i3)]) (pc2 := 1097) (lv2 := [(0, .ref a0), (1, .ref a1), (2, .ref a2), (3, .int i3)]) (st1 := []) rfl rfl rfl (fun h261 => ?_) (fun h261 => ?_)
  · exact jt_300_1773  k_18 hk_18 a0 a1 a2 i3 v259.2
  · refine sm_seg 1 1098 [(0, .ref a0), (1, .ref a1), (2, .ref a2), (3, .int i3)] [.int (0 : Int32)] rfl ?_
    exact sm_rBW (b := false) rfl rfl
def fn_300_1099 (k_18 : Nat → Nat → Nat → Int32 → cm_W → Option (Bool × cm_W)) (a0 : Nat) (a1 : Nat) (a2 : Nat) (i3 : Int32) (w : cm_W) : Option (Bool × cm_W) := (if cm_ga w .int a0 (i3 + (1 : Int32)) = true then (if cm_sh w a1 = some (.inl 10) then (fn_171 a1 (cm_I w a0 (i3 + (1 : Int32)).toNatClampNeg) w).bind fun v264 => (if cm_ga v264.2 .int a0 (i3 + (1 : Int32)) = true then (if cm_sh v264.2 a2 = some (.inl 11) then (fn_266 a2 (cm_I v264.2 a0 (i3 + (1 : Int32)).toNatClampNeg) v264.2).bind fun v268 => (if v264.1 = v268.1 then fn_300_1773  k_18 a0 a1 a2 i3 v268.2 else some (false, v268.2)) else none) else none) else none) else none)
theorem jt_300_1099 (k_18 : Nat → Nat → Nat → Int32 → cm_W → Option (Bool × cm_W)) (hk_18 : ∀ (a0 : Nat) (a1 : Nat) (a2 : Nat) (i3 : Int32) (w : cm_W), sm cm_g 300 ck_300 kq_300 18 [(0, .ref a0), (1, .ref a1), (2, .ref a2), (3, .int i3)] [] w ((k_18 a0 a1 a2 i3 w).map cm_gB)) (a0 : Nat) (a1 : Nat) (a2 : Nat) (i3 : Int32) (w : cm_W) : sm cm_g 300 ck_300 kq_300 1099 [(0, .ref a0), (1, .ref a1), (2, .ref a2), (3, .int i3)] [] w ((fn_300_1099 k_18 a0 a1 a2 i3 w).map cm_gB) := by
  unfold fn_300_1099
  refine sm_seg 5 1104 [(0, .ref a0), (1, .ref a1), (2, .ref a2), (3, .int i3)] [.int (i3 + (1 : Int32)), .ref a0, .ref a1] rfl ?_
  refine sm_gd fun h262 => ?_
  refine sm_ai rfl h262 rfl ?_
  show sm _ _ _ _ 1105 [(0, .ref a0), (1, .ref a1), (2, .ref a2), (3, .int i3)] [.int (cm_I w a0 (i3 + (1 : Int32)).toNatClampNeg), .ref a1] _ _
  refine sm_gd fun h263 => ?_
  refine sm_cV (as := [.int (cm_I w a0 (i3 + (1 : Int32)).toNatClampNeg)]) (rest := []) rfl rfl rfl rfl h263 (Nat.le_of_ble_eq_true rfl) (ca_171  a1 (cm_I w a0 (i3 + (1 : Int32)).toNatClampNeg) w) fun v264 h265 => ?_
  show sm _ _ _ _ 1108 [(0, .ref a0), (1, .ref a1), (2, .ref a2), (3, .int i3)] [.int v264.1] _ _
  refine sm_seg 5 1113 [(0, .ref a0), (1, .ref a1), (2, .ref a2), (3, .int i3)] [.int (i3 + (1 : Int32)), .ref a0, .ref a2, .int v264.1] rfl ?_
  refine sm_gd fun h266 => ?_
  refine sm_ai rfl h266 rfl ?_
  show sm _ _ _ _ 1114 [(0, .ref a0), (1, .ref a1), (2, .ref a2), (3, .int i3)] [.int (cm_I v264.2 a0 (i3 + (1 : Int32)).toNatClampNeg), .ref a2, .int v264.1] _ _
  refine sm_gd fun h267 => ?_
  refine sm_cV (as := [.int (cm_I v264.2 a0 (i3 + (1 : Int32)).toNatClampNeg)]) (rest := [.int v264.1]) rfl rfl rfl rfl h267 (Nat.le_of_ble_eq_true rfl) (ca_266  a2 (cm_I v264.2 a0 (i3 + (1 : Int32)).toNatClampNeg) v264.2) fun v268 h269 => ?_
  show sm _ _ _ _ 1117 [(0, .ref a0), (1, .ref a1), (2, .ref a2), (3, .int i3)] [.int v268.1, .int v264.1] _ _
  refine sm_if (pc1 := 1773) (lv1 := [(0, .ref a0), (1, .ref a1), (2, .ref a2), (3, .int i3)]) (pc2 := 1120) (lv2 := [(0, .ref a0), (1, .ref a1), (2, .ref a2), (3, .int i3)]) (st1 := []) rfl rfl rfl (fun h270 => ?_) (fun h270 => ?_)
  · exact jt_300_1773  k_18 hk_18 a0 a1 a2 i3 v268.2
  · refine sm_seg 1 1121 [(0, .ref a0), (1, .ref a1), (2, .ref a2), (3, .int i3)] [.int (0 : Int32)] rfl ?_
    exact sm_rBW (b := false) rfl rfl
def fn_300_1122 (k_18 : Nat → Nat → Nat → Int32 → cm_W → Option (Bool × cm_W)) (a0 : Nat) (a1 : Nat) (a2 : Nat) (i3 : Int32) (w : cm_W) : Option (Bool × cm_W) := (if cm_ga w .int a0 (i3 + (1 : Int32)) = true then (if cm_ga w .int a0 (i3 + (2 : Int32)) = true then (if cm_ga w .int a0 (i3 + (3 : Int32)) = true then (if cm_ga w .int a0 (i3 + (4 : Int32)) = true then (if cm_ga w .int a0 (i3 + (5 : Int32)) = true then (if cm_sh w a1 = some (.inl 10) then (fn_173 a1 (cm_I w a0 (i3 + (1 : Int32)).toNatClampNeg) (cm_I w a0 (i3 + (2 : Int32)).toNatClampNeg) (cm_I w a0 (i3 + (3 : Int32)).toNatClampNeg) (cm_I w a0 (i3 + (4 : Int32)).toNatClampNeg) (cm_I w a0 (i3 + (5 : Int32)).toNatClampNeg) w).bind fun v277 => (if cm_ga v277.2 .int a0 (i3 + (1 : Int32)) = true then (if cm_ga v277.2 .int a0 (i3 + (2 : Int32)) = true then (if cm_ga v277.2 .int a0 (i3 + (3 : Int32)) = true then (if cm_ga v277.2 .int a0 (i3 + (4 : Int32)) = true then (if cm_ga v277.2 .int a0 (i3 + (5 : Int32)) = true then (if cm_sh v277.2 a2 = some (.inl 11) then (fn_273 a2 (cm_I v277.2 a0 (i3 + (1 : Int32)).toNatClampNeg) (cm_I v277.2 a0 (i3 + (2 : Int32)).toNatClampNeg) (cm_I v277.2 a0 (i3 + (3 : Int32)).toNatClampNeg) (cm_I v277.2 a0 (i3 + (4 : Int32)).toNatClampNeg) (cm_I v277.2 a0 (i3 + (5 : Int32)).toNatClampNeg) v277.2).bind fun v285 => (if v277.1 = v285.1 then fn_300_1773  k_18 a0 a1 a2 i3 v285.2 else some (false, v285.2)) else none) else none) else none) else none) else none) else none) else none) else none) else none) else none) else none) else none)
theorem jt_300_1122 (k_18 : Nat → Nat → Nat → Int32 → cm_W → Option (Bool × cm_W)) (hk_18 : ∀ (a0 : Nat) (a1 : Nat) (a2 : Nat) (i3 : Int32) (w : cm_W), sm cm_g 300 ck_300 kq_300 18 [(0, .ref a0), (1, .ref a1), (2, .ref a2), (3, .int i3)] [] w ((k_18 a0 a1 a2 i3 w).map cm_gB)) (a0 : Nat) (a1 : Nat) (a2 : Nat) (i3 : Int32) (w : cm_W) : sm cm_g 300 ck_300 kq_300 1122 [(0, .ref a0), (1, .ref a1), (2, .ref a2), (3, .int i3)] [] w ((fn_300_1122 k_18 a0 a1 a2 i3 w).map cm_gB) := by
  unfold fn_300_1122
  refine sm_seg 5 1127 [(0, .ref a0), (1, .ref a1), (2, .ref a2), (3, .int i3)] [.int (i3 + (1 : Int32)), .ref a0, .ref a1] rfl ?_
  refine sm_gd fun h271 => ?_
  refine sm_ai rfl h271 rfl ?_
  show sm _ _ _ _ 1128 [(0, .ref a0), (1, .ref a1), (2, .ref a2), (3, .int i3)] [.int (cm_I w a0 (i3 + (1 : Int32)).toNatClampNeg), .ref a1] _ _
  refine sm_seg 4 1132 [(0, .ref a0), (1, .ref a1), (2, .ref a2), (3, .int i3)] [.int (i3 + (2 : Int32)), .ref a0, .int (cm_I w a0 (i3 + (1 : Int32)).toNatClampNeg), .ref a1] rfl ?_
  refine sm_gd fun h272 => ?_
  refine sm_ai rfl h272 rfl ?_
  show sm _ _ _ _ 1133 [(0, .ref a0), (1, .ref a1), (2, .ref a2), (3, .int i3)] [.int (cm_I w a0 (i3 + (2 : Int32)).toNatClampNeg), .int (cm_I w a0 (i3 + (1 : Int32)).toNatClampNeg), .ref a1] _ _
  refine sm_seg 4 1137 [(0, .ref a0), (1, .ref a1), (2, .ref a2), (3, .int i3)] [.int (i3 + (3 : Int32)), .ref a0, .int (cm_I w a0 (i3 + (2 : Int32)).toNatClampNeg), .int (cm_I w a0 (i3 + (1 : Int32)).toNatClampNeg), .ref a1] rfl ?_
  refine sm_gd fun h273 => ?_
  refine sm_ai rfl h273 rfl ?_
  show sm _ _ _ _ 1138 [(0, .ref a0), (1, .ref a1), (2, .ref a2), (3, .int i3)] [.int (cm_I w a0 (i3 + (3 : Int32)).toNatClampNeg), .int (cm_I w a0 (i3 + (2 : Int32)).toNatClampNeg), .int (cm_I w a0 (i3 + (1 : Int32)).toNatClampNeg), .ref a1] _ _
  refine sm_seg 4 1142 [(0, .ref a0), (1, .ref a1), (2, .ref a2), (3, .int i3)] [.int (i3 + (4 : Int32)), .ref a0, .int (cm_I w a0 (i3 + (3 : Int32)).toNatClampNeg), .int (cm_I w a0 (i3 + (2 : Int32)).toNatClampNeg), .int (cm_I w a0 (i3 + (1 : Int32)).toNatClampNeg), .ref a1] rfl ?_
  refine sm_gd fun h274 => ?_
  refine sm_ai rfl h274 rfl ?_
  show sm _ _ _ _ 1143 [(0, .ref a0), (1, .ref a1), (2, .ref a2), (3, .int i3)] [.int (cm_I w a0 (i3 + (4 : Int32)).toNatClampNeg), .int (cm_I w a0 (i3 + (3 : Int32)).toNatClampNeg), .int (cm_I w a0 (i3 + (2 : Int32)).toNatClampNeg), .int (cm_I w a0 (i3 + (1 : Int32)).toNatClampNeg), .ref a1] _ _
  refine sm_seg 4 1147 [(0, .ref a0), (1, .ref a1), (2, .ref a2), (3, .int i3)] [.int (i3 + (5 : Int32)), .ref a0, .int (cm_I w a0 (i3 + (4 : Int32)).toNatClampNeg), .int (cm_I w a0 (i3 + (3 : Int32)).toNatClampNeg), .int (cm_I w a0 (i3 + (2 : Int32)).toNatClampNeg), .int (cm_I w a0 (i3 + (1 : Int32)).toNatClampNeg), .ref a1] rfl ?_
  refine sm_gd fun h275 => ?_
  refine sm_ai rfl h275 rfl ?_
  show sm _ _ _ _ 1148 [(0, .ref a0), (1, .ref a1), (2, .ref a2), (3, .int i3)] [.int (cm_I w a0 (i3 + (5 : Int32)).toNatClampNeg), .int (cm_I w a0 (i3 + (4 : Int32)).toNatClampNeg), .int (cm_I w a0 (i3 + (3 : Int32)).toNatClampNeg), .int (cm_I w a0 (i3 + (2 : Int32)).toNatClampNeg), .int (cm_I w a0 (i3 + (1 : Int32)).toNatClampNeg), .ref a1] _ _
  refine sm_gd fun h276 => ?_
  refine sm_cV (as := [.int (cm_I w a0 (i3 + (1 : Int32)).toNatClampNeg), .int (cm_I w a0 (i3 + (2 : Int32)).toNatClampNeg), .int (cm_I w a0 (i3 + (3 : Int32)).toNatClampNeg), .int (cm_I w a0 (i3 + (4 : Int32)).toNatClampNeg), .int (cm_I w a0 (i3 + (5 : Int32)).toNatClampNeg)]) (rest := []) rfl rfl rfl rfl h276 (Nat.le_of_ble_eq_true rfl) (ca_173  a1 (cm_I w a0 (i3 + (1 : Int32)).toNatClampNeg) (cm_I w a0 (i3 + (2 : Int32)).toNatClampNeg) (cm_I w a0 (i3 + (3 : Int32)).toNatClampNeg) (cm_I w a0 (i3 + (4 : Int32)).toNatClampNeg) (cm_I w a0 (i3 + (5 : Int32)).toNatClampNeg) w) fun v277 h278 => ?_
  show sm _ _ _ _ 1151 [(0, .ref a0), (1, .ref a1), (2, .ref a2), (3, .int i3)] [.int v277.1] _ _
  refine sm_seg 5 1156 [(0, .ref a0), (1, .ref a1), (2, .ref a2), (3, .int i3)] [.int (i3 + (1 : Int32)), .ref a0, .ref a2, .int v277.1] rfl ?_
  refine sm_gd fun h279 => ?_
  refine sm_ai rfl h279 rfl ?_
  show sm _ _ _ _ 1157 [(0, .ref a0), (1, .ref a1), (2, .ref a2), (3, .int i3)] [.int (cm_I v277.2 a0 (i3 + (1 : Int32)).toNatClampNeg), .ref a2, .int v277.1] _ _
  refine sm_seg 4 1161 [(0, .ref a0), (1, .ref a1), (2, .ref a2), (3, .int i3)] [.int (i3 + (2 : Int32)), .ref a0, .int (cm_I v277.2 a0 (i3 + (1 : Int32)).toNatClampNeg), .ref a2, .int v277.1] rfl ?_
  refine sm_gd fun h280 => ?_
  refine sm_ai rfl h280 rfl ?_
  show sm _ _ _ _ 1162 [(0, .ref a0), (1, .ref a1), (2, .ref a2), (3, .int i3)] [.int (cm_I v277.2 a0 (i3 + (2 : Int32)).toNatClampNeg), .int (cm_I v277.2 a0 (i3 + (1 : Int32)).toNatClampNeg), .ref a2, .int v277.1] _ _
  refine sm_seg 4 1166 [(0, .ref a0), (1, .ref a1), (2, .ref a2), (3, .int i3)] [.int (i3 + (3 : Int32)), .ref a0, .int (cm_I v277.2 a0 (i3 + (2 : Int32)).toNatClampNeg), .int (cm_I v277.2 a0 (i3 + (1 : Int32)).toNatClampNeg), .ref a2, .int v277.1] rfl ?_
  refine sm_gd fun h281 => ?_
  refine sm_ai rfl h281 rfl ?_
  show sm _ _ _ _ 1167 [(0, .ref a0), (1, .ref a1), (2, .ref a2), (3, .int i3)] [.int (cm_I v277.2 a0 (i3 + (3 : Int32)).toNatClampNeg), .int (cm_I v277.2 a0 (i3 + (2 : Int32)).toNatClampNeg), .int (cm_I v277.2 a0 (i3 + (1 : Int32)).toNatClampNeg), .ref a2, .int v277.1] _ _
  refine sm_seg 4 1171 [(0, .ref a0), (1, .ref a1), (2, .ref a2), (3, .int i3)] [.int (i3 + (4 : Int32)), .ref a0, .int (cm_I v277.2 a0 (i3 + (3 : Int32)).toNatClampNeg), .int (cm_I v277.2 a0 (i3 + (2 : Int32)).toNatClampNeg), .int (cm_I v277.2 a0 (i3 + (1 : Int32)).toNatClampNeg), .ref a2, .int v277.1] rfl ?_
  refine sm_gd fun h282 => ?_
  refine sm_ai rfl h282 rfl ?_
  show sm _ _ _ _ 1172 [(0, .ref a0), (1, .ref a1), (2, .ref a2), (3, .int i3)] [.int (cm_I v277.2 a0 (i3 + (4 : Int32)).toNatClampNeg), .int (cm_I v277.2 a0 (i3 + (3 : Int32)).toNatClampNeg), .int (cm_I v277.2 a0 (i3 + (2 : Int32)).toNatClampNeg), .int (cm_I v277.2 a0 (i3 + (1 : Int32)).toNatClampNeg), .ref a2, .int v277.1] _ _
  refine sm_seg 4 1176 [(0, .ref a0), (1, .ref a1), (2, .ref a2), (3, .int i3)] [.int (i3 + (5 : Int32)), .ref a0, .int (cm_I v277.2 a0 (i3 + (4 : Int32)).toNatClampNeg), .int (cm_I v277.2 a0 (i3 + (3 : Int32)).toNatClampNeg), .int (cm_I v277.2 a0 (i3 + (2 : Int32)).toNatClampNeg), .int (cm_I v277.2 a0 (i3 + (1 : Int32)).toNatClampNeg), .ref a2, .int v277.1] rfl ?_
  refine sm_gd fun h283 => ?_
  refine sm_ai rfl h283 rfl ?_
  show sm _ _ _ _ 1177 [(0, .ref a0), (1, .ref a1), (2, .ref a2), (3, .int i3)] [.int (cm_I v277.2 a0 (i3 + (5 : Int32)).toNatClampNeg), .int (cm_I v277.2 a0 (i3 + (4 : Int32)).toNatClampNeg), .int (cm_I v277.2 a0 (i3 + (3 : Int32)).toNatClampNeg), .int (cm_I v277.2 a0 (i3 + (2 : Int32)).toNatClampNeg), .int (cm_I v277.2 a0 (i3 + (1 : Int32)).toNatClampNeg), .ref a2, .int v277.1] _ _
  refine sm_gd fun h284 => ?_
  refine sm_cV (as := [.int (cm_I v277.2 a0 (i3 + (1 : Int32)).toNatClampNeg), .int (cm_I v277.2 a0 (i3 + (2 : Int32)).toNatClampNeg), .int (cm_I v277.2 a0 (i3 + (3 : Int32)).toNatClampNeg), .int (cm_I v277.2 a0 (i3 + (4 : Int32)).toNatClampNeg), .int (cm_I v277.2 a0 (i3 + (5 : Int32)).toNatClampNeg)]) (rest := [.int v277.1]) rfl rfl rfl rfl h284 (Nat.le_of_ble_eq_true rfl) (ca_273  a2 (cm_I v277.2 a0 (i3 + (1 : Int32)).toNatClampNeg) (cm_I v277.2 a0 (i3 + (2 : Int32)).toNatClampNeg) (cm_I v277.2 a0 (i3 + (3 : Int32)).toNatClampNeg) (cm_I v277.2 a0 (i3 + (4 : Int32)).toNatClampNeg) (cm_I v277.2 a0 (i3 + (5 : Int32)).toNatClampNeg) v277.2) fun v285 h286 => ?_
  show sm _ _ _ _ 1180 [(0, .ref a0), (1, .ref a1), (2, .ref a2), (3, .int i3)] [.int v285.1, .int v277.1] _ _
  refine sm_if (pc1 := 1773) (lv1 := [(0, .ref a0), (1, .ref a1), (2, .ref a2), (3, .int i3)]) (pc2 := 1183) (lv2 := [(0, .ref a0), (1, .ref a1), (2, .ref a2), (3, .int i3)]) (st1 := []) rfl rfl rfl (fun h287 => ?_) (fun h287 => ?_)
  · exact jt_300_1773  k_18 hk_18 a0 a1 a2 i3 v285.2
  · refine sm_seg 1 1184 [(0, .ref a0), (1, .ref a1), (2, .ref a2), (3, .int i3)] [.int (0 : Int32)] rfl ?_
    exact sm_rBW (b := false) rfl rfl
def fn_300_1185 (k_18 : Nat → Nat → Nat → Int32 → cm_W → Option (Bool × cm_W)) (a0 : Nat) (a1 : Nat) (a2 : Nat) (i3 : Int32) (w : cm_W) : Option (Bool × cm_W) := (if cm_ga w .int a0 (i3 + (1 : Int32)) = true then (if cm_ga w .int a0 (i3 + (2 : Int32)) = true then (if cm_sh w a1 = some (.inl 10) then (fn_174 a1 (cm_I w a0 (i3 + (1 : Int32)).toNatClampNeg) (cm_I w a0 (i3 + (2 : Int32)).toNatClampNeg) w).bind fun v291 => (if cm_ga v291.2 .int a0 (i3 + (1 : Int32)) = true then (if cm_ga v291.2 .int a0 (i3 + (2 : Int32)) = true then (if cm_sh v291.2 a2 = some (.inl 11) then (fn_278 a2 (cm_I v291.2 a0 (i3 + (1 : Int32)).toNatClampNeg) (cm_I v291.2 a0 (i3 + (2 : Int32)).toNatClampNeg) v291.2).bind fun v296 => (if v291.1 = v296.1 then fn_300_1773  k_18 a0 a1 a2 i3 v296.2 else some (false, v296.2)) else none) else none) else none) else none) else none) else none)
theorem jt_300_1185 (k_18 : Nat → Nat → Nat → Int32 → cm_W → Option (Bool × cm_W)) (hk_18 : ∀ (a0 : Nat) (a1 : Nat) (a2 : Nat) (i3 : Int32) (w : cm_W), sm cm_g 300 ck_300 kq_300 18 [(0, .ref a0), (1, .ref a1), (2, .ref a2), (3, .int i3)] [] w ((k_18 a0 a1 a2 i3 w).map cm_gB)) (a0 : Nat) (a1 : Nat) (a2 : Nat) (i3 : Int32) (w : cm_W) : sm cm_g 300 ck_300 kq_300 1185 [(0, .ref a0), (1, .ref a1), (2, .ref a2), (3, .int i3)] [] w ((fn_300_1185 k_18 a0 a1 a2 i3 w).map cm_gB) := by
  unfold fn_300_1185
  refine sm_seg 5 1190 [(0, .ref a0), (1, .ref a1), (2, .ref a2), (3, .int i3)] [.int (i3 + (1 : Int32)), .ref a0, .ref a1] rfl ?_
  refine sm_gd fun h288 => ?_
  refine sm_ai rfl h288 rfl ?_
  show sm _ _ _ _ 1191 [(0, .ref a0), (1, .ref a1), (2, .ref a2), (3, .int i3)] [.int (cm_I w a0 (i3 + (1 : Int32)).toNatClampNeg), .ref a1] _ _
  refine sm_seg 4 1195 [(0, .ref a0), (1, .ref a1), (2, .ref a2), (3, .int i3)] [.int (i3 + (2 : Int32)), .ref a0, .int (cm_I w a0 (i3 + (1 : Int32)).toNatClampNeg), .ref a1] rfl ?_
  refine sm_gd fun h289 => ?_
  refine sm_ai rfl h289 rfl ?_
  show sm _ _ _ _ 1196 [(0, .ref a0), (1, .ref a1), (2, .ref a2), (3, .int i3)] [.int (cm_I w a0 (i3 + (2 : Int32)).toNatClampNeg), .int (cm_I w a0 (i3 + (1 : Int32)).toNatClampNeg), .ref a1] _ _
  refine sm_gd fun h290 => ?_
  refine sm_cV (as := [.int (cm_I w a0 (i3 + (1 : Int32)).toNatClampNeg), .int (cm_I w a0 (i3 + (2 : Int32)).toNatClampNeg)]) (rest := []) rfl rfl rfl rfl h290 (Nat.le_of_ble_eq_true rfl) (ca_174  a1 (cm_I w a0 (i3 + (1 : Int32)).toNatClampNeg) (cm_I w a0 (i3 + (2 : Int32)).toNatClampNeg) w) fun v291 h292 => ?_
  show sm _ _ _ _ 1199 [(0, .ref a0), (1, .ref a1), (2, .ref a2), (3, .int i3)] [.int v291.1] _ _
  refine sm_seg 5 1204 [(0, .ref a0), (1, .ref a1), (2, .ref a2), (3, .int i3)] [.int (i3 + (1 : Int32)), .ref a0, .ref a2, .int v291.1] rfl ?_
  refine sm_gd fun h293 => ?_
  refine sm_ai rfl h293 rfl ?_
  show sm _ _ _ _ 1205 [(0, .ref a0), (1, .ref a1), (2, .ref a2), (3, .int i3)] [.int (cm_I v291.2 a0 (i3 + (1 : Int32)).toNatClampNeg), .ref a2, .int v291.1] _ _
  refine sm_seg 4 1209 [(0, .ref a0), (1, .ref a1), (2, .ref a2), (3, .int i3)] [.int (i3 + (2 : Int32)), .ref a0, .int (cm_I v291.2 a0 (i3 + (1 : Int32)).toNatClampNeg), .ref a2, .int v291.1] rfl ?_
  refine sm_gd fun h294 => ?_
  refine sm_ai rfl h294 rfl ?_
  show sm _ _ _ _ 1210 [(0, .ref a0), (1, .ref a1), (2, .ref a2), (3, .int i3)] [.int (cm_I v291.2 a0 (i3 + (2 : Int32)).toNatClampNeg), .int (cm_I v291.2 a0 (i3 + (1 : Int32)).toNatClampNeg), .ref a2, .int v291.1] _ _
  refine sm_gd fun h295 => ?_
  refine sm_cV (as := [.int (cm_I v291.2 a0 (i3 + (1 : Int32)).toNatClampNeg), .int (cm_I v291.2 a0 (i3 + (2 : Int32)).toNatClampNeg)]) (rest := [.int v291.1]) rfl rfl rfl rfl h295 (Nat.le_of_ble_eq_true rfl) (ca_278  a2 (cm_I v291.2 a0 (i3 + (1 : Int32)).toNatClampNeg) (cm_I v291.2 a0 (i3 + (2 : Int32)).toNatClampNeg) v291.2) fun v296 h297 => ?_
  show sm _ _ _ _ 1213 [(0, .ref a0), (1, .ref a1), (2, .ref a2), (3, .int i3)] [.int v296.1, .int v291.1] _ _
  refine sm_if (pc1 := 1773) (lv1 := [(0, .ref a0), (1, .ref a1), (2, .ref a2), (3, .int i3)]) (pc2 := 1216) (lv2 := [(0, .ref a0), (1, .ref a1), (2, .ref a2), (3, .int i3)]) (st1 := []) rfl rfl rfl (fun h298 => ?_) (fun h298 => ?_)
  · exact jt_300_1773  k_18 hk_18 a0 a1 a2 i3 v296.2
  · refine sm_seg 1 1217 [(0, .ref a0), (1, .ref a1), (2, .ref a2), (3, .int i3)] [.int (0 : Int32)] rfl ?_
    exact sm_rBW (b := false) rfl rfl
def fn_300_1218 (k_18 : Nat → Nat → Nat → Int32 → cm_W → Option (Bool × cm_W)) (a0 : Nat) (a1 : Nat) (a2 : Nat) (i3 : Int32) (w : cm_W) : Option (Bool × cm_W) := (if cm_ga w .int a0 (i3 + (1 : Int32)) = true then (if cm_sh w a1 = some (.inl 10) then (fn_175 a1 (cm_I w a0 (i3 + (1 : Int32)).toNatClampNeg) w).bind fun v301 => (if cm_ga v301.2 .int a0 (i3 + (1 : Int32)) = true then (if cm_sh v301.2 a2 = some (.inl 11) then (fn_279 a2 (cm_I v301.2 a0 (i3 + (1 : Int32)).toNatClampNeg) v301.2).bind fun v305 => (if v301.1 = v305.1 then fn_300_1773  k_18 a0 a1 a2 i3 v305.2 else some (false, v305.2)) else none) else none) else none) else none)
theorem jt_300_1218 (k_18 : Nat → Nat → Nat → Int32 → cm_W → Option (Bool × cm_W)) (hk_18 : ∀ (a0 : Nat) (a1 : Nat) (a2 : Nat) (i3 : Int32) (w : cm_W), sm cm_g 300 ck_300 kq_300 18 [(0, .ref a0), (1, .ref a1), (2, .ref a2), (3, .int i3)] [] w ((k_18 a0 a1 a2 i3 w).map cm_gB)) (a0 : Nat) (a1 : Nat) (a2 : Nat) (i3 : Int32) (w : cm_W) : sm cm_g 300 ck_300 kq_300 1218 [(0, .ref a0), (1, .ref a1), (2, .ref a2), (3, .int i3)] [] w ((fn_300_1218 k_18 a0 a1 a2 i3 w).map cm_gB) := by
  unfold fn_300_1218
  refine sm_seg 5 1223 [(0, .ref a0), (1, .ref a1), (2, .ref a2), (3, .int i3)] [.int (i3 + (1 : Int32)), .ref a0, .ref a1] rfl ?_
  refine sm_gd fun h299 => ?_
  refine sm_ai rfl h299 rfl ?_
  show sm _ _ _ _ 1224 [(0, .ref a0), (1, .ref a1), (2, .ref a2), (3, .int i3)] [.int (cm_I w a0 (i3 + (1 : Int32)).toNatClampNeg), .ref a1] _ _
  refine sm_gd fun h300 => ?_
  refine sm_cV (as := [.int (cm_I w a0 (i3 + (1 : Int32)).toNatClampNeg)]) (rest := []) rfl rfl rfl rfl h300 (Nat.le_of_ble_eq_true rfl) (ca_175  a1 (cm_I w a0 (i3 + (1 : Int32)).toNatClampNeg) w) fun v301 h302 => ?_
  show sm _ _ _ _ 1227 [(0, .ref a0), (1, .ref a1), (2, .ref a2), (3, .int i3)] [.int v301.1] _ _
  refine sm_seg 5 1232 [(0, .ref a0), (1, .ref a1), (2, .ref a2), (3, .int i3)] [.int (i3 + (1 : Int32)), .ref a0, .ref a2, .int v301.1] rfl ?_
  refine sm_gd fun h303 => ?_
  refine sm_ai rfl h303 rfl ?_
  show sm _ _ _ _ 1233 [(0, .ref a0), (1, .ref a1), (2, .ref a2), (3, .int i3)] [.int (cm_I v301.2 a0 (i3 + (1 : Int32)).toNatClampNeg), .ref a2, .int v301.1] _ _
  refine sm_gd fun h304 => ?_
  refine sm_cV (as := [.int (cm_I v301.2 a0 (i3 + (1 : Int32)).toNatClampNeg)]) (rest := [.int v301.1]) rfl rfl rfl rfl h304 (Nat.le_of_ble_eq_true rfl) (ca_279  a2 (cm_I v301.2 a0 (i3 + (1 : Int32)).toNatClampNeg) v301.2) fun v305 h306 => ?_
  show sm _ _ _ _ 1236 [(0, .ref a0), (1, .ref a1), (2, .ref a2), (3, .int i3)] [.int v305.1, .int v301.1] _ _
  refine sm_if (pc1 := 1773) (lv1 := [(0, .ref a0), (1, .ref a1), (2, .ref a2), (3, .int i3)]) (pc2 := 1239) (lv2 := [(0, .ref a0), (1, .ref a1), (2, .ref a2), (3, .int i3)]) (st1 := []) rfl rfl rfl (fun h307 => ?_) (fun h307 => ?_)
  · exact jt_300_1773  k_18 hk_18 a0 a1 a2 i3 v305.2
  · refine sm_seg 1 1240 [(0, .ref a0), (1, .ref a1), (2, .ref a2), (3, .int i3)] [.int (0 : Int32)] rfl ?_
    exact sm_rBW (b := false) rfl rfl
def fn_300_1241 (k_18 : Nat → Nat → Nat → Int32 → cm_W → Option (Bool × cm_W)) (a0 : Nat) (a1 : Nat) (a2 : Nat) (i3 : Int32) (w : cm_W) : Option (Bool × cm_W) := (if cm_ga w .int a0 (i3 + (1 : Int32)) = true then (if cm_ga w .int a0 (i3 + (2 : Int32)) = true then (if cm_sh w a1 = some (.inl 10) then (fn_176 a1 (cm_I w a0 (i3 + (1 : Int32)).toNatClampNeg) (cm_I w a0 (i3 + (2 : Int32)).toNatClampNeg) w).bind fun v311 => (if cm_ga v311.2 .int a0 (i3 + (1 : Int32)) = true then (if cm_ga v311.2 .int a0 (i3 + (2 : Int32)) = true then (if cm_sh v311.2 a2 = some (.inl 11) then (fn_281 a2 (cm_I v311.2 a0 (i3 + (1 : Int32)).toNatClampNeg) (cm_I v311.2 a0 (i3 + (2 : Int32)).toNatClampNeg) v311.2).bind fun v316 => (if v311.1 = v316.1 then fn_300_1773  k_18 a0 a1 a2 i3 v316.2 else some (false, v316.2)) else none) else none) else none) else none) else none) else none)
theorem jt_300_1241 (k_18 : Nat → Nat → Nat → Int32 → cm_W → Option (Bool × cm_W)) (hk_18 : ∀ (a0 : Nat) (a1 : Nat) (a2 : Nat) (i3 : Int32) (w : cm_W), sm cm_g 300 ck_300 kq_300 18 [(0, .ref a0), (1, .ref a1), (2, .ref a2), (3, .int i3)] [] w ((k_18 a0 a1 a2 i3 w).map cm_gB)) (a0 : Nat) (a1 : Nat) (a2 : Nat) (i3 : Int32) (w : cm_W) : sm cm_g 300 ck_300 kq_300 1241 [(0, .ref a0), (1, .ref a1), (2, .ref a2), (3, .int i3)] [] w ((fn_300_1241 k_18 a0 a1 a2 i3 w).map cm_gB) := by
  unfold fn_300_1241
  refine sm_seg 5 1246 [(0, .ref a0), (1, .ref a1), (2, .ref a2), (3, .int i3)] [.int (i3 + (1 : Int32)), .ref a0, .ref a1] rfl ?_
  refine sm_gd fun h308 => ?_
  refine sm_ai rfl h308 rfl ?_
  show sm _ _ _ _ 1247 [(0, .ref a0), (1, .ref a1), (2, .ref a2), (3, .int i3)] [.int (cm_I w a0 (i3 + (1 : Int32)).toNatClampNeg), .ref a1] _ _
  refine sm_seg 4 1251 [(0, .ref a0), (1, .ref a1), (2, .ref a2), (3, .int i3)] [.int (i3 + (2 : Int32)), .ref a0, .int (cm_I w a0 (i3 + (1 : Int32)).toNatClampNeg), .ref a1] rfl ?_
  refine sm_gd fun h309 => ?_
  refine sm_ai rfl h309 rfl ?_
  show sm _ _ _ _ 1252 [(0, .ref a0), (1, .ref a1), (2, .ref a2), (3, .int i3)] [.int (cm_I w a0 (i3 + (2 : Int32)).toNatClampNeg), .int (cm_I w a0 (i3 + (1 : Int32)).toNatClampNeg), .ref a1] _ _
  refine sm_gd fun h310 => ?_
  refine sm_cV (as := [.int (cm_I w a0 (i3 + (1 : Int32)).toNatClampNeg), .int (cm_I w a0 (i3 + (2 : Int32)).toNatClampNeg)]) (rest := []) rfl rfl rfl rfl h310 (Nat.le_of_ble_eq_true rfl) (ca_176  a1 (cm_I w a0 (i3 + (1 : Int32)).toNatClampNeg) (cm_I w a0 (i3 + (2 : Int32)).toNatClampNeg) w) fun v311 h312 => ?_
  show sm _ _ _ _ 1255 [(0, .ref a0), (1, .ref a1), (2, .ref a2), (3, .int i3)] [.int v311.1] _ _
  refine sm_seg 5 1260 [(0, .ref a0), (1, .ref a1), (2, .ref a2), (3, .int i3)] [.int (i3 + (1 : Int32)), .ref a0, .ref a2, .int v311.1] rfl ?_
  refine sm_gd fun h313 => ?_
  refine sm_ai rfl h313 rfl ?_
  show sm _ _ _ _ 1261 [(0, .ref a0), (1, .ref a1), (2, .ref a2), (3, .int i3)] [.int (cm_I v311.2 a0 (i3 + (1 : Int32)).toNatClampNeg), .ref a2, .int v311.1] _ _
  refine sm_seg 4 1265 [(0, .ref a0), (1, .ref a1), (2, .ref a2), (3, .int i3)] [.int (i3 + (2 : Int32)), .ref a0, .int (cm_I v311.2 a0 (i3 + (1 : Int32)).toNatClampNeg), .ref a2, .int v311.1] rfl ?_
  refine sm_gd fun h314 => ?_
  refine sm_ai rfl h314 rfl ?_
  show sm _ _ _ _ 1266 [(0, .ref a0), (1, .ref a1), (2, .ref a2), (3, .int i3)] [.int (cm_I v311.2 a0 (i3 + (2 : Int32)).toNatClampNeg), .int (cm_I v311.2 a0 (i3 + (1 : Int32)).toNatClampNeg), .ref a2, .int v311.1] _ _
  refine sm_gd fun h315 => ?_
  refine sm_cV (as := [.int (cm_I v311.2 a0 (i3 + (1 : Int32)).toNatClampNeg), .int (cm_I v311.2 a0 (i3 + (2 : Int32)).toNatClampNeg)]) (rest := [.int v311.1]) rfl rfl rfl rfl h315 (Nat.le_of_ble_eq_true rfl) (ca_281  a2 (cm_I v311.2 a0 (i3 + (1 : Int32)).toNatClampNeg) (cm_I v311.2 a0 (i3 + (2 : Int32)).toNatClampNeg) v311.2) fun v316 h317 => ?_
  show sm _ _ _ _ 1269 [(0, .ref a0), (1, .ref a1), (2, .ref a2), (3, .int i3)] [.int v316.1, .int v311.1] _ _
  refine sm_if (pc1 := 1773) (lv1 := [(0, .ref a0), (1, .ref a1), (2, .ref a2), (3, .int i3)]) (pc2 := 1272) (lv2 := [(0, .ref a0), (1, .ref a1), (2, .ref a2), (3, .int i3)]) (st1 := []) rfl rfl rfl (fun h318 => ?_) (fun h318 => ?_)
  · exact jt_300_1773  k_18 hk_18 a0 a1 a2 i3 v316.2
  · refine sm_seg 1 1273 [(0, .ref a0), (1, .ref a1), (2, .ref a2), (3, .int i3)] [.int (0 : Int32)] rfl ?_
    exact sm_rBW (b := false) rfl rfl
def fn_300_1274 (k_18 : Nat → Nat → Nat → Int32 → cm_W → Option (Bool × cm_W)) (a0 : Nat) (a1 : Nat) (a2 : Nat) (i3 : Int32) (w : cm_W) : Option (Bool × cm_W) := (if cm_ga w .int a0 (i3 + (1 : Int32)) = true then (if cm_ga w .int a0 (i3 + (2 : Int32)) = true then (if cm_ga w .int a0 (i3 + (3 : Int32)) = true then (if cm_sh w a1 = some (.inl 10) then (fn_179 a1 (cm_I w a0 (i3 + (1 : Int32)).toNatClampNeg) (cm_I w a0 (i3 + (2 : Int32)).toNatClampNeg) (cm_I w a0 (i3 + (3 : Int32)).toNatClampNeg) w).bind fun v323 => (if cm_ga v323.2 .int a0 (i3 + (1 : Int32)) = true then (if cm_ga v323.2 .int a0 (i3 + (2 : Int32)) = true then (if cm_ga v323.2 .int a0 (i3 + (3 : Int32)) = true then (if cm_sh v323.2 a2 = some (.inl 11) then (fn_282 v323.2 a2 (cm_I v323.2 a0 (i3 + (1 : Int32)).toNatClampNeg) (cm_I v323.2 a0 (i3 + (2 : Int32)).toNatClampNeg) (cm_I v323.2 a0 (i3 + (3 : Int32)).toNatClampNeg)).bind fun v329 => (if v323.1 = v329 then fn_300_1773  k_18 a0 a1 a2 i3 v323.2 else some (false, v323.2)) else none) else none) else none) else none) else none) else none) else none) else none)
theorem jt_300_1274 (k_18 : Nat → Nat → Nat → Int32 → cm_W → Option (Bool × cm_W)) (hk_18 : ∀ (a0 : Nat) (a1 : Nat) (a2 : Nat) (i3 : Int32) (w : cm_W), sm cm_g 300 ck_300 kq_300 18 [(0, .ref a0), (1, .ref a1), (2, .ref a2), (3, .int i3)] [] w ((k_18 a0 a1 a2 i3 w).map cm_gB)) (a0 : Nat) (a1 : Nat) (a2 : Nat) (i3 : Int32) (w : cm_W) : sm cm_g 300 ck_300 kq_300 1274 [(0, .ref a0), (1, .ref a1), (2, .ref a2), (3, .int i3)] [] w ((fn_300_1274 k_18 a0 a1 a2 i3 w).map cm_gB) := by
  unfold fn_300_1274
  refine sm_seg 5 1279 [(0, .ref a0), (1, .ref a1), (2, .ref a2), (3, .int i3)] [.int (i3 + (1 : Int32)), .ref a0, .ref a1] rfl ?_
  refine sm_gd fun h319 => ?_
  refine sm_ai rfl h319 rfl ?_
  show sm _ _ _ _ 1280 [(0, .ref a0), (1, .ref a1), (2, .ref a2), (3, .int i3)] [.int (cm_I w a0 (i3 + (1 : Int32)).toNatClampNeg), .ref a1] _ _
  refine sm_seg 4 1284 [(0, .ref a0), (1, .ref a1), (2, .ref a2), (3, .int i3)] [.int (i3 + (2 : Int32)), .ref a0, .int (cm_I w a0 (i3 + (1 : Int32)).toNatClampNeg), .ref a1] rfl ?_
  refine sm_gd fun h320 => ?_
  refine sm_ai rfl h320 rfl ?_
  show sm _ _ _ _ 1285 [(0, .ref a0), (1, .ref a1), (2, .ref a2), (3, .int i3)] [.int (cm_I w a0 (i3 + (2 : Int32)).toNatClampNeg), .int (cm_I w a0 (i3 + (1 : Int32)).toNatClampNeg), .ref a1] _ _
  refine sm_seg 4 1289 [(0, .ref a0), (1, .ref a1), (2, .ref a2), (3, .int i3)] [.int (i3 + (3 : Int32)), .ref a0, .int (cm_I w a0 (i3 + (2 : Int32)).toNatClampNeg), .int (cm_I w a0 (i3 + (1 : Int32)).toNatClampNeg), .ref a1] rfl ?_
  refine sm_gd fun h321 => ?_
  refine sm_ai rfl h321 rfl ?_
  show sm _ _ _ _ 1290 [(0, .ref a0), (1, .ref a1), (2, .ref a2), (3, .int i3)] [.int (cm_I w a0 (i3 + (3 : Int32)).toNatClampNeg), .int (cm_I w a0 (i3 + (2 : Int32)).toNatClampNeg), .int (cm_I w a0 (i3 + (1 : Int32)).toNatClampNeg), .ref a1] _ _
  refine sm_gd fun h322 => ?_
  refine sm_cV (as := [.int (cm_I w a0 (i3 + (1 : Int32)).toNatClampNeg), .int (cm_I w a0 (i3 + (2 : Int32)).toNatClampNeg), .int (cm_I w a0 (i3 + (3 : Int32)).toNatClampNeg)]) (rest := []) rfl rfl rfl rfl h322 (Nat.le_of_ble_eq_true rfl) (ca_179  a1 (cm_I w a0 (i3 + (1 : Int32)).toNatClampNeg) (cm_I w a0 (i3 + (2 : Int32)).toNatClampNeg) (cm_I w a0 (i3 + (3 : Int32)).toNatClampNeg) w) fun v323 h324 => ?_
  show sm _ _ _ _ 1293 [(0, .ref a0), (1, .ref a1), (2, .ref a2), (3, .int i3)] [.int v323.1] _ _
  refine sm_seg 5 1298 [(0, .ref a0), (1, .ref a1), (2, .ref a2), (3, .int i3)] [.int (i3 + (1 : Int32)), .ref a0, .ref a2, .int v323.1] rfl ?_
  refine sm_gd fun h325 => ?_
  refine sm_ai rfl h325 rfl ?_
  show sm _ _ _ _ 1299 [(0, .ref a0), (1, .ref a1), (2, .ref a2), (3, .int i3)] [.int (cm_I v323.2 a0 (i3 + (1 : Int32)).toNatClampNeg), .ref a2, .int v323.1] _ _
  refine sm_seg 4 1303 [(0, .ref a0), (1, .ref a1), (2, .ref a2), (3, .int i3)] [.int (i3 + (2 : Int32)), .ref a0, .int (cm_I v323.2 a0 (i3 + (1 : Int32)).toNatClampNeg), .ref a2, .int v323.1] rfl ?_
  refine sm_gd fun h326 => ?_
  refine sm_ai rfl h326 rfl ?_
  show sm _ _ _ _ 1304 [(0, .ref a0), (1, .ref a1), (2, .ref a2), (3, .int i3)] [.int (cm_I v323.2 a0 (i3 + (2 : Int32)).toNatClampNeg), .int (cm_I v323.2 a0 (i3 + (1 : Int32)).toNatClampNeg), .ref a2, .int v323.1] _ _
  refine sm_seg 4 1308 [(0, .ref a0), (1, .ref a1), (2, .ref a2), (3, .int i3)] [.int (i3 + (3 : Int32)), .ref a0, .int (cm_I v323.2 a0 (i3 + (2 : Int32)).toNatClampNeg), .int (cm_I v323.2 a0 (i3 + (1 : Int32)).toNatClampNeg), .ref a2, .int v323.1] rfl ?_
  refine sm_gd fun h327 => ?_
  refine sm_ai rfl h327 rfl ?_
  show sm _ _ _ _ 1309 [(0, .ref a0), (1, .ref a1), (2, .ref a2), (3, .int i3)] [.int (cm_I v323.2 a0 (i3 + (3 : Int32)).toNatClampNeg), .int (cm_I v323.2 a0 (i3 + (2 : Int32)).toNatClampNeg), .int (cm_I v323.2 a0 (i3 + (1 : Int32)).toNatClampNeg), .ref a2, .int v323.1] _ _
  refine sm_gd fun h328 => ?_
  refine sm_cV (as := [.int (cm_I v323.2 a0 (i3 + (1 : Int32)).toNatClampNeg), .int (cm_I v323.2 a0 (i3 + (2 : Int32)).toNatClampNeg), .int (cm_I v323.2 a0 (i3 + (3 : Int32)).toNatClampNeg)]) (rest := [.int v323.1]) rfl rfl rfl rfl h328 (Nat.le_of_ble_eq_true rfl) (ca_282 v323.2 a2 (cm_I v323.2 a0 (i3 + (1 : Int32)).toNatClampNeg) (cm_I v323.2 a0 (i3 + (2 : Int32)).toNatClampNeg) (cm_I v323.2 a0 (i3 + (3 : Int32)).toNatClampNeg)) fun v329 h330 => ?_
  show sm _ _ _ _ 1312 [(0, .ref a0), (1, .ref a1), (2, .ref a2), (3, .int i3)] [.int v329, .int v323.1] _ _
  refine sm_if (pc1 := 1773) (lv1 := [(0, .ref a0), (1, .ref a1), (2, .ref a2), (3, .int i3)]) (pc2 := 1315) (lv2 := [(0, .ref a0), (1, .ref a1), (2, .ref a2), (3, .int i3)]) (st1 := []) rfl rfl rfl (fun h331 => ?_) (fun h331 => ?_)
  · exact jt_300_1773  k_18 hk_18 a0 a1 a2 i3 v323.2
  · refine sm_seg 1 1316 [(0, .ref a0), (1, .ref a1), (2, .ref a2), (3, .int i3)] [.int (0 : Int32)] rfl ?_
    exact sm_rBW (b := false) rfl rfl
def fn_300_1317 (k_18 : Nat → Nat → Nat → Int32 → cm_W → Option (Bool × cm_W)) (a0 : Nat) (a1 : Nat) (a2 : Nat) (i3 : Int32) (w : cm_W) : Option (Bool × cm_W) := (if cm_ga w .int a0 (i3 + (1 : Int32)) = true then (if cm_ga w .int a0 (i3 + (2 : Int32)) = true then (if cm_sh w a1 = some (.inl 10) then (fn_180 a1 (cm_I w a0 (i3 + (1 : Int32)).toNatClampNeg) (cm_I w a0 (i3 + (2 : Int32)).toNatClampNeg) w).bind fun v335 => (if cm_ga v335.2 .int a0 (i3 + (1 : Int32)) = true then (if cm_ga v335.2 .int a0 (i3 + (2 : Int32)) = true then (if cm_sh v335.2 a2 = some (.inl 11) then (fn_283 v335.2 a2 (cm_I v335.2 a0 (i3 + (1 : Int32)).toNatClampNeg) (cm_I v335.2 a0 (i3 + (2 : Int32)).toNatClampNeg)).bind fun v340 => (if v335.1 = v340 then fn_300_1773  k_18 a0 a1 a2 i3 v335.2 else some (false, v335.2)) else none) else none) else none) else none) else none) else none)
theorem jt_300_1317 (k_18 : Nat → Nat → Nat → Int32 → cm_W → Option (Bool × cm_W)) (hk_18 : ∀ (a0 : Nat) (a1 : Nat) (a2 : Nat) (i3 : Int32) (w : cm_W), sm cm_g 300 ck_300 kq_300 18 [(0, .ref a0), (1, .ref a1), (2, .ref a2), (3, .int i3)] [] w ((k_18 a0 a1 a2 i3 w).map cm_gB)) (a0 : Nat) (a1 : Nat) (a2 : Nat) (i3 : Int32) (w : cm_W) : sm cm_g 300 ck_300 kq_300 1317 [(0, .ref a0), (1, .ref a1), (2, .ref a2), (3, .int i3)] [] w ((fn_300_1317 k_18 a0 a1 a2 i3 w).map cm_gB) := by
  unfold fn_300_1317
  refine sm_seg 5 1322 [(0, .ref a0), (1, .ref a1), (2, .ref a2), (3, .int i3)] [.int (i3 + (1 : Int32)), .ref a0, .ref a1] rfl ?_
  refine sm_gd fun h332 => ?_
  refine sm_ai rfl h332 rfl ?_
  show sm _ _ _ _ 1323 [(0, .ref a0), (1, .ref a1), (2, .ref a2), (3, .int i3)] [.int (cm_I w a0 (i3 + (1 : Int32)).toNatClampNeg), .ref a1] _ _
  refine sm_seg 4 1327 [(0, .ref a0), (1, .ref a1), (2, .ref a2), (3, .int i3)] [.int (i3 + (2 : Int32)), .ref a0, .int (cm_I w a0 (i3 + (1 : Int32)).toNatClampNeg), .ref a1] rfl ?_
  refine sm_gd fun h333 => ?_
  refine sm_ai rfl h333 rfl ?_
  show sm _ _ _ _ 1328 [(0, .ref a0), (1, .ref a1), (2, .ref a2), (3, .int i3)] [.int (cm_I w a0 (i3 + (2 : Int32)).toNatClampNeg), .int (cm_I w a0 (i3 + (1 : Int32)).toNatClampNeg), .ref a1] _ _
  refine sm_gd fun h334 => ?_
  refine sm_cV (as := [.int (cm_I w a0 (i3 + (1 : Int32)).toNatClampNeg), .int (cm_I w a0 (i3 + (2 : Int32)).toNatClampNeg)]) (rest := []) rfl rfl rfl rfl h334 (Nat.le_of_ble_eq_true rfl) (ca_180  a1 (cm_I w a0 (i3 + (1 : Int32)).toNatClampNeg) (cm_I w a0 (i3 + (2 : Int32)).toNatClampNeg) w) fun v335 h336 => ?_
  show sm _ _ _ _ 1331 [(0, .ref a0), (1, .ref a1), (2, .ref a2), (3, .int i3)] [.int v335.1] _ _
  refine sm_seg 5 1336 [(0, .ref a0), (1, .ref a1), (2, .ref a2), (3, .int i3)] [.int (i3 + (1 : Int32)), .ref a0, .ref a2, .int v335.1] rfl ?_
  refine sm_gd fun h337 => ?_
  refine sm_ai rfl h337 rfl ?_
  show sm _ _ _ _ 1337 [(0, .ref a0), (1, .ref a1), (2, .ref a2), (3, .int i3)] [.int (cm_I v335.2 a0 (i3 + (1 : Int32)).toNatClampNeg), .ref a2, .int v335.1] _ _
  refine sm_seg 4 1341 [(0, .ref a0), (1, .ref a1), (2, .ref a2), (3, .int i3)] [.int (i3 + (2 : Int32)), .ref a0, .int (cm_I v335.2 a0 (i3 + (1 : Int32)).toNatClampNeg), .ref a2, .int v335.1] rfl ?_
  refine sm_gd fun h338 => ?_
  refine sm_ai rfl h338 rfl ?_
  show sm _ _ _ _ 1342 [(0, .ref a0), (1, .ref a1), (2, .ref a2), (3, .int i3)] [.int (cm_I v335.2 a0 (i3 + (2 : Int32)).toNatClampNeg), .int (cm_I v335.2 a0 (i3 + (1 : Int32)).toNatClampNeg), .ref a2, .int v335.1] _ _
  refine sm_gd fun h339 => ?_
  refine sm_cV (as := [.int (cm_I v335.2 a0 (i3 + (1 : Int32)).toNatClampNeg), .int (cm_I v335.2 a0 (i3 + (2 : Int32)).toNatClampNeg)]) (rest := [.int v335.1]) rfl rfl rfl rfl h339 (Nat.le_of_ble_eq_true rfl) (ca_283 v335.2 a2 (cm_I v335.2 a0 (i3 + (1 : Int32)).toNatClampNeg) (cm_I v335.2 a0 (i3 + (2 : Int32)).toNatClampNeg)) fun v340 h341 => ?_
  show sm _ _ _ _ 1345 [(0, .ref a0), (1, .ref a1), (2, .ref a2), (3, .int i3)] [.int v340, .int v335.1] _ _
  refine sm_if (pc1 := 1773) (lv1 := [(0, .ref a0), (1, .ref a1), (2, .ref a2), (3, .int i3)]) (pc2 := 1348) (lv2 := [(0, .ref a0), (1, .ref a1), (2, .ref a2), (3, .int i3)]) (st1 := []) rfl rfl rfl (fun h342 => ?_) (fun h342 => ?_)
  · exact jt_300_1773  k_18 hk_18 a0 a1 a2 i3 v335.2
  · refine sm_seg 1 1349 [(0, .ref a0), (1, .ref a1), (2, .ref a2), (3, .int i3)] [.int (0 : Int32)] rfl ?_
    exact sm_rBW (b := false) rfl rfl
def fn_300_1350 (k_18 : Nat → Nat → Nat → Int32 → cm_W → Option (Bool × cm_W)) (a0 : Nat) (a1 : Nat) (a2 : Nat) (i3 : Int32) (w : cm_W) : Option (Bool × cm_W) := (if cm_ga w .int a0 (i3 + (1 : Int32)) = true then (if cm_ga w .int a0 (i3 + (2 : Int32)) = true then (if cm_ga w .int a0 (i3 + (3 : Int32)) = true then (if cm_ga w .int a0 (i3 + (4 : Int32)) = true then (if cm_sh w a1 = some (.inl 10) then (fn_181 a1 (cm_I w a0 (i3 + (1 : Int32)).toNatClampNeg) (cm_I w a0 (i3 + (2 : Int32)).toNatClampNeg) (cm_I w a0 (i3 + (3 : Int32)).toNatClampNeg) (cm_I w a0 (i3 + (4 : Int32)).toNatClampNeg) w).bind fun v348 => (if cm_ga v348.2 .int a0 (i3 + (1 : Int32)) = true then (if cm_ga v348.2 .int a0 (i3 + (2 : Int32)) = true then (if cm_ga v348.2 .int a0 (i3 + (3 : Int32)) = true then (if cm_ga v348.2 .int a0 (i3 + (4 : Int32)) = true then (if cm_sh v348.2 a2 = some (.inl 11) then (fn_284 a2 (cm_I v348.2 a0 (i3 + (1 : Int32)).toNatClampNeg) (cm_I v348.2 a0 (i3 + (2 : Int32)).toNatClampNeg) (cm_I v348.2 a0 (i3 + (3 : Int32)).toNatClampNeg) (cm_I v348.2 a0 (i3 + (4 : Int32)).toNatClampNeg) v348.2).bind fun v355 => (if v348.1 = v355.1 then fn_300_1773  k_18 a0 a1 a2 i3 v355.2 else some (false, v355.2)) else none) else none) else none) else none) else none) else none) else none) else none) else none) else none)
theorem jt_300_1350 (k_18 : Nat → Nat → Nat → Int32 → cm_W → Option (Bool × cm_W)) (hk_18 : ∀ (a0 : Nat) (a1 : Nat) (a2 : Nat) (i3 : Int32) (w : cm_W), sm cm_g 300 ck_300 kq_300 18 [(0, .ref a0), (1, .ref a1), (2, .ref a2), (3, .int i3)] [] w ((k_18 a0 a1 a2 i3 w).map cm_gB)) (a0 : Nat) (a1 : Nat) (a2 : Nat) (i3 : Int32) (w : cm_W) : sm cm_g 300 ck_300 kq_300 1350 [(0, .ref a0), (1, .ref a1), (2, .ref a2), (3, .int i3)] [] w ((fn_300_1350 k_18 a0 a1 a2 i3 w).map cm_gB) := by
  unfold fn_300_1350
  refine sm_seg 5 1355 [(0, .ref a0), (1, .ref a1), (2, .ref a2), (3, .int i3)] [.int (i3 + (1 : Int32)), .ref a0, .ref a1] rfl ?_
  refine sm_gd fun h343 => ?_
  refine sm_ai rfl h343 rfl ?_
  show sm _ _ _ _ 1356 [(0, .ref a0), (1, .ref a1), (2, .ref a2), (3, .int i3)] [.int (cm_I w a0 (i3 + (1 : Int32)).toNatClampNeg), .ref a1] _ _
  refine sm_seg 4 1360 [(0, .ref a0), (1, .ref a1), (2, .ref a2), (3, .int i3)] [.int (i3 + (2 : Int32)), .ref a0, .int (cm_I w a0 (i3 + (1 : Int32)).toNatClampNeg), .ref a1] rfl ?_
  refine sm_gd fun h344 => ?_
  refine sm_ai rfl h344 rfl ?_
  show sm _ _ _ _ 1361 [(0, .ref a0), (1, .ref a1), (2, .ref a2), (3, .int i3)] [.int (cm_I w a0 (i3 + (2 : Int32)).toNatClampNeg), .int (cm_I w a0 (i3 + (1 : Int32)).toNatClampNeg), .ref a1] _ _
  refine sm_seg 4 1365 [(0, .ref a0), (1, .ref a1), (2, .ref a2), (3, .int i3)] [.int (i3 + (3 : Int32)), .ref a0, .int (cm_I w a0 (i3 + (2 : Int32)).toNatClampNeg), .int (cm_I w a0 (i3 + (1 : Int32)).toNatClampNeg), .ref a1] rfl ?_
  refine sm_gd fun h345 => ?_
  refine sm_ai rfl h345 rfl ?_
  show sm _ _ _ _ 1366 [(0, .ref a0), (1, .ref a1), (2, .ref a2), (3, .int i3)] [.int (cm_I w a0 (i3 + (3 : Int32)).toNatClampNeg), .int (cm_I w a0 (i3 + (2 : Int32)).toNatClampNeg), .int (cm_I w a0 (i3 + (1 : Int32)).toNatClampNeg), .ref a1] _ _
  refine sm_seg 4 1370 [(0, .ref a0), (1, .ref a1), (2, .ref a2), (3, .int i3)] [.int (i3 + (4 : Int32)), .ref a0, .int (cm_I w a0 (i3 + (3 : Int32)).toNatClampNeg), .int (cm_I w a0 (i3 + (2 : Int32)).toNatClampNeg), .int (cm_I w a0 (i3 + (1 : Int32)).toNatClampNeg), .ref a1] rfl ?_
  refine sm_gd fun h346 => ?_
  refine sm_ai rfl h346 rfl ?_
  show sm _ _ _ _ 1371 [(0, .ref a0), (1, .ref a1), (2, .ref a2), (3, .int i3)] [.int (cm_I w a0 (i3 + (4 : Int32)).toNatClampNeg), .int (cm_I w a0 (i3 + (3 : Int32)).toNatClampNeg), .int (cm_I w a0 (i3 + (2 : Int32)).toNatClampNeg), .int (cm_I w a0 (i3 + (1 : Int32)).toNatClampNeg), .ref a1] _ _
  refine sm_gd fun h347 => ?_
  refine sm_cV (as := [.int (cm_I w a0 (i3 + (1 : Int32)).toNatClampNeg), .int (cm_I w a0 (i3 + (2 : Int32)).toNatClampNeg), .int (cm_I w a0 (i3 + (3 : Int32)).toNatClampNeg), .int (cm_I w a0 (i3 + (4 : Int32)).toNatClampNeg)]) (rest := []) rfl rfl rfl rfl h347 (Nat.le_of_ble_eq_true rfl) (ca_181  a1 (cm_I w a0 (i3 + (1 : Int32)).toNatClampNeg) (cm_I w a0 (i3 + (2 : Int32)).toNatClampNeg) (cm_I w a0 (i3 + (3 : Int32)).toNatClampNeg) (cm_I w a0 (i3 + (4 : Int32)).toNatClampNeg) w) fun v348 h349 => ?_
  show sm _ _ _ _ 1374 [(0, .ref a0), (1, .ref a1), (2, .ref a2), (3, .int i3)] [.int v348.1] _ _
  refine sm_seg 5 1379 [(0, .ref a0), (1, .ref a1), (2, .ref a2), (3, .int i3)] [.int (i3 + (1 : Int32)), .ref a0, .ref a2, .int v348.1] rfl ?_
  refine sm_gd fun h350 => ?_
  refine sm_ai rfl h350 rfl ?_
  show sm _ _ _ _ 1380 [(0, .ref a0), (1, .ref a1), (2, .ref a2), (3, .int i3)] [.int (cm_I v348.2 a0 (i3 + (1 : Int32)).toNatClampNeg), .ref a2, .int v348.1] _ _
  refine sm_seg 4 1384 [(0, .ref a0), (1, .ref a1), (2, .ref a2), (3, .int i3)] [.int (i3 + (2 : Int32)), .ref a0, .int (cm_I v348.2 a0 (i3 + (1 : Int32)).toNatClampNeg), .ref a2, .int v348.1] rfl ?_
  refine sm_gd fun h351 => ?_
  refine sm_ai rfl h351 rfl ?_
  show sm _ _ _ _ 1385 [(0, .ref a0), (1, .ref a1), (2, .ref a2), (3, .int i3)] [.int (cm_I v348.2 a0 (i3 + (2 : Int32)).toNatClampNeg), .int (cm_I v348.2 a0 (i3 + (1 : Int32)).toNatClampNeg), .ref a2, .int v348.1] _ _
  refine sm_seg 4 1389 [(0, .ref a0), (1, .ref a1), (2, .ref a2), (3, .int i3)] [.int (i3 + (3 : Int32)), .ref a0, .int (cm_I v348.2 a0 (i3 + (2 : Int32)).toNatClampNeg), .int (cm_I v348.2 a0 (i3 + (1 : Int32)).toNatClampNeg), .ref a2, .int v348.1] rfl ?_
  refine sm_gd fun h352 => ?_
  refine sm_ai rfl h352 rfl ?_
  show sm _ _ _ _ 1390 [(0, .ref a0), (1, .ref a1), (2, .ref a2), (3, .int i3)] [.int (cm_I v348.2 a0 (i3 + (3 : Int32)).toNatClampNeg), .int (cm_I v348.2 a0 (i3 + (2 : Int32)).toNatClampNeg), .int (cm_I v348.2 a0 (i3 + (1 : Int32)).toNatClampNeg), .ref a2, .int v348.1] _ _
  refine sm_seg 4 1394 [(0, .ref a0), (1, .ref a1), (2, .ref a2), (3, .int i3)] [.int (i3 + (4 : Int32)), .ref a0, .int (cm_I v348.2 a0 (i3 + (3 : Int32)).toNatClampNeg), .int (cm_I v348.2 a0 (i3 + (2 : Int32)).toNatClampNeg), .int (cm_I v348.2 a0 (i3 + (1 : Int32)).toNatClampNeg), .ref a2, .int v348.1] rfl ?_
  refine sm_gd fun h353 => ?_
  refine sm_ai rfl h353 rfl ?_
  show sm _ _ _ _ 1395 [(0, .ref a0), (1, .ref a1), (2, .ref a2), (3, .int i3)] [.int (cm_I v348.2 a0 (i3 + (4 : Int32)).toNatClampNeg), .int (cm_I v348.2 a0 (i3 + (3 : Int32)).toNatClampNeg), .int (cm_I v348.2 a0 (i3 + (2 : Int32)).toNatClampNeg), .int (cm_I v348.2 a0 (i3 + (1 : Int32)).toNatClampNeg), .ref a2, .int v348.1] _ _
  refine sm_gd fun h354 => ?_
  refine sm_cV (as := [.int (cm_I v348.2 a0 (i3 + (1 : Int32)).toNatClampNeg), .int (cm_I v348.2 a0 (i3 + (2 : Int32)).toNatClampNeg), .int (cm_I v348.2 a0 (i3 + (3 : Int32)).toNatClampNeg), .int (cm_I v348.2 a0 (i3 + (4 : Int32)).toNatClampNeg)]) (rest := [.int v348.1]) rfl rfl rfl rfl h354 (Nat.le_of_ble_eq_true rfl) (ca_284  a2 (cm_I v348.2 a0 (i3 + (1 : Int32)).toNatClampNeg) (cm_I v348.2 a0 (i3 + (2 : Int32)).toNatClampNeg) (cm_I v348.2 a0 (i3 + (3 : Int32)).toNatClampNeg) (cm_I v348.2 a0 (i3 + (4 : Int32)).toNatClampNeg) v348.2) fun v355 h356 => ?_
  show sm _ _ _ _ 1398 [(0, .ref a0), (1, .ref a1), (2, .ref a2), (3, .int i3)] [.int v355.1, .int v348.1] _ _
  refine sm_if (pc1 := 1773) (lv1 := [(0, .ref a0), (1, .ref a1), (2, .ref a2), (3, .int i3)]) (pc2 := 1401) (lv2 := [(0, .ref a0), (1, .ref a1), (2, .ref a2), (3, .int i3)]) (st1 := []) rfl rfl rfl (fun h357 => ?_) (fun h357 => ?_)
  · exact jt_300_1773  k_18 hk_18 a0 a1 a2 i3 v355.2
  · refine sm_seg 1 1402 [(0, .ref a0), (1, .ref a1), (2, .ref a2), (3, .int i3)] [.int (0 : Int32)] rfl ?_
    exact sm_rBW (b := false) rfl rfl
def fn_300_1403 (k_18 : Nat → Nat → Nat → Int32 → cm_W → Option (Bool × cm_W)) (a0 : Nat) (a1 : Nat) (a2 : Nat) (i3 : Int32) (w : cm_W) : Option (Bool × cm_W) := (if cm_ga w .int a0 (i3 + (1 : Int32)) = true then (if cm_ga w .int a0 (i3 + (2 : Int32)) = true then (if cm_ga w .int a0 (i3 + (3 : Int32)) = true then (if cm_ga w .int a0 (i3 + (4 : Int32)) = true then (if cm_ga w .int a0 (i3 + (5 : Int32)) = true then (if cm_sh w a1 = some (.inl 10) then (fn_182 a1 (cm_I w a0 (i3 + (1 : Int32)).toNatClampNeg) (cm_I w a0 (i3 + (2 : Int32)).toNatClampNeg) (cm_I w a0 (i3 + (3 : Int32)).toNatClampNeg) (cm_I w a0 (i3 + (4 : Int32)).toNatClampNeg) (cm_I w a0 (i3 + (5 : Int32)).toNatClampNeg) w).bind fun v364 => (if cm_ga v364.2 .int a0 (i3 + (1 : Int32)) = true then (if cm_ga v364.2 .int a0 (i3 + (2 : Int32)) = true then (if cm_ga v364.2 .int a0 (i3 + (3 : Int32)) = true then (if cm_ga v364.2 .int a0 (i3 + (4 : Int32)) = true then (if cm_ga v364.2 .int a0 (i3 + (5 : Int32)) = true then (if cm_sh v364.2 a2 = some (.inl 11) then (fn_285 a2 (cm_I v364.2 a0 (i3 + (1 : Int32)).toNatClampNeg) (cm_I v364.2 a0 (i3 + (2 : Int32)).toNatClampNeg) (cm_I v364.2 a0 (i3 + (3 : Int32)).toNatClampNeg) (cm_I v364.2 a0 (i3 + (4 : Int32)).toNatClampNeg) (cm_I v364.2 a0 (i3 + (5 : Int32)).toNatClampNeg) v364.2).bind fun v372 => (if v364.1 = v372.1 then fn_300_1773  k_18 a0 a1 a2 i3 v372.2 else some (false, v372.2)) else none) else none) else none) else none) else none) else none) else none) else none) else none) else none) else none) else none)
theorem jt_300_1403 (k_18 : Nat → Nat → Nat → Int32 → cm_W → Option (Bool × cm_W)) (hk_18 : ∀ (a0 : Nat) (a1 : Nat) (a2 : Nat) (i3 : Int32) (w : cm_W), sm cm_g 300 ck_300 kq_300 18 [(0, .ref a0), (1, .ref a1), (2, .ref a2), (3, .int i3)] [] w ((k_18 a0 a1 a2 i3 w).map cm_gB)) (a0 : Nat) (a1 : Nat) (a2 : Nat) (i3 : Int32) (w : cm_W) : sm cm_g 300 ck_300 kq_300 1403 [(0, .ref a0), (1, .ref a1), (2, .ref a2), (3, .int i3)] [] w ((fn_300_1403 k_18 a0 a1 a2 i3 w).map cm_gB) := by
  unfold fn_300_1403
  refine sm_seg 5 1408 [(0, .ref a0), (1, .ref a1), (2, .ref a2), (3, .int i3)] [.int (i3 + (1 : Int32)), .ref a0, .ref a1] rfl ?_
  refine sm_gd fun h358 => ?_
  refine sm_ai rfl h358 rfl ?_
  show sm _ _ _ _ 1409 [(0, .ref a0), (1, .ref a1), (2, .ref a2), (3, .int i3)] [.int (cm_I w a0 (i3 + (1 : Int32)).toNatClampNeg), .ref a1] _ _
  refine sm_seg 4 1413 [(0, .ref a0), (1, .ref a1), (2, .ref a2), (3, .int i3)] [.int (i3 + (2 : Int32)), .ref a0, .int (cm_I w a0 (i3 + (1 : Int32)).toNatClampNeg), .ref a1] rfl ?_
  refine sm_gd fun h359 => ?_
  refine sm_ai rfl h359 rfl ?_
  show sm _ _ _ _ 1414 [(0, .ref a0), (1, .ref a1), (2, .ref a2), (3, .int i3)] [.int (cm_I w a0 (i3 + (2 : Int32)).toNatClampNeg), .int (cm_I w a0 (i3 + (1 : Int32)).toNatClampNeg), .ref a1] _ _
  refine sm_seg 4 1418 [(0, .ref a0), (1, .ref a1), (2, .ref a2), (3, .int i3)] [.int (i3 + (3 : Int32)), .ref a0, .int (cm_I w a0 (i3 + (2 : Int32)).toNatClampNeg), .int (cm_I w a0 (i3 + (1 : Int32)).toNatClampNeg), .ref a1] rfl ?_
  refine sm_gd fun h360 => ?_
  refine sm_ai rfl h360 rfl ?_
  show sm _ _ _ _ 1419 [(0, .ref a0), (1, .ref a1), (2, .ref a2), (3, .int i3)] [.int (cm_I w a0 (i3 + (3 : Int32)).toNatClampNeg), .int (cm_I w a0 (i3 + (2 : Int32)).toNatClampNeg), .int (cm_I w a0 (i3 + (1 : Int32)).toNatClampNeg), .ref a1] _ _
  refine sm_seg 4 1423 [(0, .ref a0), (1, .ref a1), (2, .ref a2), (3, .int i3)] [.int (i3 + (4 : Int32)), .ref a0, .int (cm_I w a0 (i3 + (3 : Int32)).toNatClampNeg), .int (cm_I w a0 (i3 + (2 : Int32)).toNatClampNeg), .int (cm_I w a0 (i3 + (1 : Int32)).toNatClampNeg), .ref a1] rfl ?_
  refine sm_gd fun h361 => ?_
  refine sm_ai rfl h361 rfl ?_
  show sm _ _ _ _ 1424 [(0, .ref a0), (1, .ref a1), (2, .ref a2), (3, .int i3)] [.int (cm_I w a0 (i3 + (4 : Int32)).toNatClampNeg), .int (cm_I w a0 (i3 + (3 : Int32)).toNatClampNeg), .int (cm_I w a0 (i3 + (2 : Int32)).toNatClampNeg), .int (cm_I w a0 (i3 + (1 : Int32)).toNatClampNeg), .ref a1] _ _
  refine sm_seg 4 1428 [(0, .ref a0), (1, .ref a1), (2, .ref a2), (3, .int i3)] [.int (i3 + (5 : Int32)), .ref a0, .int (cm_I w a0 (i3 + (4 : Int32)).toNatClampNeg), .int (cm_I w a0 (i3 + (3 : Int32)).toNatClampNeg), .int (cm_I w a0 (i3 + (2 : Int32)).toNatClampNeg), .int (cm_I w a0 (i3 + (1 : Int32)).toNatClampNeg), .ref a1] rfl ?_
  refine sm_gd fun h362 => ?_
  refine sm_ai rfl h362 rfl ?_
  show sm _ _ _ _ 1429 [(0, .ref a0), (1, .ref a1), (2, .ref a2), (3, .int i3)] [.int (cm_I w a0 (i3 + (5 : Int32)).toNatClampNeg), .int (cm_I w a0 (i3 + (4 : Int32)).toNatClampNeg), .int (cm_I w a0 (i3 + (3 : Int32)).toNatClampNeg), .int (cm_I w a0 (i3 + (2 : Int32)).toNatClampNeg), .int (cm_I w a0 (i3 + (1 : Int32)).toNatClampNeg), .ref a1] _ _
  refine sm_gd fun h363 => ?_
  refine sm_cV (as := [.int (cm_I w a0 (i3 + (1 : Int32)).toNatClampNeg), .int (cm_I w a0 (i3 + (2 : Int32)).toNatClampNeg), .int (cm_I w a0 (i3 + (3 : Int32)).toNatClampNeg), .int (cm_I w a0 (i3 + (4 : Int32)).toNatClampNeg), .int (cm_I w a0 (i3 + (5 : Int32)).toNatClampNeg)]) (rest := []) rfl rfl rfl rfl h363 (Nat.le_of_ble_eq_true rfl) (ca_182  a1 (cm_I w a0 (i3 + (1 : Int32)).toNatClampNeg) (cm_I w a0 (i3 + (2 : Int32)).toNatClampNeg) (cm_I w a0 (i3 + (3 : Int32)).toNatClampNeg) (cm_I w a0 (i3 + (4 : Int32)).toNatClampNeg) (cm_I w a0 (i3 + (5 : Int32)).toNatClampNeg) w) fun v364 h365 => ?_
  show sm _ _ _ _ 1432 [(0, .ref a0), (1, .ref a1), (2, .ref a2), (3, .int i3)] [.int v364.1] _ _
  refine sm_seg 5 1437 [(0, .ref a0), (1, .ref a1), (2, .ref a2), (3, .int i3)] [.int (i3 + (1 : Int32)), .ref a0, .ref a2, .int v364.1] rfl ?_
  refine sm_gd fun h366 => ?_
  refine sm_ai rfl h366 rfl ?_
  show sm _ _ _ _ 1438 [(0, .ref a0), (1, .ref a1), (2, .ref a2), (3, .int i3)] [.int (cm_I v364.2 a0 (i3 + (1 : Int32)).toNatClampNeg), .ref a2, .int v364.1] _ _
  refine sm_seg 4 1442 [(0, .ref a0), (1, .ref a1), (2, .ref a2), (3, .int i3)] [.int (i3 + (2 : Int32)), .ref a0, .int (cm_I v364.2 a0 (i3 + (1 : Int32)).toNatClampNeg), .ref a2, .int v364.1] rfl ?_
  refine sm_gd fun h367 => ?_
  refine sm_ai rfl h367 rfl ?_
  show sm _ _ _ _ 1443 [(0, .ref a0), (1, .ref a1), (2, .ref a2), (3, .int i3)] [.int (cm_I v364.2 a0 (i3 + (2 : Int32)).toNatClampNeg), .int (cm_I v364.2 a0 (i3 + (1 : Int32)).toNatClampNeg), .ref a2, .int v364.1] _ _
  refine sm_seg 4 1447 [(0, .ref a0), (1, .ref a1), (2, .ref a2), (3, .int i3)] [.int (i3 + (3 : Int32)), .ref a0, .int (cm_I v364.2 a0 (i3 + (2 : Int32)).toNatClampNeg), .int (cm_I v364.2 a0 (i3 + (1 : Int32)).toNatClampNeg), .ref a2, .int v364.1] rfl ?_
  refine sm_gd fun h368 => ?_
  refine sm_ai rfl h368 rfl ?_
  show sm _ _ _ _ 1448 [(0, .ref a0), (1, .ref a1), (2, .ref a2), (3, .int i3)] [.int (cm_I v364.2 a0 (i3 + (3 : Int32)).toNatClampNeg), .int (cm_I v364.2 a0 (i3 + (2 : Int32)).toNatClampNeg), .int (cm_I v364.2 a0 (i3 + (1 : Int32)).toNatClampNeg), .ref a2, .int v364.1] _ _
  refine sm_seg 4 1452 [(0, .ref a0), (1, .ref a1), (2, .ref a2), (3, .int i3)] [.int (i3 + (4 : Int32)), .ref a0, .int (cm_I v364.2 a0 (i3 + (3 : Int32)).toNatClampNeg), .int (cm_I v364.2 a0 (i3 + (2 : Int32)).toNatClampNeg), .int (cm_I v364.2 a0 (i3 + (1 : Int32)).toNatClampNeg), .ref a2, .int v364.1] rfl ?_
  refine sm_gd fun h369 => ?_
  refine sm_ai rfl h369 rfl ?_
  show sm _ _ _ _ 1453 [(0, .ref a0), (1, .ref a1), (2, .ref a2), (3, .int i3)] [.int (cm_I v364.2 a0 (i3 + (4 : Int32)).toNatClampNeg), .int (cm_I v364.2 a0 (i3 + (3 : Int32)).toNatClampNeg), .int (cm_I v364.2 a0 (i3 + (2 : Int32)).toNatClampNeg), .int (cm_I v364.2 a0 (i3 + (1 : Int32)).toNatClampNeg), .ref a2, .int v364.1] _ _
  refine sm_seg 4 1457 [(0, .ref a0), (1, .ref a1), (2, .ref a2), (3, .int i3)] [.int (i3 + (5 : Int32)), .ref a0, .int (cm_I v364.2 a0 (i3 + (4 : Int32)).toNatClampNeg), .int (cm_I v364.2 a0 (i3 + (3 : Int32)).toNatClampNeg), .int (cm_I v364.2 a0 (i3 + (2 : Int32)).toNatClampNeg), .int (cm_I v364.2 a0 (i3 + (1 : Int32)).toNatClampNeg), .ref a2, .int v364.1] rfl ?_
  refine sm_gd fun h370 => ?_
  refine sm_ai rfl h370 rfl ?_
  show sm _ _ _ _ 1458 [(0, .ref a0), (1, .ref a1), (2, .ref a2), (3, .int i3)] [.int (cm_I v364.2 a0 (i3 + (5 : Int32)).toNatClampNeg), .int (cm_I v364.2 a0 (i3 + (4 : Int32)).toNatClampNeg), .int (cm_I v364.2 a0 (i3 + (3 : Int32)).toNatClampNeg), .int (cm_I v364.2 a0 (i3 + (2 : Int32)).toNatClampNeg), .int (cm_I v364.2 a0 (i3 + (1 : Int32)).toNatClampNeg), .ref a2, .int v364.1] _ _
  refine sm_gd fun h371 => ?_
  refine sm_cV (as := [.int (cm_I v364.2 a0 (i3 + (1 : Int32)).toNatClampNeg), .int (cm_I v364.2 a0 (i3 + (2 : Int32)).toNatClampNeg), .int (cm_I v364.2 a0 (i3 + (3 : Int32)).toNatClampNeg), .int (cm_I v364.2 a0 (i3 + (4 : Int32)).toNatClampNeg), .int (cm_I v364.2 a0 (i3 + (5 : Int32)).toNatClampNeg)]) (rest := [.int v364.1]) rfl rfl rfl rfl h371 (Nat.le_of_ble_eq_true rfl) (ca_285  a2 (cm_I v364.2 a0 (i3 + (1 : Int32)).toNatClampNeg) (cm_I v364.2 a0 (i3 + (2 : Int32)).toNatClampNeg) (cm_I v364.2 a0 (i3 + (3 : Int32)).toNatClampNeg) (cm_I v364.2 a0 (i3 + (4 : Int32)).toNatClampNeg) (cm_I v364.2 a0 (i3 + (5 : Int32)).toNatClampNeg) v364.2) fun v372 h373 => ?_
  show sm _ _ _ _ 1461 [(0, .ref a0), (1, .ref a1), (2, .ref a2), (3, .int i3)] [.int v372.1, .int v364.1] _ _
  refine sm_if (pc1 := 1773) (lv1 := [(0, .ref a0), (1, .ref a1), (2, .ref a2), (3, .int i3)]) (pc2 := 1464) (lv2 := [(0, .ref a0), (1, .ref a1), (2, .ref a2), (3, .int i3)]) (st1 := []) rfl rfl rfl (fun h374 => ?_) (fun h374 => ?_)
  · exact jt_300_1773  k_18 hk_18 a0 a1 a2 i3 v372.2
  · refine sm_seg 1 1465 [(0, .ref a0), (1, .ref a1), (2, .ref a2), (3, .int i3)] [.int (0 : Int32)] rfl ?_
    exact sm_rBW (b := false) rfl rfl
def fn_300_1466 (k_18 : Nat → Nat → Nat → Int32 → cm_W → Option (Bool × cm_W)) (a0 : Nat) (a1 : Nat) (a2 : Nat) (i3 : Int32) (w : cm_W) : Option (Bool × cm_W) := (if cm_ga w .int a0 (i3 + (1 : Int32)) = true then (if cm_ga w .int a0 (i3 + (2 : Int32)) = true then (if cm_ga w .int a0 (i3 + (3 : Int32)) = true then (if cm_sh w a1 = some (.inl 10) then (fn_183 a1 (cm_I w a0 (i3 + (1 : Int32)).toNatClampNeg) (cm_I w a0 (i3 + (2 : Int32)).toNatClampNeg) (cm_I w a0 (i3 + (3 : Int32)).toNatClampNeg) w).bind fun v379 => (if cm_ga v379.2 .int a0 (i3 + (1 : Int32)) = true then (if cm_ga v379.2 .int a0 (i3 + (2 : Int32)) = true then (if cm_ga v379.2 .int a0 (i3 + (3 : Int32)) = true then (if cm_sh v379.2 a2 = some (.inl 11) then (fn_289 v379.2 a2 (cm_I v379.2 a0 (i3 + (1 : Int32)).toNatClampNeg) (cm_I v379.2 a0 (i3 + (2 : Int32)).toNatClampNeg) (cm_I v379.2 a0 (i3 + (3 : Int32)).toNatClampNeg)).bind fun v385 => (if v379.1 = v385 then fn_300_1773  k_18 a0 a1 a2 i3 v379.2 else some (false, v379.2)) else none) else none) else none) else none) else none) else none) else none) else none)
theorem jt_300_1466 (k_18 : Nat → Nat → Nat → Int32 → cm_W → Option (Bool × cm_W)) (hk_18 : ∀ (a0 : Nat) (a1 : Nat) (a2 : Nat) (i3 : Int32) (w : cm_W), sm cm_g 300 ck_300 kq_300 18 [(0, .ref a0), (1, .ref a1), (2, .ref a2), (3, .int i3)] [] w ((k_18 a0 a1 a2 i3 w).map cm_gB)) (a0 : Nat) (a1 : Nat) (a2 : Nat) (i3 : Int32) (w : cm_W) : sm cm_g 300 ck_300 kq_300 1466 [(0, .ref a0), (1, .ref a1), (2, .ref a2), (3, .int i3)] [] w ((fn_300_1466 k_18 a0 a1 a2 i3 w).map cm_gB) := by
  unfold fn_300_1466
  refine sm_seg 5 1471 [(0, .ref a0), (1, .ref a1), (2, .ref a2), (3, .int i3)] [.int (i3 + (1 : Int32)), .ref a0, .ref a1] rfl ?_
  refine sm_gd fun h375 => ?_
  refine sm_ai rfl h375 rfl ?_
  show sm _ _ _ _ 1472 [(0, .ref a0), (1, .ref a1), (2, .ref a2), (3, .int i3)] [.int (cm_I w a0 (i3 + (1 : Int32)).toNatClampNeg), .ref a1] _ _
  refine sm_seg 4 1476 [(0, .ref a0), (1, .ref a1), (2, .ref a2), (3, .int i3)] [.int (i3 + (2 : Int32)), .ref a0, .int (cm_I w a0 (i3 + (1 : Int32)).toNatClampNeg), .ref a1] rfl ?_
  refine sm_gd fun h376 => ?_
  refine sm_ai rfl h376 rfl ?_
  show sm _ _ _ _ 1477 [(0, .ref a0), (1, .ref a1), (2, .ref a2), (3, .int i3)] [.int (cm_I w a0 (i3 + (2 : Int32)).toNatClampNeg), .int (cm_I w a0 (i3 + (1 : Int32)).toNatClampNeg), .ref a1] _ _
  refine sm_seg 4 1481 [(0, .ref a0), (1, .ref a1), (2, .ref a2), (3, .int i3)] [.int (i3 + (3 : Int32)), .ref a0, .int (cm_I w a0 (i3 + (2 : Int32)).toNatClampNeg), .int (cm_I w a0 (i3 + (1 : Int32)).toNatClampNeg), .ref a1] rfl ?_
  refine sm_gd fun h377 => ?_
  refine sm_ai rfl h377 rfl ?_
  show sm _ _ _ _ 1482 [(0, .ref a0), (1, .ref a1), (2, .ref a2), (3, .int i3)] [.int (cm_I w a0 (i3 + (3 : Int32)).toNatClampNeg), .int (cm_I w a0 (i3 + (2 : Int32)).toNatClampNeg), .int (cm_I w a0 (i3 + (1 : Int32)).toNatClampNeg), .ref a1] _ _
  refine sm_gd fun h378 => ?_
  refine sm_cV (as := [.int (cm_I w a0 (i3 + (1 : Int32)).toNatClampNeg), .int (cm_I w a0 (i3 + (2 : Int32)).toNatClampNeg), .int (cm_I w a0 (i3 + (3 : Int32)).toNatClampNeg)]) (rest := []) rfl rfl rfl rfl h378 (Nat.le_of_ble_eq_true rfl) (ca_183  a1 (cm_I w a0 (i3 + (1 : Int32)).toNatClampNeg) (cm_I w a0 (i3 + (2 : Int32)).toNatClampNeg) (cm_I w a0 (i3 + (3 : Int32)).toNatClampNeg) w) fun v379 h380 => ?_
  show sm _ _ _ _ 1485 [(0, .ref a0), (1, .ref a1), (2, .ref a2), (3, .int i3)] [.int v379.1] _ _
  refine sm_seg 5 1490 [(0, .ref a0), (1, .ref a1), (2, .ref a2), (3, .int i3)] [.int (i3 + (1 : Int32)), .ref a0, .ref a2, .int v379.1] rfl ?_
  refine sm_gd fun h381 => ?_
  refine sm_ai rfl h381 rfl ?_
  show sm _ _ _ _ 1491 [(0, .ref a0), (1, .ref a1), (2, .ref a2), (3, .int i3)] [.int (cm_I v379.2 a0 (i3 + (1 : Int32)).toNatClampNeg), .ref a2, .int v379.1] _ _
  refine sm_seg 4 1495 [(0, .ref a0), (1, .ref a1), (2, .ref a2), (3, .int i3)] [.int (i3 + (2 : Int32)), .ref a0, .int (cm_I v379.2 a0 (i3 + (1 : Int32)).toNatClampNeg), .ref a2, .int v379.1] rfl ?_
  refine sm_gd fun h382 => ?_
  refine sm_ai rfl h382 rfl ?_
  show sm _ _ _ _ 1496 [(0, .ref a0), (1, .ref a1), (2, .ref a2), (3, .int i3)] [.int (cm_I v379.2 a0 (i3 + (2 : Int32)).toNatClampNeg), .int (cm_I v379.2 a0 (i3 + (1 : Int32)).toNatClampNeg), .ref a2, .int v379.1] _ _
  refine sm_seg 4 1500 [(0, .ref a0), (1, .ref a1), (2, .ref a2), (3, .int i3)] [.int (i3 + (3 : Int32)), .ref a0, .int (cm_I v379.2 a0 (i3 + (2 : Int32)).toNatClampNeg), .int (cm_I v379.2 a0 (i3 + (1 : Int32)).toNatClampNeg), .ref a2, .int v379.1] rfl ?_
  refine sm_gd fun h383 => ?_
  refine sm_ai rfl h383 rfl ?_
  show sm _ _ _ _ 1501 [(0, .ref a0), (1, .ref a1), (2, .ref a2), (3, .int i3)] [.int (cm_I v379.2 a0 (i3 + (3 : Int32)).toNatClampNeg), .int (cm_I v379.2 a0 (i3 + (2 : Int32)).toNatClampNeg), .int (cm_I v379.2 a0 (i3 + (1 : Int32)).toNatClampNeg), .ref a2, .int v379.1] _ _
  refine sm_gd fun h384 => ?_
  refine sm_cV (as := [.int (cm_I v379.2 a0 (i3 + (1 : Int32)).toNatClampNeg), .int (cm_I v379.2 a0 (i3 + (2 : Int32)).toNatClampNeg), .int (cm_I v379.2 a0 (i3 + (3 : Int32)).toNatClampNeg)]) (rest := [.int v379.1]) rfl rfl rfl rfl h384 (Nat.le_of_ble_eq_true rfl) (ca_289 v379.2 a2 (cm_I v379.2 a0 (i3 + (1 : Int32)).toNatClampNeg) (cm_I v379.2 a0 (i3 + (2 : Int32)).toNatClampNeg) (cm_I v379.2 a0 (i3 + (3 : Int32)).toNatClampNeg)) fun v385 h386 => ?_
  show sm _ _ _ _ 1504 [(0, .ref a0), (1, .ref a1), (2, .ref a2), (3, .int i3)] [.int v385, .int v379.1] _ _
  refine sm_if (pc1 := 1773) (lv1 := [(0, .ref a0), (1, .ref a1), (2, .ref a2), (3, .int i3)]) (pc2 := 1507) (lv2 := [(0, .ref a0), (1, .ref a1), (2, .ref a2), (3, .int i3)]) (st1 := []) rfl rfl rfl (fun h387 => ?_) (fun h387 => ?_)
  · exact jt_300_1773  k_18 hk_18 a0 a1 a2 i3 v379.2
  · refine sm_seg 1 1508 [(0, .ref a0), (1, .ref a1), (2, .ref a2), (3, .int i3)] [.int (0 : Int32)] rfl ?_
    exact sm_rBW (b := false) rfl rfl
def fn_300_1509 (k_18 : Nat → Nat → Nat → Int32 → cm_W → Option (Bool × cm_W)) (a0 : Nat) (a1 : Nat) (a2 : Nat) (i3 : Int32) (w : cm_W) : Option (Bool × cm_W) := (if cm_ga w .int a0 (i3 + (1 : Int32)) = true then (if cm_ga w .int a0 (i3 + (2 : Int32)) = true then (if cm_ga w .int a0 (i3 + (3 : Int32)) = true then (if cm_sh w a1 = some (.inl 10) then (fn_184 a1 (cm_I w a0 (i3 + (1 : Int32)).toNatClampNeg) (cm_I w a0 (i3 + (2 : Int32)).toNatClampNeg) (cm_I w a0 (i3 + (3 : Int32)).toNatClampNeg) w).bind fun v392 => (if cm_ga v392.2 .int a0 (i3 + (1 : Int32)) = true then (if cm_ga v392.2 .int a0 (i3 + (2 : Int32)) = true then (if cm_ga v392.2 .int a0 (i3 + (3 : Int32)) = true then (if cm_sh v392.2 a2 = some (.inl 11) then (fn_290 v392.2 a2 (cm_I v392.2 a0 (i3 + (1 : Int32)).toNatClampNeg) (cm_I v392.2 a0 (i3 + (2 : Int32)).toNatClampNeg) (cm_I v392.2 a0 (i3 + (3 : Int32)).toNatClampNeg)).bind fun v398 => (if v392.1 = v398 then fn_300_1773  k_18 a0 a1 a2 i3 v392.2 else some (false, v392.2)) else none) else none) else none) else none) else none) else none) else none) else none)
theorem jt_300_1509 (k_18 : Nat → Nat → Nat → Int32 → cm_W → Option (Bool × cm_W)) (hk_18 : ∀ (a0 : Nat) (a1 : Nat) (a2 : Nat) (i3 : Int32) (w : cm_W), sm cm_g 300 ck_300 kq_300 18 [(0, .ref a0), (1, .ref a1), (2, .ref a2), (3, .int i3)] [] w ((k_18 a0 a1 a2 i3 w).map cm_gB)) (a0 : Nat) (a1 : Nat) (a2 : Nat) (i3 : Int32) (w : cm_W) : sm cm_g 300 ck_300 kq_300 1509 [(0, .ref a0), (1, .ref a1), (2, .ref a2), (3, .int i3)] [] w ((fn_300_1509 k_18 a0 a1 a2 i3 w).map cm_gB) := by
  unfold fn_300_1509
  refine sm_seg 5 1514 [(0, .ref a0), (1, .ref a1), (2, .ref a2), (3, .int i3)] [.int (i3 + (1 : Int32)), .ref a0, .ref a1] rfl ?_
  refine sm_gd fun h388 => ?_
  refine sm_ai rfl h388 rfl ?_
  show sm _ _ _ _ 1515 [(0, .ref a0), (1, .ref a1), (2, .ref a2), (3, .int i3)] [.int (cm_I w a0 (i3 + (1 : Int32)).toNatClampNeg), .ref a1] _ _
  refine sm_seg 4 1519 [(0, .ref a0), (1, .ref a1), (2, .ref a2), (3, .int i3)] [.int (i3 + (2 : Int32)), .ref a0, .int (cm_I w a0 (i3 + (1 : Int32)).toNatClampNeg), .ref a1] rfl ?_
  refine sm_gd fun h389 => ?_
  refine sm_ai rfl h389 rfl ?_
  show sm _ _ _ _ 1520 [(0, .ref a0), (1, .ref a1), (2, .ref a2), (3, .int i3)] [.int (cm_I w a0 (i3 + (2 : Int32)).toNatClampNeg), .int (cm_I w a0 (i3 + (1 : Int32)).toNatClampNeg), .ref a1] _ _
  refine sm_seg 4 1524 [(0, .ref a0), (1, .ref a1), (2, .ref a2), (3, .int i3)] [.int (i3 + (3 : Int32)), .ref a0, .int (cm_I w a0 (i3 + (2 : Int32)).toNatClampNeg), .int (cm_I w a0 (i3 + (1 : Int32)).toNatClampNeg), .ref a1] rfl ?_
  refine sm_gd fun h390 => ?_
  refine sm_ai rfl h390 rfl ?_
  show sm _ _ _ _ 1525 [(0, .ref a0), (1, .ref a1), (2, .ref a2), (3, .int i3)] [.int (cm_I w a0 (i3 + (3 : Int32)).toNatClampNeg), .int (cm_I w a0 (i3 + (2 : Int32)).toNatClampNeg), .int (cm_I w a0 (i3 + (1 : Int32)).toNatClampNeg), .ref a1] _ _
  refine sm_gd fun h391 => ?_
  refine sm_cV (as := [.int (cm_I w a0 (i3 + (1 : Int32)).toNatClampNeg), .int (cm_I w a0 (i3 + (2 : Int32)).toNatClampNeg), .int (cm_I w a0 (i3 + (3 : Int32)).toNatClampNeg)]) (rest := []) rfl rfl rfl rfl h391 (Nat.le_of_ble_eq_true rfl) (ca_184  a1 (cm_I w a0 (i3 + (1 : Int32)).toNatClampNeg) (cm_I w a0 (i3 + (2 : Int32)).toNatClampNeg) (cm_I w a0 (i3 + (3 : Int32)).toNatClampNeg) w) fun v392 h393 => ?_
  show sm _ _ _ _ 1528 [(0, .ref a0), (1, .ref a1), (2, .ref a2), (3, .int i3)] [.int v392.1] _ _
  refine sm_seg 5 1533 [(0, .ref a0), (1, .ref a1), (2, .ref a2), (3, .int i3)] [.int (i3 + (1 : Int32)), .ref a0, .ref a2, .int v392.1] rfl ?_
  refine sm_gd fun h394 => ?_
  refine sm_ai rfl h394 rfl ?_
  show sm _ _ _ _ 1534 [(0, .ref a0), (1, .ref a1), (2, .ref a2), (3, .int i3)] [.int (cm_I v392.2 a0 (i3 + (1 : Int32)).toNatClampNeg), .ref a2, .int v392.1] _ _
  refine sm_seg 4 1538 [(0, .ref a0), (1, .ref a1), (2, .ref a2), (3, .int i3)] [.int (i3 + (2 : Int32)), .ref a0, .int (cm_I v392.2 a0 (i3 + (1 : Int32)).toNatClampNeg), .ref a2, .int v392.1] rfl ?_
  refine sm_gd fun h395 => ?_
  refine sm_ai rfl h395 rfl ?_
  show sm _ _ _ _ 1539 [(0, .ref a0), (1, .ref a1), (2, .ref a2), (3, .int i3)] [.int (cm_I v392.2 a0 (i3 + (2 : Int32)).toNatClampNeg), .int (cm_I v392.2 a0 (i3 + (1 : Int32)).toNatClampNeg), .ref a2, .int v392.1] _ _
  refine sm_seg 4 1543 [(0, .ref a0), (1, .ref a1), (2, .ref a2), (3, .int i3)] [.int (i3 + (3 : Int32)), .ref a0, .int (cm_I v392.2 a0 (i3 + (2 : Int32)).toNatClampNeg), .int (cm_I v392.2 a0 (i3 + (1 : Int32)).toNatClampNeg), .ref a2, .int v392.1] rfl ?_
  refine sm_gd fun h396 => ?_
  refine sm_ai rfl h396 rfl ?_
  show sm _ _ _ _ 1544 [(0, .ref a0), (1, .ref a1), (2, .ref a2), (3, .int i3)] [.int (cm_I v392.2 a0 (i3 + (3 : Int32)).toNatClampNeg), .int (cm_I v392.2 a0 (i3 + (2 : Int32)).toNatClampNeg), .int (cm_I v392.2 a0 (i3 + (1 : Int32)).toNatClampNeg), .ref a2, .int v392.1] _ _
  refine sm_gd fun h397 => ?_
  refine sm_cV (as := [.int (cm_I v392.2 a0 (i3 + (1 : Int32)).toNatClampNeg), .int (cm_I v392.2 a0 (i3 + (2 : Int32)).toNatClampNeg), .int (cm_I v392.2 a0 (i3 + (3 : Int32)).toNatClampNeg)]) (rest := [.int v392.1]) rfl rfl rfl rfl h397 (Nat.le_of_ble_eq_true rfl) (ca_290 v392.2 a2 (cm_I v392.2 a0 (i3 + (1 : Int32)).toNatClampNeg) (cm_I v392.2 a0 (i3 + (2 : Int32)).toNatClampNeg) (cm_I v392.2 a0 (i3 + (3 : Int32)).toNatClampNeg)) fun v398 h399 => ?_
  show sm _ _ _ _ 1547 [(0, .ref a0), (1, .ref a1), (2, .ref a2), (3, .int i3)] [.int v398, .int v392.1] _ _
  refine sm_if (pc1 := 1773) (lv1 := [(0, .ref a0), (1, .ref a1), (2, .ref a2), (3, .int i3)]) (pc2 := 1550) (lv2 := [(0, .ref a0), (1, .ref a1), (2, .ref a2), (3, .int i3)]) (st1 := []) rfl rfl rfl (fun h400 => ?_) (fun h400 => ?_)
  · exact jt_300_1773  k_18 hk_18 a0 a1 a2 i3 v392.2
  · refine sm_seg 1 1551 [(0, .ref a0), (1, .ref a1), (2, .ref a2), (3, .int i3)] [.int (0 : Int32)] rfl ?_
    exact sm_rBW (b := false) rfl rfl
def fn_300_1552 (k_18 : Nat → Nat → Nat → Int32 → cm_W → Option (Bool × cm_W)) (a0 : Nat) (a1 : Nat) (a2 : Nat) (i3 : Int32) (w : cm_W) : Option (Bool × cm_W) := (if cm_ga w .int a0 (i3 + (1 : Int32)) = true then (if cm_ga w .int a0 (i3 + (2 : Int32)) = true then (if cm_ga w .int a0 (i3 + (3 : Int32)) = true then (if cm_sh w a1 = some (.inl 10) then (fn_186 a1 (cm_I w a0 (i3 + (1 : Int32)).toNatClampNeg) (cm_I w a0 (i3 + (2 : Int32)).toNatClampNeg) (cm_I w a0 (i3 + (3 : Int32)).toNatClampNeg) w).bind fun v405 => (if cm_ga v405.2 .int a0 (i3 + (1 : Int32)) = true then (if cm_ga v405.2 .int a0 (i3 + (2 : Int32)) = true then (if cm_ga v405.2 .int a0 (i3 + (3 : Int32)) = true then (if cm_sh v405.2 a2 = some (.inl 11) then (fn_291 a2 (cm_I v405.2 a0 (i3 + (1 : Int32)).toNatClampNeg) (cm_I v405.2 a0 (i3 + (2 : Int32)).toNatClampNeg) (cm_I v405.2 a0 (i3 + (3 : Int32)).toNatClampNeg) v405.2).bind fun v411 => (if v405.1 = v411.1 then fn_300_1773  k_18 a0 a1 a2 i3 v411.2 else some (false, v411.2)) else none) else none) else none) else none) else none) else none) else none) else none)
theorem jt_300_1552 (k_18 : Nat → Nat → Nat → Int32 → cm_W → Option (Bool × cm_W)) (hk_18 : ∀ (a0 : Nat) (a1 : Nat) (a2 : Nat) (i3 : Int32) (w : cm_W), sm cm_g 300 ck_300 kq_300 18 [(0, .ref a0), (1, .ref a1), (2, .ref a2), (3, .int i3)] [] w ((k_18 a0 a1 a2 i3 w).map cm_gB)) (a0 : Nat) (a1 : Nat) (a2 : Nat) (i3 : Int32) (w : cm_W) : sm cm_g 300 ck_300 kq_300 1552 [(0, .ref a0), (1, .ref a1), (2, .ref a2), (3, .int i3)] [] w ((fn_300_1552 k_18 a0 a1 a2 i3 w).map cm_gB) := by
  unfold fn_300_1552
  refine sm_seg 5 1557 [(0, .ref a0), (1, .ref a1), (2, .ref a2), (3, .int i3)] [.int (i3 + (1 : Int32)), .ref a0, .ref a1] rfl ?_
  refine sm_gd fun h401 => ?_
  refine sm_ai rfl h401 rfl ?_
  show sm _ _ _ _ 1558 [(0, .ref a0), (1, .ref a1), (2, .ref a2), (3, .int i3)] [.int (cm_I w a0 (i3 + (1 : Int32)).toNatClampNeg), .ref a1] _ _
  refine sm_seg 4 1562 [(0, .ref a0), (1, .ref a1), (2, .ref a2), (3, .int i3)] [.int (i3 + (2 : Int32)), .ref a0, .int (cm_I w a0 (i3 + (1 : Int32)).toNatClampNeg), .ref a1] rfl ?_
  refine sm_gd fun h402 => ?_
  refine sm_ai rfl h402 rfl ?_
  show sm _ _ _ _ 1563 [(0, .ref a0), (1, .ref a1), (2, .ref a2), (3, .int i3)] [.int (cm_I w a0 (i3 + (2 : Int32)).toNatClampNeg), .int (cm_I w a0 (i3 + (1 : Int32)).toNatClampNeg), .ref a1] _ _
  refine sm_seg 4 1567 [(0, .ref a0), (1, .ref a1), (2, .ref a2), (3, .int i3)] [.int (i3 + (3 : Int32)), .ref a0, .int (cm_I w a0 (i3 + (2 : Int32)).toNatClampNeg), .int (cm_I w a0 (i3 + (1 : Int32)).toNatClampNeg), .ref a1] rfl ?_
  refine sm_gd fun h403 => ?_
  refine sm_ai rfl h403 rfl ?_
  show sm _ _ _ _ 1568 [(0, .ref a0), (1, .ref a1), (2, .ref a2), (3, .int i3)] [.int (cm_I w a0 (i3 + (3 : Int32)).toNatClampNeg), .int (cm_I w a0 (i3 + (2 : Int32)).toNatClampNeg), .int (cm_I w a0 (i3 + (1 : Int32)).toNatClampNeg), .ref a1] _ _
  refine sm_gd fun h404 => ?_
  refine sm_cV (as := [.int (cm_I w a0 (i3 + (1 : Int32)).toNatClampNeg), .int (cm_I w a0 (i3 + (2 : Int32)).toNatClampNeg), .int (cm_I w a0 (i3 + (3 : Int32)).toNatClampNeg)]) (rest := []) rfl rfl rfl rfl h404 (Nat.le_of_ble_eq_true rfl) (ca_186  a1 (cm_I w a0 (i3 + (1 : Int32)).toNatClampNeg) (cm_I w a0 (i3 + (2 : Int32)).toNatClampNeg) (cm_I w a0 (i3 + (3 : Int32)).toNatClampNeg) w) fun v405 h406 => ?_
  show sm _ _ _ _ 1571 [(0, .ref a0), (1, .ref a1), (2, .ref a2), (3, .int i3)] [.int v405.1] _ _
  refine sm_seg 5 1576 [(0, .ref a0), (1, .ref a1), (2, .ref a2), (3, .int i3)] [.int (i3 + (1 : Int32)), .ref a0, .ref a2, .int v405.1] rfl ?_
  refine sm_gd fun h407 => ?_
  refine sm_ai rfl h407 rfl ?_
  show sm _ _ _ _ 1577 [(0, .ref a0), (1, .ref a1), (2, .ref a2), (3, .int i3)] [.int (cm_I v405.2 a0 (i3 + (1 : Int32)).toNatClampNeg), .ref a2, .int v405.1] _ _
  refine sm_seg 4 1581 [(0, .ref a0), (1, .ref a1), (2, .ref a2), (3, .int i3)] [.int (i3 + (2 : Int32)), .ref a0, .int (cm_I v405.2 a0 (i3 + (1 : Int32)).toNatClampNeg), .ref a2, .int v405.1] rfl ?_
  refine sm_gd fun h408 => ?_
  refine sm_ai rfl h408 rfl ?_
  show sm _ _ _ _ 1582 [(0, .ref a0), (1, .ref a1), (2, .ref a2), (3, .int i3)] [.int (cm_I v405.2 a0 (i3 + (2 : Int32)).toNatClampNeg), .int (cm_I v405.2 a0 (i3 + (1 : Int32)).toNatClampNeg), .ref a2, .int v405.1] _ _
  refine sm_seg 4 1586 [(0, .ref a0), (1, .ref a1), (2, .ref a2), (3, .int i3)] [.int (i3 + (3 : Int32)), .ref a0, .int (cm_I v405.2 a0 (i3 + (2 : Int32)).toNatClampNeg), .int (cm_I v405.2 a0 (i3 + (1 : Int32)).toNatClampNeg), .ref a2, .int v405.1] rfl ?_
  refine sm_gd fun h409 => ?_
  refine sm_ai rfl h409 rfl ?_
  show sm _ _ _ _ 1587 [(0, .ref a0), (1, .ref a1), (2, .ref a2), (3, .int i3)] [.int (cm_I v405.2 a0 (i3 + (3 : Int32)).toNatClampNeg), .int (cm_I v405.2 a0 (i3 + (2 : Int32)).toNatClampNeg), .int (cm_I v405.2 a0 (i3 + (1 : Int32)).toNatClampNeg), .ref a2, .int v405.1] _ _
  refine sm_gd fun h410 => ?_
  refine sm_cV (as := [.int (cm_I v405.2 a0 (i3 + (1 : Int32)).toNatClampNeg), .int (cm_I v405.2 a0 (i3 + (2 : Int32)).toNatClampNeg), .int (cm_I v405.2 a0 (i3 + (3 : Int32)).toNatClampNeg)]) (rest := [.int v405.1]) rfl rfl rfl rfl h410 (Nat.le_of_ble_eq_true rfl) (ca_291  a2 (cm_I v405.2 a0 (i3 + (1 : Int32)).toNatClampNeg) (cm_I v405.2 a0 (i3 + (2 : Int32)).toNatClampNeg) (cm_I v405.2 a0 (i3 + (3 : Int32)).toNatClampNeg) v405.2) fun v411 h412 => ?_
  show sm _ _ _ _ 1590 [(0, .ref a0), (1, .ref a1), (2, .ref a2), (3, .int i3)] [.int v411.1, .int v405.1] _ _
  refine sm_if (pc1 := 1773) (lv1 := [(0, .ref a0), (1, .ref a1), (2, .ref a2), (3, .int i3)]) (pc2 := 1593) (lv2 := [(0, .ref a0), (1, .ref a1), (2, .ref a2), (3, .int i3)]) (st1 := []) rfl rfl rfl (fun h413 => ?_) (fun h413 => ?_)
  · exact jt_300_1773  k_18 hk_18 a0 a1 a2 i3 v411.2
  · refine sm_seg 1 1594 [(0, .ref a0), (1, .ref a1), (2, .ref a2), (3, .int i3)] [.int (0 : Int32)] rfl ?_
    exact sm_rBW (b := false) rfl rfl
def fn_300_1595 (k_18 : Nat → Nat → Nat → Int32 → cm_W → Option (Bool × cm_W)) (a0 : Nat) (a1 : Nat) (a2 : Nat) (i3 : Int32) (w : cm_W) : Option (Bool × cm_W) := (if cm_ga w .int a0 (i3 + (1 : Int32)) = true then (if cm_ga w .int a0 (i3 + (2 : Int32)) = true then (if cm_ga w .int a0 (i3 + (3 : Int32)) = true then (if cm_ga w .int a0 (i3 + (4 : Int32)) = true then (if cm_sh w a1 = some (.inl 10) then (fn_187 a1 (cm_I w a0 (i3 + (1 : Int32)).toNatClampNeg) (cm_I w a0 (i3 + (2 : Int32)).toNatClampNeg) (cm_I w a0 (i3 + (3 : Int32)).toNatClampNeg) (cm_I w a0 (i3 + (4 : Int32)).toNatClampNeg) w).bind fun v419 => (if cm_ga v419.2 .int a0 (i3 + (1 : Int32)) = true then (if cm_ga v419.2 .int a0 (i3 + (2 : Int32)) = true then (if cm_ga v419.2 .int a0 (i3 + (3 : Int32)) = true then (if cm_ga v419.2 .int a0 (i3 + (4 : Int32)) = true then (if cm_sh v419.2 a2 = some (.inl 11) then (fn_292 a2 (cm_I v419.2 a0 (i3 + (1 : Int32)).toNatClampNeg) (cm_I v419.2 a0 (i3 + (2 : Int32)).toNatClampNeg) (cm_I v419.2 a0 (i3 + (3 : Int32)).toNatClampNeg) (cm_I v419.2 a0 (i3 + (4 : Int32)).toNatClampNeg) v419.2).bind fun v426 => (if v419.1 = v426.1 then fn_300_1773  k_18 a0 a1 a2 i3 v426.2 else some (false, v426.2)) else none) else none) else none) else none) else none) else none) else none) else none) else none) else none)
theorem jt_300_1595 (k_18 : Nat → Nat → Nat → Int32 → cm_W → Option (Bool × cm_W)) (hk_18 : ∀ (a0 : Nat) (a1 : Nat) (a2 : Nat) (i3 : Int32) (w : cm_W), sm cm_g 300 ck_300 kq_300 18 [(0, .ref a0), (1, .ref a1), (2, .ref a2), (3, .int i3)] [] w ((k_18 a0 a1 a2 i3 w).map cm_gB)) (a0 : Nat) (a1 : Nat) (a2 : Nat) (i3 : Int32) (w : cm_W) : sm cm_g 300 ck_300 kq_300 1595 [(0, .ref a0), (1, .ref a1), (2, .ref a2), (3, .int i3)] [] w ((fn_300_1595 k_18 a0 a1 a2 i3 w).map cm_gB) := by
  unfold fn_300_1595
  refine sm_seg 5 1600 [(0, .ref a0), (1, .ref a1), (2, .ref a2), (3, .int i3)] [.int (i3 + (1 : Int32)), .ref a0, .ref a1] rfl ?_
  refine sm_gd fun h414 => ?_
  refine sm_ai rfl h414 rfl ?_
  show sm _ _ _ _ 1601 [(0, .ref a0), (1, .ref a1), (2, .ref a2), (3, .int i3)] [.int (cm_I w a0 (i3 + (1 : Int32)).toNatClampNeg), .ref a1] _ _
  refine sm_seg 4 1605 [(0, .ref a0), (1, .ref a1), (2, .ref a2), (3, .int i3)] [.int (i3 + (2 : Int32)), .ref a0, .int (cm_I w a0 (i3 + (1 : Int32)).toNatClampNeg), .ref a1] rfl ?_
  refine sm_gd fun h415 => ?_
  refine sm_ai rfl h415 rfl ?_
  show sm _ _ _ _ 1606 [(0, .ref a0), (1, .ref a1), (2, .ref a2), (3, .int i3)] [.int (cm_I w a0 (i3 + (2 : Int32)).toNatClampNeg), .int (cm_I w a0 (i3 + (1 : Int32)).toNatClampNeg), .ref a1] _ _
  refine sm_seg 4 1610 [(0, .ref a0), (1, .ref a1), (2, .ref a2), (3, .int i3)] [.int (i3 + (3 : Int32)), .ref a0, .int (cm_I w a0 (i3 + (2 : Int32)).toNatClampNeg), .int (cm_I w a0 (i3 + (1 : Int32)).toNatClampNeg), .ref a1] rfl ?_
  refine sm_gd fun h416 => ?_
  refine sm_ai rfl h416 rfl ?_
  show sm _ _ _ _ 1611 [(0, .ref a0), (1, .ref a1), (2, .ref a2), (3, .int i3)] [.int (cm_I w a0 (i3 + (3 : Int32)).toNatClampNeg), .int (cm_I w a0 (i3 + (2 : Int32)).toNatClampNeg), .int (cm_I w a0 (i3 + (1 : Int32)).toNatClampNeg), .ref a1] _ _
  refine sm_seg 4 1615 [(0, .ref a0), (1, .ref a1), (2, .ref a2), (3, .int i3)] [.int (i3 + (4 : Int32)), .ref a0, .int (cm_I w a0 (i3 + (3 : Int32)).toNatClampNeg), .int (cm_I w a0 (i3 + (2 : Int32)).toNatClampNeg), .int (cm_I w a0 (i3 + (1 : Int32)).toNatClampNeg), .ref a1] rfl ?_
  refine sm_gd fun h417 => ?_
  refine sm_ai rfl h417 rfl ?_
  show sm _ _ _ _ 1616 [(0, .ref a0), (1, .ref a1), (2, .ref a2), (3, .int i3)] [.int (cm_I w a0 (i3 + (4 : Int32)).toNatClampNeg), .int (cm_I w a0 (i3 + (3 : Int32)).toNatClampNeg), .int (cm_I w a0 (i3 + (2 : Int32)).toNatClampNeg), .int (cm_I w a0 (i3 + (1 : Int32)).toNatClampNeg), .ref a1] _ _
  refine sm_gd fun h418 => ?_
  refine sm_cV (as := [.int (cm_I w a0 (i3 + (1 : Int32)).toNatClampNeg), .int (cm_I w a0 (i3 + (2 : Int32)).toNatClampNeg), .int (cm_I w a0 (i3 + (3 : Int32)).toNatClampNeg), .int (cm_I w a0 (i3 + (4 : Int32)).toNatClampNeg)]) (rest := []) rfl rfl rfl rfl h418 (Nat.le_of_ble_eq_true rfl) (ca_187  a1 (cm_I w a0 (i3 + (1 : Int32)).toNatClampNeg) (cm_I w a0 (i3 + (2 : Int32)).toNatClampNeg) (cm_I w a0 (i3 + (3 : Int32)).toNatClampNeg) (cm_I w a0 (i3 + (4 : Int32)).toNatClampNeg) w) fun v419 h420 => ?_
  show sm _ _ _ _ 1619 [(0, .ref a0), (1, .ref a1), (2, .ref a2), (3, .int i3)] [.int v419.1] _ _
  refine sm_seg 5 1624 [(0, .ref a0), (1, .ref a1), (2, .ref a2), (3, .int i3)] [.int (i3 + (1 : Int32)), .ref a0, .ref a2, .int v419.1] rfl ?_
  refine sm_gd fun h421 => ?_
  refine sm_ai rfl h421 rfl ?_
  show sm _ _ _ _ 1625 [(0, .ref a0), (1, .ref a1), (2, .ref a2), (3, .int i3)] [.int (cm_I v419.2 a0 (i3 + (1 : Int32)).toNatClampNeg), .ref a2, .int v419.1] _ _
  refine sm_seg 4 1629 [(0, .ref a0), (1, .ref a1), (2, .ref a2), (3, .int i3)] [.int (i3 + (2 : Int32)), .ref a0, .int (cm_I v419.2 a0 (i3 + (1 : Int32)).toNatClampNeg), .ref a2, .int v419.1] rfl ?_
  refine sm_gd fun h422 => ?_
  refine sm_ai rfl h422 rfl ?_
  show sm _ _ _ _ 1630 [(0, .ref a0), (1, .ref a1), (2, .ref a2), (3, .int i3)] [.int (cm_I v419.2 a0 (i3 + (2 : Int32)).toNatClampNeg), .int (cm_I v419.2 a0 (i3 + (1 : Int32)).toNatClampNeg), .ref a2, .int v419.1] _ _
  refine sm_seg 4 1634 [(0, .ref a0), (1, .ref a1), (2, .ref a2), (3, .int i3)] [.int (i3 + (3 : Int32)), .ref a0, .int (cm_I v419.2 a0 (i3 + (2 : Int32)).toNatClampNeg), .int (cm_I v419.2 a0 (i3 + (1 : Int32)).toNatClampNeg), .ref a2, .int v419.1] rfl ?_
  refine sm_gd fun h423 => ?_
  refine sm_ai rfl h423 rfl ?_
  show sm _ _ _ _ 1635 [(0, .ref a0), (1, .ref a1), (2, .ref a2), (3, .int i3)] [.int (cm_I v419.2 a0 (i3 + (3 : Int32)).toNatClampNeg), .int (cm_I v419.2 a0 (i3 + (2 : Int32)).toNatClampNeg), .int (cm_I v419.2 a0 (i3 + (1 : Int32)).toNatClampNeg), .ref a2, .int v419.1] _ _
  refine sm_seg 4 1639 [(0, .ref a0), (1, .ref a1), (2, .ref a2), (3, .int i3)] [.int (i3 + (4 : Int32)), .ref a0, .int (cm_I v419.2 a0 (i3 + (3 : Int32)).toNatClampNeg), .int (cm_I v419.2 a0 (i3 + (2 : Int32)).toNatClampNeg), .int (cm_I v419.2 a0 (i3 + (1 : Int32)).toNatClampNeg), .ref a2, .int v419.1] rfl ?_
  refine sm_gd fun h424 => ?_
  refine sm_ai rfl h424 rfl ?_
  show sm _ _ _ _ 1640 [(0, .ref a0), (1, .ref a1), (2, .ref a2), (3, .int i3)] [.int (cm_I v419.2 a0 (i3 + (4 : Int32)).toNatClampNeg), .int (cm_I v419.2 a0 (i3 + (3 : Int32)).toNatClampNeg), .int (cm_I v419.2 a0 (i3 + (2 : Int32)).toNatClampNeg), .int (cm_I v419.2 a0 (i3 + (1 : Int32)).toNatClampNeg), .ref a2, .int v419.1] _ _
  refine sm_gd fun h425 => ?_
  refine sm_cV (as := [.int (cm_I v419.2 a0 (i3 + (1 : Int32)).toNatClampNeg), .int (cm_I v419.2 a0 (i3 + (2 : Int32)).toNatClampNeg), .int (cm_I v419.2 a0 (i3 + (3 : Int32)).toNatClampNeg), .int (cm_I v419.2 a0 (i3 + (4 : Int32)).toNatClampNeg)]) (rest := [.int v419.1]) rfl rfl rfl rfl h425 (Nat.le_of_ble_eq_true rfl) (ca_292  a2 (cm_I v419.2 a0 (i3 + (1 : Int32)).toNatClampNeg) (cm_I v419.2 a0 (i3 + (2 : Int32)).toNatClampNeg) (cm_I v419.2 a0 (i3 + (3 : Int32)).toNatClampNeg) (cm_I v419.2 a0 (i3 + (4 : Int32)).toNatClampNeg) v419.2) fun v426 h427 => ?_
  show sm _ _ _ _ 1643 [(0, .ref a0), (1, .ref a1), (2, .ref a2), (3, .int i3)] [.int v426.1, .int v419.1] _ _
  refine sm_if (pc1 := 1773) (lv1 := [(0, .ref a0), (1, .ref a1), (2, .ref a2), (3, .int i3)]) (pc2 := 1646) (lv2 := [(0, .ref a0), (1, .ref a1), (2, .ref a2), (3, .int i3)]) (st1 := []) rfl rfl rfl (fun h428 => ?_) (fun h428 => ?_)
  · exact jt_300_1773  k_18 hk_18 a0 a1 a2 i3 v426.2
  · refine sm_seg 1 1647 [(0, .ref a0), (1, .ref a1), (2, .ref a2), (3, .int i3)] [.int (0 : Int32)] rfl ?_
    exact sm_rBW (b := false) rfl rfl
def fn_300_1648 (k_18 : Nat → Nat → Nat → Int32 → cm_W → Option (Bool × cm_W)) (a0 : Nat) (a1 : Nat) (a2 : Nat) (i3 : Int32) (w : cm_W) : Option (Bool × cm_W) := (if cm_ga w .int a0 (i3 + (1 : Int32)) = true then (if cm_ga w .int a0 (i3 + (2 : Int32)) = true then (if cm_ga w .int a0 (i3 + (3 : Int32)) = true then (if cm_sh w a1 = some (.inl 10) then (fn_188 a1 (cm_I w a0 (i3 + (1 : Int32)).toNatClampNeg) (cm_I w a0 (i3 + (2 : Int32)).toNatClampNeg) (cm_I w a0 (i3 + (3 : Int32)).toNatClampNeg) w).bind fun v433 => (if cm_ga v433.2 .int a0 (i3 + (1 : Int32)) = true then (if cm_ga v433.2 .int a0 (i3 + (2 : Int32)) = true then (if cm_ga v433.2 .int a0 (i3 + (3 : Int32)) = true then (if cm_sh v433.2 a2 = some (.inl 11) then (fn_294 a2 (cm_I v433.2 a0 (i3 + (1 : Int32)).toNatClampNeg) (cm_I v433.2 a0 (i3 + (2 : Int32)).toNatClampNeg) (cm_I v433.2 a0 (i3 + (3 : Int32)).toNatClampNeg) v433.2).bind fun v439 => (if v433.1 = v439.1 then fn_300_1773  k_18 a0 a1 a2 i3 v439.2 else some (false, v439.2)) else none) else none) else none) else none) else none) else none) else none) else none)
theorem jt_300_1648 (k_18 : Nat → Nat → Nat → Int32 → cm_W → Option (Bool × cm_W)) (hk_18 : ∀ (a0 : Nat) (a1 : Nat) (a2 : Nat) (i3 : Int32) (w : cm_W), sm cm_g 300 ck_300 kq_300 18 [(0, .ref a0), (1, .ref a1), (2, .ref a2), (3, .int i3)] [] w ((k_18 a0 a1 a2 i3 w).map cm_gB)) (a0 : Nat) (a1 : Nat) (a2 : Nat) (i3 : Int32) (w : cm_W) : sm cm_g 300 ck_300 kq_300 1648 [(0, .ref a0), (1, .ref a1), (2, .ref a2), (3, .int i3)] [] w ((fn_300_1648 k_18 a0 a1 a2 i3 w).map cm_gB) := by
  unfold fn_300_1648
  refine sm_seg 5 1653 [(0, .ref a0), (1, .ref a1), (2, .ref a2), (3, .int i3)] [.int (i3 + (1 : Int32)), .ref a0, .ref a1] rfl ?_
  refine sm_gd fun h429 => ?_
  refine sm_ai rfl h429 rfl ?_
  show sm _ _ _ _ 1654 [(0, .ref a0), (1, .ref a1), (2, .ref a2), (3, .int i3)] [.int (cm_I w a0 (i3 + (1 : Int32)).toNatClampNeg), .ref a1] _ _
  refine sm_seg 4 1658 [(0, .ref a0), (1, .ref a1), (2, .ref a2), (3, .int i3)] [.int (i3 + (2 : Int32)), .ref a0, .int (cm_I w a0 (i3 + (1 : Int32)).toNatClampNeg), .ref a1] rfl ?_
  refine sm_gd fun h430 => ?_
  refine sm_ai rfl h430 rfl ?_
  show sm _ _ _ _ 1659 [(0, .ref a0), (1, .ref a1), (2, .ref a2), (3, .int i3)] [.int (cm_I w a0 (i3 + (2 : Int32)).toNatClampNeg), .int (cm_I w a0 (i3 + (1 : Int32)).toNatClampNeg), .ref a1] _ _
  refine sm_seg 4 1663 [(0, .ref a0), (1, .ref a1), (2, .ref a2), (3, .int i3)] [.int (i3 + (3 : Int32)), .ref a0, .int (cm_I w a0 (i3 + (2 : Int32)).toNatClampNeg), .int (cm_I w a0 (i3 + (1 : Int32)).toNatClampNeg), .ref a1] rfl ?_
  refine sm_gd fun h431 => ?_
  refine sm_ai rfl h431 rfl ?_
  show sm _ _ _ _ 1664 [(0, .ref a0), (1, .ref a1), (2, .ref a2), (3, .int i3)] [.int (cm_I w a0 (i3 + (3 : Int32)).toNatClampNeg), .int (cm_I w a0 (i3 + (2 : Int32)).toNatClampNeg), .int (cm_I w a0 (i3 + (1 : Int32)).toNatClampNeg), .ref a1] _ _
  refine sm_gd fun h432 => ?_
  refine sm_cV (as := [.int (cm_I w a0 (i3 + (1 : Int32)).toNatClampNeg), .int (cm_I w a0 (i3 + (2 : Int32)).toNatClampNeg), .int (cm_I w a0 (i3 + (3 : Int32)).toNatClampNeg)]) (rest := []) rfl rfl rfl rfl h432 (Nat.le_of_ble_eq_true rfl) (ca_188  a1 (cm_I w a0 (i3 + (1 : Int32)).toNatClampNeg) (cm_I w a0 (i3 + (2 : Int32)).toNatClampNeg) (cm_I w a0 (i3 + (3 : Int32)).toNatClampNeg) w) fun v433 h434 => ?_
  show sm _ _ _ _ 1667 [(0, .ref a0), (1, .ref a1), (2, .ref a2), (3, .int i3)] [.int v433.1] _ _
  refine sm_seg 5 1672 [(0, .ref a0), (1, .ref a1), (2, .ref a2), (3, .int i3)] [.int (i3 + (1 : Int32)), .ref a0, .ref a2, .int v433.1] rfl ?_
  refine sm_gd fun h435 => ?_
  refine sm_ai rfl h435 rfl ?_
  show sm _ _ _ _ 1673 [(0, .ref a0), (1, .ref a1), (2, .ref a2), (3, .int i3)] [.int (cm_I v433.2 a0 (i3 + (1 : Int32)).toNatClampNeg), .ref a2, .int v433.1] _ _
  refine sm_seg 4 1677 [(0, .ref a0), (1, .ref a1), (2, .ref a2), (3, .int i3)] [.int (i3 + (2 : Int32)), .ref a0, .int (cm_I v433.2 a0 (i3 + (1 : Int32)).toNatClampNeg), .ref a2, .int v433.1] rfl ?_
  refine sm_gd fun h436 => ?_
  refine sm_ai rfl h436 rfl ?_
  show sm _ _ _ _ 1678 [(0, .ref a0), (1, .ref a1), (2, .ref a2), (3, .int i3)] [.int (cm_I v433.2 a0 (i3 + (2 : Int32)).toNatClampNeg), .int (cm_I v433.2 a0 (i3 + (1 : Int32)).toNatClampNeg), .ref a2, .int v433.1] _ _
  refine sm_seg 4 1682 [(0, .ref a0), (1, .ref a1), (2, .ref a2), (3, .int i3)] [.int (i3 + (3 : Int32)), .ref a0, .int (cm_I v433.2 a0 (i3 + (2 : Int32)).toNatClampNeg), .int (cm_I v433.2 a0 (i3 + (1 : Int32)).toNatClampNeg), .ref a2, .int v433.1] rfl ?_
  refine sm_gd fun h437 => ?_
  refine sm_ai rfl h437 rfl ?_
  show sm _ _ _ _ 1683 [(0, .ref a0), (1, .ref a1), (2, .ref a2), (3, .int i3)] [.int (cm_I v433.2 a0 (i3 + (3 : Int32)).toNatClampNeg), .int (cm_I v433.2 a0 (i3 + (2 : Int32)).toNatClampNeg), .int (cm_I v433.2 a0 (i3 + (1 : Int32)).toNatClampNeg), .ref a2, .int v433.1] _ _
  refine sm_gd fun h438 => ?_
  refine sm_cV (as := [.int (cm_I v433.2 a0 (i3 + (1 : Int32)).toNatClampNeg), .int (cm_I v433.2 a0 (i3 + (2 : Int32)).toNatClampNeg), .int (cm_I v433.2 a0 (i3 + (3 : Int32)).toNatClampNeg)]) (rest := [.int v433.1]) rfl rfl rfl rfl h438 (Nat.le_of_ble_eq_true rfl) (ca_294  a2 (cm_I v433.2 a0 (i3 + (1 : Int32)).toNatClampNeg) (cm_I v433.2 a0 (i3 + (2 : Int32)).toNatClampNeg) (cm_I v433.2 a0 (i3 + (3 : Int32)).toNatClampNeg) v433.2) fun v439 h440 => ?_
  show sm _ _ _ _ 1686 [(0, .ref a0), (1, .ref a1), (2, .ref a2), (3, .int i3)] [.int v439.1, .int v433.1] _ _
  refine sm_if (pc1 := 1773) (lv1 := [(0, .ref a0), (1, .ref a1), (2, .ref a2), (3, .int i3)]) (pc2 := 1689) (lv2 := [(0, .ref a0), (1, .ref a1), (2, .ref a2), (3, .int i3)]) (st1 := []) rfl rfl rfl (fun h441 => ?_) (fun h441 => ?_)
  · exact jt_300_1773  k_18 hk_18 a0 a1 a2 i3 v439.2
  · refine sm_seg 1 1690 [(0, .ref a0), (1, .ref a1), (2, .ref a2), (3, .int i3)] [.int (0 : Int32)] rfl ?_
    exact sm_rBW (b := false) rfl rfl
def fn_300_1691 (k_18 : Nat → Nat → Nat → Int32 → cm_W → Option (Bool × cm_W)) (a0 : Nat) (a1 : Nat) (a2 : Nat) (i3 : Int32) (w : cm_W) : Option (Bool × cm_W) := (if cm_ga w .int a0 (i3 + (1 : Int32)) = true then (if cm_sh w a1 = some (.inl 10) then (fn_189 a1 (cm_I w a0 (i3 + (1 : Int32)).toNatClampNeg) w).bind fun v444 => (if cm_ga v444.2 .int a0 (i3 + (1 : Int32)) = true then (if cm_sh v444.2 a2 = some (.inl 11) then (fn_293 a2 (cm_I v444.2 a0 (i3 + (1 : Int32)).toNatClampNeg) v444.2).bind fun v448 => (if (cm_b v444.1) = (cm_b v448.1) then fn_300_1773  k_18 a0 a1 a2 i3 v448.2 else some (false, v448.2)) else none) else none) else none) else none)
theorem jt_300_1691 (k_18 : Nat → Nat → Nat → Int32 → cm_W → Option (Bool × cm_W)) (hk_18 : ∀ (a0 : Nat) (a1 : Nat) (a2 : Nat) (i3 : Int32) (w : cm_W), sm cm_g 300 ck_300 kq_300 18 [(0, .ref a0), (1, .ref a1), (2, .ref a2), (3, .int i3)] [] w ((k_18 a0 a1 a2 i3 w).map cm_gB)) (a0 : Nat) (a1 : Nat) (a2 : Nat) (i3 : Int32) (w : cm_W) : sm cm_g 300 ck_300 kq_300 1691 [(0, .ref a0), (1, .ref a1), (2, .ref a2), (3, .int i3)] [] w ((fn_300_1691 k_18 a0 a1 a2 i3 w).map cm_gB) := by
  unfold fn_300_1691
  refine sm_seg 5 1696 [(0, .ref a0), (1, .ref a1), (2, .ref a2), (3, .int i3)] [.int (i3 + (1 : Int32)), .ref a0, .ref a1] rfl ?_
  refine sm_gd fun h442 => ?_
  refine sm_ai rfl h442 rfl ?_
  show sm _ _ _ _ 1697 [(0, .ref a0), (1, .ref a1), (2, .ref a2), (3, .int i3)] [.int (cm_I w a0 (i3 + (1 : Int32)).toNatClampNeg), .ref a1] _ _
  refine sm_gd fun h443 => ?_
  refine sm_cV (as := [.int (cm_I w a0 (i3 + (1 : Int32)).toNatClampNeg)]) (rest := []) rfl rfl rfl rfl h443 (Nat.le_of_ble_eq_true rfl) (ca_189  a1 (cm_I w a0 (i3 + (1 : Int32)).toNatClampNeg) w) fun v444 h445 => ?_
  show sm _ _ _ _ 1700 [(0, .ref a0), (1, .ref a1), (2, .ref a2), (3, .int i3)] [.int (cm_b v444.1)] _ _
  refine sm_seg 5 1705 [(0, .ref a0), (1, .ref a1), (2, .ref a2), (3, .int i3)] [.int (i3 + (1 : Int32)), .ref a0, .ref a2, .int (cm_b v444.1)] rfl ?_
  refine sm_gd fun h446 => ?_
  refine sm_ai rfl h446 rfl ?_
  show sm _ _ _ _ 1706 [(0, .ref a0), (1, .ref a1), (2, .ref a2), (3, .int i3)] [.int (cm_I v444.2 a0 (i3 + (1 : Int32)).toNatClampNeg), .ref a2, .int (cm_b v444.1)] _ _
  refine sm_gd fun h447 => ?_
  refine sm_cV (as := [.int (cm_I v444.2 a0 (i3 + (1 : Int32)).toNatClampNeg)]) (rest := [.int (cm_b v444.1)]) rfl rfl rfl rfl h447 (Nat.le_of_ble_eq_true rfl) (ca_293  a2 (cm_I v444.2 a0 (i3 + (1 : Int32)).toNatClampNeg) v444.2) fun v448 h449 => ?_
  show sm _ _ _ _ 1709 [(0, .ref a0), (1, .ref a1), (2, .ref a2), (3, .int i3)] [.int (cm_b v448.1), .int (cm_b v444.1)] _ _
  refine sm_if (pc1 := 1773) (lv1 := [(0, .ref a0), (1, .ref a1), (2, .ref a2), (3, .int i3)]) (pc2 := 1712) (lv2 := [(0, .ref a0), (1, .ref a1), (2, .ref a2), (3, .int i3)]) (st1 := []) rfl rfl rfl (fun h450 => ?_) (fun h450 => ?_)
  · exact jt_300_1773  k_18 hk_18 a0 a1 a2 i3 v448.2
  · refine sm_seg 1 1713 [(0, .ref a0), (1, .ref a1), (2, .ref a2), (3, .int i3)] [.int (0 : Int32)] rfl ?_
    exact sm_rBW (b := false) rfl rfl
def fn_300_1714 (k_18 : Nat → Nat → Nat → Int32 → cm_W → Option (Bool × cm_W)) (a0 : Nat) (a1 : Nat) (a2 : Nat) (i3 : Int32) (w : cm_W) : Option (Bool × cm_W) := (if cm_sh w a1 = some (.inl 10) then (fn_190 a1 w).bind fun v452 => (if cm_sh v452.2 a2 = some (.inl 11) then (fn_297 a2 v452.2).bind fun v455 => (if v452.1 = v455.1 then fn_300_1773  k_18 a0 a1 a2 i3 v455.2 else some (false, v455.2)) else none) else none)
theorem jt_300_1714 (k_18 : Nat → Nat → Nat → Int32 → cm_W → Option (Bool × cm_W)) (hk_18 : ∀ (a0 : Nat) (a1 : Nat) (a2 : Nat) (i3 : Int32) (w : cm_W), sm cm_g 300 ck_300 kq_300 18 [(0, .ref a0), (1, .ref a1), (2, .ref a2), (3, .int i3)] [] w ((k_18 a0 a1 a2 i3 w).map cm_gB)) (a0 : Nat) (a1 : Nat) (a2 : Nat) (i3 : Int32) (w : cm_W) : sm cm_g 300 ck_300 kq_300 1714 [(0, .ref a0), (1, .ref a1), (2, .ref a2), (3, .int i3)] [] w ((fn_300_1714 k_18 a0 a1 a2 i3 w).map cm_gB) := by
  unfold fn_300_1714
  refine sm_seg 1 1715 [(0, .ref a0), (1, .ref a1), (2, .ref a2), (3, .int i3)] [.ref a1] rfl ?_
  refine sm_gd fun h451 => ?_
  refine sm_cV (as := []) (rest := []) rfl rfl rfl rfl h451 (Nat.le_of_ble_eq_true rfl) (ca_190  a1 w) fun v452 h453 => ?_
  show sm _ _ _ _ 1718 [(0, .ref a0), (1, .ref a1), (2, .ref a2), (3, .int i3)] [.int v452.1] _ _
  refine sm_seg 1 1719 [(0, .ref a0), (1, .ref a1), (2, .ref a2), (3, .int i3)] [.ref a2, .int v452.1] rfl ?_
  refine sm_gd fun h454 => ?_
  refine sm_cV (as := []) (rest := [.int v452.1]) rfl rfl rfl rfl h454 (Nat.le_of_ble_eq_true rfl) (ca_297  a2 v452.2) fun v455 h456 => ?_
  show sm _ _ _ _ 1722 [(0, .ref a0), (1, .ref a1), (2, .ref a2), (3, .int i3)] [.int v455.1, .int v452.1] _ _
  refine sm_if (pc1 := 1773) (lv1 := [(0, .ref a0), (1, .ref a1), (2, .ref a2), (3, .int i3)]) (pc2 := 1725) (lv2 := [(0, .ref a0), (1, .ref a1), (2, .ref a2), (3, .int i3)]) (st1 := []) rfl rfl rfl (fun h457 => ?_) (fun h457 => ?_)
  · exact jt_300_1773  k_18 hk_18 a0 a1 a2 i3 v455.2
  · refine sm_seg 1 1726 [(0, .ref a0), (1, .ref a1), (2, .ref a2), (3, .int i3)] [.int (0 : Int32)] rfl ?_
    exact sm_rBW (b := false) rfl rfl
def fn_300_1727 (k_18 : Nat → Nat → Nat → Int32 → cm_W → Option (Bool × cm_W)) (a0 : Nat) (a1 : Nat) (a2 : Nat) (i3 : Int32) (w : cm_W) : Option (Bool × cm_W) := (if cm_ga w .int a0 (i3 + (1 : Int32)) = true then (if cm_sh w a1 = some (.inl 10) then (fn_191 a1 (cm_I w a0 (i3 + (1 : Int32)).toNatClampNeg) w).bind fun v460 => (if cm_ga v460.2 .int a0 (i3 + (1 : Int32)) = true then (if cm_sh v460.2 a2 = some (.inl 11) then (fn_298 a2 (cm_I v460.2 a0 (i3 + (1 : Int32)).toNatClampNeg) v460.2).bind fun v464 => (if (cm_b v460.1) = (cm_b v464.1) then fn_300_1773  k_18 a0 a1 a2 i3 v464.2 else some (false, v464.2)) else none) else none) else none) else none)
theorem jt_300_1727 (k_18 : Nat → Nat → Nat → Int32 → cm_W → Option (Bool × cm_W)) (hk_18 : ∀ (a0 : Nat) (a1 : Nat) (a2 : Nat) (i3 : Int32) (w : cm_W), sm cm_g 300 ck_300 kq_300 18 [(0, .ref a0), (1, .ref a1), (2, .ref a2), (3, .int i3)] [] w ((k_18 a0 a1 a2 i3 w).map cm_gB)) (a0 : Nat) (a1 : Nat) (a2 : Nat) (i3 : Int32) (w : cm_W) : sm cm_g 300 ck_300 kq_300 1727 [(0, .ref a0), (1, .ref a1), (2, .ref a2), (3, .int i3)] [] w ((fn_300_1727 k_18 a0 a1 a2 i3 w).map cm_gB) := by
  unfold fn_300_1727
  refine sm_seg 5 1732 [(0, .ref a0), (1, .ref a1), (2, .ref a2), (3, .int i3)] [.int (i3 + (1 : Int32)), .ref a0, .ref a1] rfl ?_
  refine sm_gd fun h458 => ?_
  refine sm_ai rfl h458 rfl ?_
  show sm _ _ _ _ 1733 [(0, .ref a0), (1, .ref a1), (2, .ref a2), (3, .int i3)] [.int (cm_I w a0 (i3 + (1 : Int32)).toNatClampNeg), .ref a1] _ _
  refine sm_gd fun h459 => ?_
  refine sm_cV (as := [.int (cm_I w a0 (i3 + (1 : Int32)).toNatClampNeg)]) (rest := []) rfl rfl rfl rfl h459 (Nat.le_of_ble_eq_true rfl) (ca_191  a1 (cm_I w a0 (i3 + (1 : Int32)).toNatClampNeg) w) fun v460 h461 => ?_
  show sm _ _ _ _ 1736 [(0, .ref a0), (1, .ref a1), (2, .ref a2), (3, .int i3)] [.int (cm_b v460.1)] _ _
  refine sm_seg 5 1741 [(0, .ref a0), (1, .ref a1), (2, .ref a2), (3, .int i3)] [.int (i3 + (1 : Int32)), .ref a0, .ref a2, .int (cm_b v460.1)] rfl ?_
  refine sm_gd fun h462 => ?_
  refine sm_ai rfl h462 rfl ?_
  show sm _ _ _ _ 1742 [(0, .ref a0), (1, .ref a1), (2, .ref a2), (3, .int i3)] [.int (cm_I v460.2 a0 (i3 + (1 : Int32)).toNatClampNeg), .ref a2, .int (cm_b v460.1)] _ _
  refine sm_gd fun h463 => ?_
  refine sm_cV (as := [.int (cm_I v460.2 a0 (i3 + (1 : Int32)).toNatClampNeg)]) (rest := [.int (cm_b v460.1)]) rfl rfl rfl rfl h463 (Nat.le_of_ble_eq_true rfl) (ca_298  a2 (cm_I v460.2 a0 (i3 + (1 : Int32)).toNatClampNeg) v460.2) fun v464 h465 => ?_
  show sm _ _ _ _ 1745 [(0, .ref a0), (1, .ref a1), (2, .ref a2), (3, .int i3)] [.int (cm_b v464.1), .int (cm_b v460.1)] _ _
  refine sm_if (pc1 := 1773) (lv1 := [(0, .ref a0), (1, .ref a1), (2, .ref a2), (3, .int i3)]) (pc2 := 1748) (lv2 := [(0, .ref a0), (1, .ref a1), (2, .ref a2), (3, .int i3)]) (st1 := []) rfl rfl rfl (fun h466 => ?_) (fun h466 => ?_)
  · exact jt_300_1773  k_18 hk_18 a0 a1 a2 i3 v464.2
  · refine sm_seg 1 1749 [(0, .ref a0), (1, .ref a1), (2, .ref a2), (3, .int i3)] [.int (0 : Int32)] rfl ?_
    exact sm_rBW (b := false) rfl rfl
def fn_300_1750 (k_18 : Nat → Nat → Nat → Int32 → cm_W → Option (Bool × cm_W)) (a0 : Nat) (a1 : Nat) (a2 : Nat) (i3 : Int32) (w : cm_W) : Option (Bool × cm_W) := (if cm_ga w .int a0 (i3 + (1 : Int32)) = true then (if cm_sh w a1 = some (.inl 10) then (fn_192 w a1 (cm_I w a0 (i3 + (1 : Int32)).toNatClampNeg)).bind fun v469 => (if cm_sh w a2 = some (.inl 11) then (fn_299 w a2 (cm_I w a0 (i3 + (1 : Int32)).toNatClampNeg)).bind fun v472 => (if v469 = v472 then fn_300_1773  k_18 a0 a1 a2 i3 w else some (false, w)) else none) else none) else none)
theorem jt_300_1750 (k_18 : Nat → Nat → Nat → Int32 → cm_W → Option (Bool × cm_W)) (hk_18 : ∀ (a0 : Nat) (a1 : Nat) (a2 : Nat) (i3 : Int32) (w : cm_W), sm cm_g 300 ck_300 kq_300 18 [(0, .ref a0), (1, .ref a1), (2, .ref a2), (3, .int i3)] [] w ((k_18 a0 a1 a2 i3 w).map cm_gB)) (a0 : Nat) (a1 : Nat) (a2 : Nat) (i3 : Int32) (w : cm_W) : sm cm_g 300 ck_300 kq_300 1750 [(0, .ref a0), (1, .ref a1), (2, .ref a2), (3, .int i3)] [] w ((fn_300_1750 k_18 a0 a1 a2 i3 w).map cm_gB) := by
  unfold fn_300_1750
  refine sm_seg 5 1755 [(0, .ref a0), (1, .ref a1), (2, .ref a2), (3, .int i3)] [.int (i3 + (1 : Int32)), .ref a0, .ref a1] rfl ?_
  refine sm_gd fun h467 => ?_
  refine sm_ai rfl h467 rfl ?_
  show sm _ _ _ _ 1756 [(0, .ref a0), (1, .ref a1), (2, .ref a2), (3, .int i3)] [.int (cm_I w a0 (i3 + (1 : Int32)).toNatClampNeg), .ref a1] _ _
  refine sm_gd fun h468 => ?_
  refine sm_cV (as := [.int (cm_I w a0 (i3 + (1 : Int32)).toNatClampNeg)]) (rest := []) rfl rfl rfl rfl h468 (Nat.le_of_ble_eq_true rfl) (ca_192 w a1 (cm_I w a0 (i3 + (1 : Int32)).toNatClampNeg)) fun v469 h470 => ?_
  show sm _ _ _ _ 1759 [(0, .ref a0), (1, .ref a1), (2, .ref a2), (3, .int i3)] [.int v469] _ _
  refine sm_seg 5 1764 [(0, .ref a0), (1, .ref a1), (2, .ref a2), (3, .int i3)] [.int (i3 + (1 : Int32)), .ref a0, .ref a2, .int v469] rfl ?_
  refine sm_ai rfl h467 rfl ?_
  show sm _ _ _ _ 1765 [(0, .ref a0), (1, .ref a1), (2, .ref a2), (3, .int i3)] [.int (cm_I w a0 (i3 + (1 : Int32)).toNatClampNeg), .ref a2, .int v469] _ _
  refine sm_gd fun h471 => ?_
  refine sm_cV (as := [.int (cm_I w a0 (i3 + (1 : Int32)).toNatClampNeg)]) (rest := [.int v469]) rfl rfl rfl rfl h471 (Nat.le_of_ble_eq_true rfl) (ca_299 w a2 (cm_I w a0 (i3 + (1 : Int32)).toNatClampNeg)) fun v472 h473 => ?_
  show sm _ _ _ _ 1768 [(0, .ref a0), (1, .ref a1), (2, .ref a2), (3, .int i3)] [.int v472, .int v469] _ _
  refine sm_if (pc1 := 1773) (lv1 := [(0, .ref a0), (1, .ref a1), (2, .ref a2), (3, .int i3)]) (pc2 := 1771) (lv2 := [(0, .ref a0), (1, .ref a1), (2, .ref a2), (3, .int i3)]) (st1 := []) rfl rfl rfl (fun h474 => ?_) (fun h474 => ?_)
  · exact jt_300_1773  k_18 hk_18 a0 a1 a2 i3 w
  · refine sm_seg 1 1772 [(0, .ref a0), (1, .ref a1), (2, .ref a2), (3, .int i3)] [.int (0 : Int32)] rfl ?_
    exact sm_rBW (b := false) rfl rfl
def fn_300_18 : Nat → Nat → Nat → Nat → Int32 → cm_W → Option (Bool × cm_W)
  | 0, _, _, _, _, _ => none
  | n + 1, a0, a1, a2, i3, w => (cm_al w a0).bind fun n475 => (if ((Int32.ofNat n475) - (6 : Int32)) < i3 then some (true, w) else (if cm_ga w .int a0 i3 = true then (if ((cm_I w a0 i3.toNatClampNeg) &&& (63 : Int32)) = (0 : Int32) then (if cm_ga w .int a0 (i3 + (1 : Int32)) = true then (if cm_ga w .int a0 (i3 + (2 : Int32)) = true then (if cm_ga w .int a0 (i3 + (3 : Int32)) = true then (if cm_ga w .int a0 (i3 + (4 : Int32)) = true then (if cm_ga w .int a0 (i3 + (5 : Int32)) = true then (if cm_sh w a1 = some (.inl 10) then (fn_139 a1 (cm_I w a0 (i3 + (1 : Int32)).toNatClampNeg) (cm_I w a0 (i3 + (2 : Int32)).toNatClampNeg) (cm_I w a0 (i3 + (3 : Int32)).toNatClampNeg) (cm_I w a0 (i3 + (4 : Int32)).toNatClampNeg) (cm_I w a0 (i3 + (5 : Int32)).toNatClampNeg) w).bind fun v486 => (if cm_ga v486.2 .int a0 (i3 + (1 : Int32)) = true then (if cm_ga v486.2 .int a0 (i3 + (2 : Int32)) = true then (if cm_ga v486.2 .int a0 (i3 + (3 : Int32)) = true then (if cm_ga v486.2 .int a0 (i3 + (4 : Int32)) = true then (if cm_ga v486.2 .int a0 (i3 + (5 : Int32)) = true then (if cm_sh v486.2 a2 = some (.inl 11) then (fn_201 a2 (cm_I v486.2 a0 (i3 + (1 : Int32)).toNatClampNeg) (cm_I v486.2 a0 (i3 + (2 : Int32)).toNatClampNeg) (cm_I v486.2 a0 (i3 + (3 : Int32)).toNatClampNeg) (cm_I v486.2 a0 (i3 + (4 : Int32)).toNatClampNeg) (cm_I v486.2 a0 (i3 + (5 : Int32)).toNatClampNeg) v486.2).bind fun v494 => (if v486.1 = v494.1 then fn_300_1773  (fn_300_18 n) a0 a1 a2 i3 v494.2 else some (false, v494.2)) else none) else none) else none) else none) else none) else none) else none) else none) else none) else none) else none) else none) else (if ((cm_I w a0 i3.toNatClampNeg) &&& (63 : Int32)) = (1 : Int32) then fn_300_291  (fn_300_18 n) a0 a1 a2 i3 w else (if ((cm_I w a0 i3.toNatClampNeg) &&& (63 : Int32)) = (2 : Int32) then fn_300_314  (fn_300_18 n) a0 a1 a2 i3 w else (if ((cm_I w a0 i3.toNatClampNeg) &&& (63 : Int32)) = (3 : Int32) then fn_300_327  (fn_300_18 n) a0 a1 a2 i3 w else (if ((cm_I w a0 i3.toNatClampNeg) &&& (63 : Int32)) = (4 : Int32) then fn_300_360  (fn_300_18 n) a0 a1 a2 i3 w else (if ((cm_I w a0 i3.toNatClampNeg) &&& (63 : Int32)) = (5 : Int32) then fn_300_393  (fn_300_18 n) a0 a1 a2 i3 w else (if ((cm_I w a0 i3.toNatClampNeg) &&& (63 : Int32)) = (6 : Int32) then fn_300_426  (fn_300_18 n) a0 a1 a2 i3 w else (if ((cm_I w a0 i3.toNatClampNeg) &&& (63 : Int32)) = (7 : Int32) then fn_300_459  (fn_300_18 n) a0 a1 a2 i3 w else (if ((cm_I w a0 i3.toNatClampNeg) &&& (63 : Int32)) = (8 : Int32) then fn_300_472  (fn_300_18 n) a0 a1 a2 i3 w else (if ((cm_I w a0 i3.toNatClampNeg) &&& (63 : Int32)) = (9 : Int32) then fn_300_515  (fn_300_18 n) a0 a1 a2 i3 w else (if ((cm_I w a0 i3.toNatClampNeg) &&& (63 : Int32)) = (10 : Int32) then fn_300_548  (fn_300_18 n) a0 a1 a2 i3 w else (if ((cm_I w a0 i3.toNatClampNeg) &&& (63 : Int32)) = (11 : Int32) then fn_300_591  (fn_300_18 n) a0 a1 a2 i3 w else (if ((cm_I w a0 i3.toNatClampNeg) &&& (63 : Int32)) = (12 : Int32) then fn_300_614  (fn_300_18 n) a0 a1 a2 i3 w else (if ((cm_I w a0 i3.toNatClampNeg) &&& (63 : Int32)) = (13 : Int32) then fn_300_647  (fn_300_18 n) a0 a1 a2 i3 w else (if ((cm_I w a0 i3.toNatClampNeg) &&& (63 : Int32)) = (14 : Int32) then fn_300_690  (fn_300_18 n) a0 a1 a2 i3 w else (if ((cm_I w a0 i3.toNatClampNeg) &&& (63 : Int32)) = (15 : Int32) then fn_300_723  (fn_300_18 n) a0 a1 a2 i3 w else (if ((cm_I w a0 i3.toNatClampNeg) &&& (63 : Int32)) = (16 : Int32) then fn_300_746  (fn_300_18 n) a0 a1 a2 i3 w else (if ((cm_I w a0 i3.toNatClampNeg) &&& (63 : Int32)) = (17 : Int32) then fn_300_789  (fn_300_18 n) a0 a1 a2 i3 w else (if ((cm_I w a0 i3.toNatClampNeg) &&& (63 : Int32)) = (18 : Int32) then fn_300_812  (fn_300_18 n) a0 a1 a2 i3 w else (if ((cm_I w a0 i3.toNatClampNeg) &&& (63 : Int32)) = (19 : Int32) then fn_300_825  (fn_300_18 n) a0 a1 a2 i3 w else (if ((cm_I w a0 i3.toNatClampNeg) &&& (63 : Int32)) = (20 : Int32) then fn_300_878  (fn_300_18 n) a0 a1 a2 i3 w else (if ((cm_I w a0 i3.toNatClampNeg) &&& (63 : Int32)) = (21 : Int32) then fn_300_901  (fn_300_18 n) a0 a1 a2 i3 w else (if ((cm_I w a0 i3.toNatClampNeg) &&& (63 : Int32)) = (22 : Int32) then fn_300_934  (fn_300_18 n) a0 a1 a2 i3 w else (if ((cm_I w a0 i3.toNatClampNeg) &&& (63 : Int32)) = (23 : Int32) then fn_300_967  (fn_300_18 n) a0 a1 a2 i3 w else (if ((cm_I w a0 i3.toNatClampNeg) &&& (63 : Int32)) = (24 : Int32) then fn_300_990  (fn_300_18 n) a0 a1 a2 i3 w else (if ((cm_I w a0 i3.toNatClampNeg) &&& (63 : Int32)) = (25 : Int32) then fn_300_1013  (fn_300_18 n) a0 a1 a2 i3 w else (if ((cm_I w a0 i3.toNatClampNeg) &&& (63 : Int32)) = (26 : Int32) then fn_300_1046  (fn_300_18 n) a0 a1 a2 i3 w else (if ((cm_I w a0 i3.toNatClampNeg) &&& (63 : Int32)) = (27 : Int32) then fn_300_1099  (fn_300_18 n) a0 a1 a2 i3 w else (if ((cm_I w a0 i3.toNatClampNeg) &&& (63 : Int32)) = (28 : Int32) then fn_300_1122  (fn_300_18 n) a0 a1 a2 i3 w else (if ((cm_I w a0 i3.toNatClampNeg) &&& (63 : Int32)) = (29 : Int32) then fn_300_1185  (fn_300_18 n) a0 a1 a2 i3 w else (if ((cm_I w a0 i3.toNatClampNeg) &&& (63 : Int32)) = (30 : Int32) then fn_300_1218  (fn_300_18 n) a0 a1 a2 i3 w else (if ((cm_I w a0 i3.toNatClampNeg) &&& (63 : Int32)) = (31 : Int32) then fn_300_1241  (fn_300_18 n) a0 a1 a2 i3 w else (if ((cm_I w a0 i3.toNatClampNeg) &&& (63 : Int32)) = (32 : Int32) then fn_300_1274  (fn_300_18 n) a0 a1 a2 i3 w else (if ((cm_I w a0 i3.toNatClampNeg) &&& (63 : Int32)) = (33 : Int32) then fn_300_1317  (fn_300_18 n) a0 a1 a2 i3 w else (if ((cm_I w a0 i3.toNatClampNeg) &&& (63 : Int32)) = (34 : Int32) then fn_300_1350  (fn_300_18 n) a0 a1 a2 i3 w else (if ((cm_I w a0 i3.toNatClampNeg) &&& (63 : Int32)) = (35 : Int32) then fn_300_1403  (fn_300_18 n) a0 a1 a2 i3 w else (if ((cm_I w a0 i3.toNatClampNeg) &&& (63 : Int32)) = (36 : Int32) then fn_300_1466  (fn_300_18 n) a0 a1 a2 i3 w else (if ((cm_I w a0 i3.toNatClampNeg) &&& (63 : Int32)) = (37 : Int32) then fn_300_1509  (fn_300_18 n) a0 a1 a2 i3 w else (if ((cm_I w a0 i3.toNatClampNeg) &&& (63 : Int32)) = (38 : Int32) then fn_300_1552  (fn_300_18 n) a0 a1 a2 i3 w else (if ((cm_I w a0 i3.toNatClampNeg) &&& (63 : Int32)) = (39 : Int32) then fn_300_1595  (fn_300_18 n) a0 a1 a2 i3 w else (if ((cm_I w a0 i3.toNatClampNeg) &&& (63 : Int32)) = (40 : Int32) then fn_300_1648  (fn_300_18 n) a0 a1 a2 i3 w else (if ((cm_I w a0 i3.toNatClampNeg) &&& (63 : Int32)) = (41 : Int32) then fn_300_1691  (fn_300_18 n) a0 a1 a2 i3 w else (if ((cm_I w a0 i3.toNatClampNeg) &&& (63 : Int32)) = (42 : Int32) then fn_300_1714  (fn_300_18 n) a0 a1 a2 i3 w else (if ((cm_I w a0 i3.toNatClampNeg) &&& (63 : Int32)) = (43 : Int32) then fn_300_1727  (fn_300_18 n) a0 a1 a2 i3 w else (if ((cm_I w a0 i3.toNatClampNeg) &&& (63 : Int32)) = (44 : Int32) then fn_300_1750  (fn_300_18 n) a0 a1 a2 i3 w else fn_300_1773  (fn_300_18 n) a0 a1 a2 i3 w))))))))))))))))))))))))))))))))))))))))))))) else none))
theorem jt_300_18 : ∀ (n : Nat) (a0 : Nat) (a1 : Nat) (a2 : Nat) (i3 : Int32) (w : cm_W), sm cm_g 300 ck_300 kq_300 18 [(0, .ref a0), (1, .ref a1), (2, .ref a2), (3, .int i3)] [] w ((fn_300_18 n a0 a1 a2 i3 w).map cm_gB) := by
  intro n
  induction n with
  | zero => intro a0 a1 a2 i3 w; exact sm_no
  | succ n ih =>
    intro a0 a1 a2 i3 w
    rw [fn_300_18]
    refine sm_seg 2 20 [(0, .ref a0), (1, .ref a1), (2, .ref a2), (3, .int i3)] [.ref a0, .int i3] rfl ?_
    refine sm_len rfl rfl fun n475 h476 => ?_
    show sm _ _ _ _ 21 [(0, .ref a0), (1, .ref a1), (2, .ref a2), (3, .int i3)] [.int (Int32.ofNat n475), .int i3] _ _
    refine sm_seg 2 24 [(0, .ref a0), (1, .ref a1), (2, .ref a2), (3, .int i3)] [.int ((Int32.ofNat n475) - (6 : Int32)), .int i3] rfl ?_
    refine sm_if (pc1 := 1779) (lv1 := []) (pc2 := 27) (lv2 := [(0, .ref a0), (1, .ref a1), (2, .ref a2), (3, .int i3)]) (st1 := []) rfl rfl rfl (fun h477 => ?_) (fun h477 => ?_)
    · refine sm_seg 1 1780 [] [.int (1 : Int32)] rfl ?_
      exact sm_rBW (b := true) rfl rfl
    · refine sm_seg 2 29 [(0, .ref a0), (1, .ref a1), (2, .ref a2), (3, .int i3)] [.int i3, .ref a0] rfl ?_
      refine sm_gd fun h478 => ?_
      refine sm_ai rfl h478 rfl ?_
      show sm _ _ _ _ 30 [(0, .ref a0), (1, .ref a1), (2, .ref a2), (3, .int i3)] [.int (cm_I w a0 i3.toNatClampNeg)] _ _
      refine sm_seg 2 33 [(0, .ref a0), (1, .ref a1), (2, .ref a2), (3, .int i3)] [.int ((cm_I w a0 i3.toNatClampNeg) &&& (63 : Int32))] rfl ?_
      refine sm_br (fun h479 => ?_) (fun h479 => ?_)
      · refine sm_ts (off := (195)) (pc1 := 228) (lv1 := [(0, .ref a0), (1, .ref a1), (2, .ref a2), (3, .int i3)]) rfl (by rw [h479]; rfl) rfl rfl ?_
        refine sm_seg 5 233 [(0, .ref a0), (1, .ref a1), (2, .ref a2), (3, .int i3)] [.int (i3 + (1 : Int32)), .ref a0, .ref a1] rfl ?_
        refine sm_gd fun h480 => ?_
        refine sm_ai rfl h480 rfl ?_
        show sm _ _ _ _ 234 [(0, .ref a0), (1, .ref a1), (2, .ref a2), (3, .int i3)] [.int (cm_I w a0 (i3 + (1 : Int32)).toNatClampNeg), .ref a1] _ _
        refine sm_seg 4 238 [(0, .ref a0), (1, .ref a1), (2, .ref a2), (3, .int i3)] [.int (i3 + (2 : Int32)), .ref a0, .int (cm_I w a0 (i3 + (1 : Int32)).toNatClampNeg), .ref a1] rfl ?_
        refine sm_gd fun h481 => ?_
        refine sm_ai rfl h481 rfl ?_
        show sm _ _ _ _ 239 [(0, .ref a0), (1, .ref a1), (2, .ref a2), (3, .int i3)] [.int (cm_I w a0 (i3 + (2 : Int32)).toNatClampNeg), .int (cm_I w a0 (i3 + (1 : Int32)).toNatClampNeg), .ref a1] _ _
        refine sm_seg 4 243 [(0, .ref a0), (1, .ref a1), (2, .ref a2), (3, .int i3)] [.int (i3 + (3 : Int32)), .ref a0, .int (cm_I w a0 (i3 + (2 : Int32)).toNatClampNeg), .int (cm_I w a0 (i3 + (1 : Int32)).toNatClampNeg), .ref a1] rfl ?_
        refine sm_gd fun h482 => ?_
        refine sm_ai rfl h482 rfl ?_
        show sm _ _ _ _ 244 [(0, .ref a0), (1, .ref a1), (2, .ref a2), (3, .int i3)] [.int (cm_I w a0 (i3 + (3 : Int32)).toNatClampNeg), .int (cm_I w a0 (i3 + (2 : Int32)).toNatClampNeg), .int (cm_I w a0 (i3 + (1 : Int32)).toNatClampNeg), .ref a1] _ _
        refine sm_seg 4 248 [(0, .ref a0), (1, .ref a1), (2, .ref a2), (3, .int i3)] [.int (i3 + (4 : Int32)), .ref a0, .int (cm_I w a0 (i3 + (3 : Int32)).toNatClampNeg), .int (cm_I w a0 (i3 + (2 : Int32)).toNatClampNeg), .int (cm_I w a0 (i3 + (1 : Int32)).toNatClampNeg), .ref a1] rfl ?_
        refine sm_gd fun h483 => ?_
        refine sm_ai rfl h483 rfl ?_
        show sm _ _ _ _ 249 [(0, .ref a0), (1, .ref a1), (2, .ref a2), (3, .int i3)] [.int (cm_I w a0 (i3 + (4 : Int32)).toNatClampNeg), .int (cm_I w a0 (i3 + (3 : Int32)).toNatClampNeg), .int (cm_I w a0 (i3 + (2 : Int32)).toNatClampNeg), .int (cm_I w a0 (i3 + (1 : Int32)).toNatClampNeg), .ref a1] _ _
        refine sm_seg 4 253 [(0, .ref a0), (1, .ref a1), (2, .ref a2), (3, .int i3)] [.int (i3 + (5 : Int32)), .ref a0, .int (cm_I w a0 (i3 + (4 : Int32)).toNatClampNeg), .int (cm_I w a0 (i3 + (3 : Int32)).toNatClampNeg), .int (cm_I w a0 (i3 + (2 : Int32)).toNatClampNeg), .int (cm_I w a0 (i3 + (1 : Int32)).toNatClampNeg), .ref a1] rfl ?_
        refine sm_gd fun h484 => ?_
        refine sm_ai rfl h484 rfl ?_
        show sm _ _ _ _ 254 [(0, .ref a0), (1, .ref a1), (2, .ref a2), (3, .int i3)] [.int (cm_I w a0 (i3 + (5 : Int32)).toNatClampNeg), .int (cm_I w a0 (i3 + (4 : Int32)).toNatClampNeg), .int (cm_I w a0 (i3 + (3 : Int32)).toNatClampNeg), .int (cm_I w a0 (i3 + (2 : Int32)).toNatClampNeg), .int (cm_I w a0 (i3 + (1 : Int32)).toNatClampNeg), .ref a1] _ _
        refine sm_gd fun h485 => ?_
        refine sm_cV (as := [.int (cm_I w a0 (i3 + (1 : Int32)).toNatClampNeg), .int (cm_I w a0 (i3 + (2 : Int32)).toNatClampNeg), .int (cm_I w a0 (i3 + (3 : Int32)).toNatClampNeg), .int (cm_I w a0 (i3 + (4 : Int32)).toNatClampNeg), .int (cm_I w a0 (i3 + (5 : Int32)).toNatClampNeg)]) (rest := []) rfl rfl rfl rfl h485 (Nat.le_of_ble_eq_true rfl) (ca_139  a1 (cm_I w a0 (i3 + (1 : Int32)).toNatClampNeg) (cm_I w a0 (i3 + (2 : Int32)).toNatClampNeg) (cm_I w a0 (i3 + (3 : Int32)).toNatClampNeg) (cm_I w a0 (i3 + (4 : Int32)).toNatClampNeg) (cm_I w a0 (i3 + (5 : Int32)).toNatClampNeg) w) fun v486 h487 => ?_
        show sm _ _ _ _ 257 [(0, .ref a0), (1, .ref a1), (2, .ref a2), (3, .int i3)] [.int v486.1] _ _
        refine sm_seg 5 262 [(0, .ref a0), (1, .ref a1), (2, .ref a2), (3, .int i3)] [.int (i3 + (1 : Int32)), .ref a0, .ref a2, .int v486.1] rfl ?_
        refine sm_gd fun h488 => ?_
        refine sm_ai rfl h488 rfl ?_
        show sm _ _ _ _ 263 [(0, .ref a0), (1, .ref a1), (2, .ref a2), (3, .int i3)] [.int (cm_I v486.2 a0 (i3 + (1 : Int32)).toNatClampNeg), .ref a2, .int v486.1] _ _
        refine sm_seg 4 267 [(0, .ref a0), (1, .ref a1), (2, .ref a2), (3, .int i3)] [.int (i3 + (2 : Int32)), .ref a0, .int (cm_I v486.2 a0 (i3 + (1 : Int32)).toNatClampNeg), .ref a2, .int v486.1] rfl ?_
        refine sm_gd fun h489 => ?_
        refine sm_ai rfl h489 rfl ?_
        show sm _ _ _ _ 268 [(0, .ref a0), (1, .ref a1), (2, .ref a2), (3, .int i3)] [.int (cm_I v486.2 a0 (i3 + (2 : Int32)).toNatClampNeg), .int (cm_I v486.2 a0 (i3 + (1 : Int32)).toNatClampNeg), .ref a2, .int v486.1] _ _
        refine sm_seg 4 272 [(0, .ref a0), (1, .ref a1), (2, .ref a2), (3, .int i3)] [.int (i3 + (3 : Int32)), .ref a0, .int (cm_I v486.2 a0 (i3 + (2 : Int32)).toNatClampNeg), .int (cm_I v486.2 a0 (i3 + (1 : Int32)).toNatClampNeg), .ref a2, .int v486.1] rfl ?_
        refine sm_gd fun h490 => ?_
        refine sm_ai rfl h490 rfl ?_
        show sm _ _ _ _ 273 [(0, .ref a0), (1, .ref a1), (2, .ref a2), (3, .int i3)] [.int (cm_I v486.2 a0 (i3 + (3 : Int32)).toNatClampNeg), .int (cm_I v486.2 a0 (i3 + (2 : Int32)).toNatClampNeg), .int (cm_I v486.2 a0 (i3 + (1 : Int32)).toNatClampNeg), .ref a2, .int v486.1] _ _
        refine sm_seg 4 277 [(0, .ref a0), (1, .ref a1), (2, .ref a2), (3, .int i3)] [.int (i3 + (4 : Int32)), .ref a0, .int (cm_I v486.2 a0 (i3 + (3 : Int32)).toNatClampNeg), .int (cm_I v486.2 a0 (i3 + (2 : Int32)).toNatClampNeg), .int (cm_I v486.2 a0 (i3 + (1 : Int32)).toNatClampNeg), .ref a2, .int v486.1] rfl ?_
        refine sm_gd fun h491 => ?_
        refine sm_ai rfl h491 rfl ?_
        show sm _ _ _ _ 278 [(0, .ref a0), (1, .ref a1), (2, .ref a2), (3, .int i3)] [.int (cm_I v486.2 a0 (i3 + (4 : Int32)).toNatClampNeg), .int (cm_I v486.2 a0 (i3 + (3 : Int32)).toNatClampNeg), .int (cm_I v486.2 a0 (i3 + (2 : Int32)).toNatClampNeg), .int (cm_I v486.2 a0 (i3 + (1 : Int32)).toNatClampNeg), .ref a2, .int v486.1] _ _
        refine sm_seg 4 282 [(0, .ref a0), (1, .ref a1), (2, .ref a2), (3, .int i3)] [.int (i3 + (5 : Int32)), .ref a0, .int (cm_I v486.2 a0 (i3 + (4 : Int32)).toNatClampNeg), .int (cm_I v486.2 a0 (i3 + (3 : Int32)).toNatClampNeg), .int (cm_I v486.2 a0 (i3 + (2 : Int32)).toNatClampNeg), .int (cm_I v486.2 a0 (i3 + (1 : Int32)).toNatClampNeg), .ref a2, .int v486.1] rfl ?_
        refine sm_gd fun h492 => ?_
        refine sm_ai rfl h492 rfl ?_
        show sm _ _ _ _ 283 [(0, .ref a0), (1, .ref a1), (2, .ref a2), (3, .int i3)] [.int (cm_I v486.2 a0 (i3 + (5 : Int32)).toNatClampNeg), .int (cm_I v486.2 a0 (i3 + (4 : Int32)).toNatClampNeg), .int (cm_I v486.2 a0 (i3 + (3 : Int32)).toNatClampNeg), .int (cm_I v486.2 a0 (i3 + (2 : Int32)).toNatClampNeg), .int (cm_I v486.2 a0 (i3 + (1 : Int32)).toNatClampNeg), .ref a2, .int v486.1] _ _
        refine sm_gd fun h493 => ?_
        refine sm_cV (as := [.int (cm_I v486.2 a0 (i3 + (1 : Int32)).toNatClampNeg), .int (cm_I v486.2 a0 (i3 + (2 : Int32)).toNatClampNeg), .int (cm_I v486.2 a0 (i3 + (3 : Int32)).toNatClampNeg), .int (cm_I v486.2 a0 (i3 + (4 : Int32)).toNatClampNeg), .int (cm_I v486.2 a0 (i3 + (5 : Int32)).toNatClampNeg)]) (rest := [.int v486.1]) rfl rfl rfl rfl h493 (Nat.le_of_ble_eq_true rfl) (ca_201  a2 (cm_I v486.2 a0 (i3 + (1 : Int32)).toNatClampNeg) (cm_I v486.2 a0 (i3 + (2 : Int32)).toNatClampNeg) (cm_I v486.2 a0 (i3 + (3 : Int32)).toNatClampNeg) (cm_I v486.2 a0 (i3 + (4 : Int32)).toNatClampNeg) (cm_I v486.2 a0 (i3 + (5 : Int32)).toNatClampNeg) v486.2) fun v494 h495 => ?_
        show sm _ _ _ _ 286 [(0, .ref a0), (1, .ref a1), (2, .ref a2), (3, .int i3)] [.int v494.1, .int v486.1] _ _
        refine sm_if (pc1 := 1773) (lv1 := [(0, .ref a0), (1, .ref a1), (2, .ref a2), (3, .int i3)]) (pc2 := 289) (lv2 := [(0, .ref a0), (1, .ref a1), (2, .ref a2), (3, .int i3)]) (st1 := []) rfl rfl rfl (fun h496 => ?_) (fun h496 => ?_)
        · exact jt_300_1773  (fn_300_18 n) ih a0 a1 a2 i3 v494.2
        · refine sm_seg 1 290 [(0, .ref a0), (1, .ref a1), (2, .ref a2), (3, .int i3)] [.int (0 : Int32)] rfl ?_
          exact sm_rBW (b := false) rfl rfl
      refine sm_br (fun h497 => ?_) (fun h497 => ?_)
      · refine sm_ts (off := (258)) (pc1 := 291) (lv1 := [(0, .ref a0), (1, .ref a1), (2, .ref a2), (3, .int i3)]) rfl (by rw [h497]; rfl) rfl rfl ?_
        exact jt_300_291  (fn_300_18 n) ih a0 a1 a2 i3 w
      refine sm_br (fun h498 => ?_) (fun h498 => ?_)
      · refine sm_ts (off := (281)) (pc1 := 314) (lv1 := [(0, .ref a0), (1, .ref a1), (2, .ref a2), (3, .int i3)]) rfl (by rw [h498]; rfl) rfl rfl ?_
        exact jt_300_314  (fn_300_18 n) ih a0 a1 a2 i3 w
      refine sm_br (fun h499 => ?_) (fun h499 => ?_)
      · refine sm_ts (off := (294)) (pc1 := 327) (lv1 := [(0, .ref a0), (1, .ref a1), (2, .ref a2), (3, .int i3)]) rfl (by rw [h499]; rfl) rfl rfl ?_
        exact jt_300_327  (fn_300_18 n) ih a0 a1 a2 i3 w
      refine sm_br (fun h500 => ?_) (fun h500 => ?_)
      · refine sm_ts (off := (327)) (pc1 := 360) (lv1 := [(0, .ref a0), (1, .ref a1), (2, .ref a2), (3, .int i3)]) rfl (by rw [h500]; rfl) rfl rfl ?_
        exact jt_300_360  (fn_300_18 n) ih a0 a1 a2 i3 w
      refine sm_br (fun h501 => ?_) (fun h501 => ?_)
      · refine sm_ts (off := (360)) (pc1 := 393) (lv1 := [(0, .ref a0), (1, .ref a1), (2, .ref a2), (3, .int i3)]) rfl (by rw [h501]; rfl) rfl rfl ?_
        exact jt_300_393  (fn_300_18 n) ih a0 a1 a2 i3 w
      refine sm_br (fun h502 => ?_) (fun h502 => ?_)
      · refine sm_ts (off := (393)) (pc1 := 426) (lv1 := [(0, .ref a0), (1, .ref a1), (2, .ref a2), (3, .int i3)]) rfl (by rw [h502]; rfl) rfl rfl ?_
        exact jt_300_426  (fn_300_18 n) ih a0 a1 a2 i3 w
      refine sm_br (fun h503 => ?_) (fun h503 => ?_)
      · refine sm_ts (off := (426)) (pc1 := 459) (lv1 := [(0, .ref a0), (1, .ref a1), (2, .ref a2), (3, .int i3)]) rfl (by rw [h503]; rfl) rfl rfl ?_
        exact jt_300_459  (fn_300_18 n) ih a0 a1 a2 i3 w
      refine sm_br (fun h504 => ?_) (fun h504 => ?_)
      · refine sm_ts (off := (439)) (pc1 := 472) (lv1 := [(0, .ref a0), (1, .ref a1), (2, .ref a2), (3, .int i3)]) rfl (by rw [h504]; rfl) rfl rfl ?_
        exact jt_300_472  (fn_300_18 n) ih a0 a1 a2 i3 w
      refine sm_br (fun h505 => ?_) (fun h505 => ?_)
      · refine sm_ts (off := (482)) (pc1 := 515) (lv1 := [(0, .ref a0), (1, .ref a1), (2, .ref a2), (3, .int i3)]) rfl (by rw [h505]; rfl) rfl rfl ?_
        exact jt_300_515  (fn_300_18 n) ih a0 a1 a2 i3 w
      refine sm_br (fun h506 => ?_) (fun h506 => ?_)
      · refine sm_ts (off := (515)) (pc1 := 548) (lv1 := [(0, .ref a0), (1, .ref a1), (2, .ref a2), (3, .int i3)]) rfl (by rw [h506]; rfl) rfl rfl ?_
        exact jt_300_548  (fn_300_18 n) ih a0 a1 a2 i3 w
      refine sm_br (fun h507 => ?_) (fun h507 => ?_)
      · refine sm_ts (off := (558)) (pc1 := 591) (lv1 := [(0, .ref a0), (1, .ref a1), (2, .ref a2), (3, .int i3)]) rfl (by rw [h507]; rfl) rfl rfl ?_
        exact jt_300_591  (fn_300_18 n) ih a0 a1 a2 i3 w
      refine sm_br (fun h508 => ?_) (fun h508 => ?_)
      · refine sm_ts (off := (581)) (pc1 := 614) (lv1 := [(0, .ref a0), (1, .ref a1), (2, .ref a2), (3, .int i3)]) rfl (by rw [h508]; rfl) rfl rfl ?_
        exact jt_300_614  (fn_300_18 n) ih a0 a1 a2 i3 w
      refine sm_br (fun h509 => ?_) (fun h509 => ?_)
      · refine sm_ts (off := (614)) (pc1 := 647) (lv1 := [(0, .ref a0), (1, .ref a1), (2, .ref a2), (3, .int i3)]) rfl (by rw [h509]; rfl) rfl rfl ?_
        exact jt_300_647  (fn_300_18 n) ih a0 a1 a2 i3 w
      refine sm_br (fun h510 => ?_) (fun h510 => ?_)
      · refine sm_ts (off := (657)) (pc1 := 690) (lv1 := [(0, .ref a0), (1, .ref a1), (2, .ref a2), (3, .int i3)]) rfl (by rw [h510]; rfl) rfl rfl ?_
        exact jt_300_690  (fn_300_18 n) ih a0 a1 a2 i3 w
      refine sm_br (fun h511 => ?_) (fun h511 => ?_)
      · refine sm_ts (off := (690)) (pc1 := 723) (lv1 := [(0, .ref a0), (1, .ref a1), (2, .ref a2), (3, .int i3)]) rfl (by rw [h511]; rfl) rfl rfl ?_
        exact jt_300_723  (fn_300_18 n) ih a0 a1 a2 i3 w
      refine sm_br (fun h512 => ?_) (fun h512 => ?_)
      · refine sm_ts (off := (713)) (pc1 := 746) (lv1 := [(0, .ref a0), (1, .ref a1), (2, .ref a2), (3, .int i3)]) rfl (by rw [h512]; rfl) rfl rfl ?_
        exact jt_300_746  (fn_300_18 n) ih a0 a1 a2 i3 w
      refine sm_br (fun h513 => ?_) (fun h513 => ?_)
      · refine sm_ts (off := (756)) (pc1 := 789) (lv1 := [(0, .ref a0), (1, .ref a1), (2, .ref a2), (3, .int i3)]) rfl (by rw [h513]; rfl) rfl rfl ?_
        exact jt_300_789  (fn_300_18 n) ih a0 a1 a2 i3 w
      refine sm_br (fun h514 => ?_) (fun h514 => ?_)
      · refine sm_ts (off := (779)) (pc1 := 812) (lv1 := [(0, .ref a0), (1, .ref a1), (2, .ref a2), (3, .int i3)]) rfl (by rw [h514]; rfl) rfl rfl ?_
        exact jt_300_812  (fn_300_18 n) ih a0 a1 a2 i3 w
      refine sm_br (fun h515 => ?_) (fun h515 => ?_)
      · refine sm_ts (off := (792)) (pc1 := 825) (lv1 := [(0, .ref a0), (1, .ref a1), (2, .ref a2), (3, .int i3)]) rfl (by rw [h515]; rfl) rfl rfl ?_
        exact jt_300_825  (fn_300_18 n) ih a0 a1 a2 i3 w
      refine sm_br (fun h516 => ?_) (fun h516 => ?_)
      · refine sm_ts (off := (845)) (pc1 := 878) (lv1 := [(0, .ref a0), (1, .ref a1), (2, .ref a2), (3, .int i3)]) rfl (by rw [h516]; rfl) rfl rfl ?_
        exact jt_300_878  (fn_300_18 n) ih a0 a1 a2 i3 w
      refine sm_br (fun h517 => ?_) (fun h517 => ?_)
      · refine sm_ts (off := (868)) (pc1 := 901) (lv1 := [(0, .ref a0), (1, .ref a1), (2, .ref a2), (3, .int i3)]) rfl (by rw [h517]; rfl) rfl rfl ?_
        exact jt_300_901  (fn_300_18 n) ih a0 a1 a2 i3 w
      refine sm_br (fun h518 => ?_) (fun h518 => ?_)
      · refine sm_ts (off := (901)) (pc1 := 934) (lv1 := [(0, .ref a0), (1, .ref a1), (2, .ref a2), (3, .int i3)]) rfl (by rw [h518]; rfl) rfl rfl ?_
        exact jt_300_934  (fn_300_18 n) ih a0 a1 a2 i3 w
      refine sm_br (fun h519 => ?_) (fun h519 => ?_)
      · refine sm_ts (off := (934)) (pc1 := 967) (lv1 := [(0, .ref a0), (1, .ref a1), (2, .ref a2), (3, .int i3)]) rfl (by rw [h519]; rfl) rfl rfl ?_
        exact jt_300_967  (fn_300_18 n) ih a0 a1 a2 i3 w
      refine sm_br (fun h520 => ?_) (fun h520 => ?_)
      · refine sm_ts (off := (957)) (pc1 := 990) (lv1 := [(0, .ref a0), (1, .ref a1), (2, .ref a2), (3, .int i3)]) rfl (by rw [h520]; rfl) rfl rfl ?_
        exact jt_300_990  (fn_300_18 n) ih a0 a1 a2 i3 w
      refine sm_br (fun h521 => ?_) (fun h521 => ?_)
      · refine sm_ts (off := (980)) (pc1 := 1013) (lv1 := [(0, .ref a0), (1, .ref a1), (2, .ref a2), (3, .int i3)]) rfl (by rw [h521]; rfl) rfl rfl ?_
        exact jt_300_1013  (fn_300_18 n) ih a0 a1 a2 i3 w
      refine sm_br (fun h522 => ?_) (fun h522 => ?_)
      · refine sm_ts (off := (1013)) (pc1 := 1046) (lv1 := [(0, .ref a0), (1, .ref a1), (2, .ref a2), (3, .int i3)]) rfl (by rw [h522]; rfl) rfl rfl ?_
        exact jt_300_1046  (fn_300_18 n) ih a0 a1 a2 i3 w
      refine sm_br (fun h523 => ?_) (fun h523 => ?_)
      · refine sm_ts (off := (1066)) (pc1 := 1099) (lv1 := [(0, .ref a0), (1, .ref a1), (2, .ref a2), (3, .int i3)]) rfl (by rw [h523]; rfl) rfl rfl ?_
        exact jt_300_1099  (fn_300_18 n) ih a0 a1 a2 i3 w
      refine sm_br (fun h524 => ?_) (fun h524 => ?_)
      · refine sm_ts (off := (1089)) (pc1 := 1122) (lv1 := [(0, .ref a0), (1, .ref a1), (2, .ref a2), (3, .int i3)]) rfl (by rw [h524]; rfl) rfl rfl ?_
        exact jt_300_1122  (fn_300_18 n) ih a0 a1 a2 i3 w
      refine sm_br (fun h525 => ?_) (fun h525 => ?_)
      · refine sm_ts (off := (1152)) (pc1 := 1185) (lv1 := [(0, .ref a0), (1, .ref a1), (2, .ref a2), (3, .int i3)]) rfl (by rw [h525]; rfl) rfl rfl ?_
        exact jt_300_1185  (fn_300_18 n) ih a0 a1 a2 i3 w
      refine sm_br (fun h526 => ?_) (fun h526 => ?_)
      · refine sm_ts (off := (1185)) (pc1 := 1218) (lv1 := [(0, .ref a0), (1, .ref a1), (2, .ref a2), (3, .int i3)]) rfl (by rw [h526]; rfl) rfl rfl ?_
        exact jt_300_1218  (fn_300_18 n) ih a0 a1 a2 i3 w
      refine sm_br (fun h527 => ?_) (fun h527 => ?_)
      · refine sm_ts (off := (1208)) (pc1 := 1241) (lv1 := [(0, .ref a0), (1, .ref a1), (2, .ref a2), (3, .int i3)]) rfl (by rw [h527]; rfl) rfl rfl ?_
        exact jt_300_1241  (fn_300_18 n) ih a0 a1 a2 i3 w
      refine sm_br (fun h528 => ?_) (fun h528 => ?_)
      · refine sm_ts (off := (1241)) (pc1 := 1274) (lv1 := [(0, .ref a0), (1, .ref a1), (2, .ref a2), (3, .int i3)]) rfl (by rw [h528]; rfl) rfl rfl ?_
        exact jt_300_1274  (fn_300_18 n) ih a0 a1 a2 i3 w
      refine sm_br (fun h529 => ?_) (fun h529 => ?_)
      · refine sm_ts (off := (1284)) (pc1 := 1317) (lv1 := [(0, .ref a0), (1, .ref a1), (2, .ref a2), (3, .int i3)]) rfl (by rw [h529]; rfl) rfl rfl ?_
        exact jt_300_1317  (fn_300_18 n) ih a0 a1 a2 i3 w
      refine sm_br (fun h530 => ?_) (fun h530 => ?_)
      · refine sm_ts (off := (1317)) (pc1 := 1350) (lv1 := [(0, .ref a0), (1, .ref a1), (2, .ref a2), (3, .int i3)]) rfl (by rw [h530]; rfl) rfl rfl ?_
        exact jt_300_1350  (fn_300_18 n) ih a0 a1 a2 i3 w
      refine sm_br (fun h531 => ?_) (fun h531 => ?_)
      · refine sm_ts (off := (1370)) (pc1 := 1403) (lv1 := [(0, .ref a0), (1, .ref a1), (2, .ref a2), (3, .int i3)]) rfl (by rw [h531]; rfl) rfl rfl ?_
        exact jt_300_1403  (fn_300_18 n) ih a0 a1 a2 i3 w
      refine sm_br (fun h532 => ?_) (fun h532 => ?_)
      · refine sm_ts (off := (1433)) (pc1 := 1466) (lv1 := [(0, .ref a0), (1, .ref a1), (2, .ref a2), (3, .int i3)]) rfl (by rw [h532]; rfl) rfl rfl ?_
        exact jt_300_1466  (fn_300_18 n) ih a0 a1 a2 i3 w
      refine sm_br (fun h533 => ?_) (fun h533 => ?_)
      · refine sm_ts (off := (1476)) (pc1 := 1509) (lv1 := [(0, .ref a0), (1, .ref a1), (2, .ref a2), (3, .int i3)]) rfl (by rw [h533]; rfl) rfl rfl ?_
        exact jt_300_1509  (fn_300_18 n) ih a0 a1 a2 i3 w
      refine sm_br (fun h534 => ?_) (fun h534 => ?_)
      · refine sm_ts (off := (1519)) (pc1 := 1552) (lv1 := [(0, .ref a0), (1, .ref a1), (2, .ref a2), (3, .int i3)]) rfl (by rw [h534]; rfl) rfl rfl ?_
        exact jt_300_1552  (fn_300_18 n) ih a0 a1 a2 i3 w
      refine sm_br (fun h535 => ?_) (fun h535 => ?_)
      · refine sm_ts (off := (1562)) (pc1 := 1595) (lv1 := [(0, .ref a0), (1, .ref a1), (2, .ref a2), (3, .int i3)]) rfl (by rw [h535]; rfl) rfl rfl ?_
        exact jt_300_1595  (fn_300_18 n) ih a0 a1 a2 i3 w
      refine sm_br (fun h536 => ?_) (fun h536 => ?_)
      · refine sm_ts (off := (1615)) (pc1 := 1648) (lv1 := [(0, .ref a0), (1, .ref a1), (2, .ref a2), (3, .int i3)]) rfl (by rw [h536]; rfl) rfl rfl ?_
        exact jt_300_1648  (fn_300_18 n) ih a0 a1 a2 i3 w
      refine sm_br (fun h537 => ?_) (fun h537 => ?_)
      · refine sm_ts (off := (1658)) (pc1 := 1691) (lv1 := [(0, .ref a0), (1, .ref a1), (2, .ref a2), (3, .int i3)]) rfl (by rw [h537]; rfl) rfl rfl ?_
        exact jt_300_1691  (fn_300_18 n) ih a0 a1 a2 i3 w
      refine sm_br (fun h538 => ?_) (fun h538 => ?_)
      · refine sm_ts (off := (1681)) (pc1 := 1714) (lv1 := [(0, .ref a0), (1, .ref a1), (2, .ref a2), (3, .int i3)]) rfl (by rw [h538]; rfl) rfl rfl ?_
        exact jt_300_1714  (fn_300_18 n) ih a0 a1 a2 i3 w
      refine sm_br (fun h539 => ?_) (fun h539 => ?_)
      · refine sm_ts (off := (1694)) (pc1 := 1727) (lv1 := [(0, .ref a0), (1, .ref a1), (2, .ref a2), (3, .int i3)]) rfl (by rw [h539]; rfl) rfl rfl ?_
        exact jt_300_1727  (fn_300_18 n) ih a0 a1 a2 i3 w
      refine sm_br (fun h540 => ?_) (fun h540 => ?_)
      · refine sm_ts (off := (1717)) (pc1 := 1750) (lv1 := [(0, .ref a0), (1, .ref a1), (2, .ref a2), (3, .int i3)]) rfl (by rw [h540]; rfl) rfl rfl ?_
        exact jt_300_1750  (fn_300_18 n) ih a0 a1 a2 i3 w
      refine sm_ts (off := (1740)) (pc1 := 1773) (lv1 := [(0, .ref a0), (1, .ref a1), (2, .ref a2), (3, .int i3)]) rfl (cm_tsd (n := 45) rfl rfl (fun j hj => match j, hj with | 0, _ => .inr (cm_ne h479 rfl) | 1, _ => .inr (cm_ne h497 rfl) | 2, _ => .inr (cm_ne h498 rfl) | 3, _ => .inr (cm_ne h499 rfl) | 4, _ => .inr (cm_ne h500 rfl) | 5, _ => .inr (cm_ne h501 rfl) | 6, _ => .inr (cm_ne h502 rfl) | 7, _ => .inr (cm_ne h503 rfl) | 8, _ => .inr (cm_ne h504 rfl) | 9, _ => .inr (cm_ne h505 rfl) | 10, _ => .inr (cm_ne h506 rfl) | 11, _ => .inr (cm_ne h507 rfl) | 12, _ => .inr (cm_ne h508 rfl) | 13, _ => .inr (cm_ne h509 rfl) | 14, _ => .inr (cm_ne h510 rfl) | 15, _ => .inr (cm_ne h511 rfl) | 16, _ => .inr (cm_ne h512 rfl) | 17, _ => .inr (cm_ne h513 rfl) | 18, _ => .inr (cm_ne h514 rfl) | 19, _ => .inr (cm_ne h515 rfl) | 20, _ => .inr (cm_ne h516 rfl) | 21, _ => .inr (cm_ne h517 rfl) | 22, _ => .inr (cm_ne h518 rfl) | 23, _ => .inr (cm_ne h519 rfl) | 24, _ => .inr (cm_ne h520 rfl) | 25, _ => .inr (cm_ne h521 rfl) | 26, _ => .inr (cm_ne h522 rfl) | 27, _ => .inr (cm_ne h523 rfl) | 28, _ => .inr (cm_ne h524 rfl) | 29, _ => .inr (cm_ne h525 rfl) | 30, _ => .inr (cm_ne h526 rfl) | 31, _ => .inr (cm_ne h527 rfl) | 32, _ => .inr (cm_ne h528 rfl) | 33, _ => .inr (cm_ne h529 rfl) | 34, _ => .inr (cm_ne h530 rfl) | 35, _ => .inr (cm_ne h531 rfl) | 36, _ => .inr (cm_ne h532 rfl) | 37, _ => .inr (cm_ne h533 rfl) | 38, _ => .inr (cm_ne h534 rfl) | 39, _ => .inr (cm_ne h535 rfl) | 40, _ => .inr (cm_ne h536 rfl) | 41, _ => .inr (cm_ne h537 rfl) | 42, _ => .inr (cm_ne h538 rfl) | 43, _ => .inr (cm_ne h539 rfl) | 44, _ => .inr (cm_ne h540 rfl) | _ + 45, h => absurd h (by omega))) rfl rfl ?_
      exact jt_300_1773  (fn_300_18 n) ih a0 a1 a2 i3 w
