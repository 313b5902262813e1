/-! the law from its entry to its loop -/
theorem lw_pre {w r1 r2 : cm_W} (hz : cm_sz w = 2) (h1 : cm_run cm_g 3000 137 0 [(0, .ref 2)] [] (cm_mk w (.inl 10) 15) = some (none, r1)) (hz1 : cm_sz r1 = 96) (h2 : cm_run cm_g 3000 193 0 [(0, .ref 96)] [] (cm_mk r1 (.inl 11) 78) = some (none, r2)) {r : Option Value × cm_W} (k : rs cm_g 300 18 [(0, .ref 0), (1, .ref 2), (2, .ref 96), (3, .int 0)] [] r2 r) : rs cm_g 300 0 [(0, .ref 0)] [] w r := by
  have me : cm_me cm_g 300 ck_300 kq_300 := cm_me_of rfl rfl
  have c1 : sm cm_g 300 ck_300 kq_300 0 [(0, .ref 0)] [] w (some r) := by
    refine sm_x1 (z := (3, [(0, .ref 0)], [.ref (cm_sz w)], cm_mk w (.inl 10) 15)) rfl ?_
    rw [hz]
    show sm cm_g 300 ck_300 kq_300 3 [(0, .ref 0)] [.ref 2] (cm_mk w (.inl 10) 15) (some r)
    refine sm_seg 1 4 [(0, .ref 0)] [.ref 2, .ref 2] rfl ?_
    have e : (some r : Option (Option Value × cm_W)) = (((some r1 : Option cm_W).bind (fun _ => some r)).map (fun x => x)) := rfl
    rw [e]
    refine sm_call (y' := 137) (av := [.ref 2]) (rest := [.ref 2]) (g := cm_gV) rfl rfl rfl ?_ ⟨rfl, fun r' h => ?_⟩ fun q hq => ?_
    · show (if (cm_mk w (.inl 10) 15).1 2 = some (.inl 10) ∧ _ then some (137, [Value.ref 2], [Value.ref 2]) else none) = _
      rw [if_pos ⟨show (if 2 = w.2.2.2.2.1 then some (Sum.inl 10) else w.1 2) = some (Sum.inl 10) by rw [show w.2.2.2.2.1 = 2 from hz]; rfl, Nat.le_of_ble_eq_true rfl⟩]
    · cases h; exact ⟨3000, h1⟩
    · cases hq
      show sm cm_g 300 ck_300 kq_300 7 [(0, .ref 0)] [.ref 2] r1 (some r)
      refine sm_seg 1 8 [(1, .ref 2), (0, .ref 0)] [] rfl ?_
      refine sm_x1 (z := (11, [(1, .ref 2), (0, .ref 0)], [.ref (cm_sz r1)], cm_mk r1 (.inl 11) 78)) rfl ?_
      rw [hz1]
      show sm cm_g 300 ck_300 kq_300 11 [(1, .ref 2), (0, .ref 0)] [.ref 96] (cm_mk r1 (.inl 11) 78) (some r)
      refine sm_seg 1 12 [(1, .ref 2), (0, .ref 0)] [.ref 96, .ref 96] rfl ?_
      have e : (some r : Option (Option Value × cm_W)) = (((some r2 : Option cm_W).bind (fun _ => some r)).map (fun x => x)) := rfl
      rw [e]
      refine sm_call (y' := 193) (av := [.ref 96]) (rest := [.ref 96]) (g := cm_gV) rfl rfl rfl ?_ ⟨rfl, fun r' h => ?_⟩ fun q hq => ?_
      · show (if (cm_mk r1 (.inl 11) 78).1 96 = some (.inl 11) ∧ _ then some (193, [Value.ref 96], [Value.ref 96]) else none) = _
        rw [if_pos ⟨show (if 96 = r1.2.2.2.2.1 then some (Sum.inl 11) else r1.1 96) = some (Sum.inl 11) by rw [show r1.2.2.2.2.1 = 96 from hz1]; rfl, Nat.le_of_ble_eq_true rfl⟩]
      · cases h; exact ⟨3000, h2⟩
      · cases hq
        show sm cm_g 300 ck_300 kq_300 15 [(1, .ref 2), (0, .ref 0)] [.ref 96] r2 (some r)
        refine sm_seg 3 18 [(0, .ref 0), (1, .ref 2), (2, .ref 96), (3, .int 0)] [] rfl ?_
        exact fun _ r' h => by cases h; exact k
  exact c1 me r rfl
/-- the world at the law's entry: the script at 0, the reader's words at 1 -/
def lw_wl (j : Nat) : Int64 := match j with
  | 0 => 499967946343
  | 1 => 7825519
  | 2 => 439855377523
  | 3 => 1885432178
  | 4 => 461262647411
  | 5 => 512802514792
  | 6 => 495672453989
  | 7 => 126926742711411
  | 8 => 1717660018
  | 9 => 1851878757
  | 10 => 465558138734
  | 11 => 1650815860
  | 12 => 426952976750
  | 13 => 495925031534
  | _ => 0
def lw_w0 (xs : Nat → Int32) (L : Nat) : cm_W := ((fun a => if a = 0 then some (.inr (.int, L)) else if a = 1 then some (.inr (.long, 14)) else none), (fun a j => if a = 0 then xs j else 0), (fun a j => if a = 1 then lw_wl j else 0), (fun _ _ => none), 2, 0)
/-- behind both constructors: the layout, the script and the words as they were -/
def lw_st (xs : Nat → Int32) (L : Nat) (w : cm_W) : Prop := ly_ok w ∧ w.1 0 = some (.inr (.int, L)) ∧ w.1 1 = some (.inr (.long, 14)) ∧ (∀ j, w.2.1 0 j = xs j) ∧ ∀ j, w.2.2.1 1 j = lw_wl j
/-- the law's run out of its loop's function -/
theorem lw_reduce (xs : Nat → Int32) (L : Nat) (hH : ∀ w, lw_st xs L w → ∃ n w2, fn_300_18 n 0 2 96 0 w = some (true, w2) ∧ cm_sz w2 ≤ 600002 ∧ cm_ns w2 ≤ 7302249) : ∃ n w, cm_run cm_g n 300 0 [(0, .ref 0)] [] (lw_w0 xs L) = some (some (.int 1), w) ∧ cm_sz w ≤ 600002 ∧ cm_ns w ≤ 7302249 := by
  have hx : cm_xt ly_z (lw_w0 xs L) := ⟨rfl, rfl, fun a x h => by cases h⟩
  obtain ⟨r1, r2, h1, h2, hz1, hok⟩ := ly_two hx
  have f1 := cm_frame cm_rb_all _ _ _ _ _ _ _ h1
  have f2 := cm_frame cm_rb_all _ _ _ _ _ _ _ h2
  have m0 : ∀ a, a < 2 → r2.1 a = (lw_w0 xs L).1 a ∧ r2.2.1 a = (lw_w0 xs L).2.1 a ∧ r2.2.2.1 a = (lw_w0 xs L).2.2.1 a := by
    intro a ha
    have e1 := f1.2.2 a (show a < 2 + 1 by omega)
    have e2 := f2.2.2 a (show a < cm_sz r1 + 1 by omega)
    have c1 := e1.2 (Or.inr (Or.inr ha))
    have c2 := e2.2 (Or.inr (Or.inr ha))
    have k1 : (cm_mk (lw_w0 xs L) (.inl 10) 15).1 a = (lw_w0 xs L).1 a := if_neg (show ¬ a = 2 by omega)
    have k2 : (cm_mk r1 (.inl 11) 78).1 a = r1.1 a := if_neg (show ¬ a = cm_sz r1 by omega)
    have k3 : (cm_mk (lw_w0 xs L) (.inl 10) 15).2.1 a = (lw_w0 xs L).2.1 a := by funext j; exact if_neg (show ¬ a = 2 by omega)
    have k4 : (cm_mk r1 (.inl 11) 78).2.1 a = r1.2.1 a := by funext j; exact if_neg (show ¬ a = cm_sz r1 by omega)
    have k5 : (cm_mk (lw_w0 xs L) (.inl 10) 15).2.2.1 a = (lw_w0 xs L).2.2.1 a := by funext j; exact if_neg (show ¬ a = 2 by omega)
    have k6 : (cm_mk r1 (.inl 11) 78).2.2.1 a = r1.2.2.1 a := by funext j; exact if_neg (show ¬ a = cm_sz r1 by omega)
    exact ⟨e2.1.trans (k2.trans (e1.1.trans k1)), c2.1.trans (k4.trans (c1.1.trans k3)), c2.2.1.trans (k6.trans (c1.2.1.trans k5))⟩
  obtain ⟨a1, a2, a3⟩ := m0 0 (by omega)
  obtain ⟨b1, b2, b3⟩ := m0 1 (by omega)
  obtain ⟨n, w2, hn, hs1, hs2⟩ := hH r2 ⟨hok, a1, b1, fun j => congrFun a2 j, fun j => congrFun b3 j⟩
  have me : cm_me cm_g 300 ck_300 kq_300 := cm_me_of rfl rfl
  have hl := jt_300_18 n 0 2 96 0 r2 me (some (.int 1), w2) (by rw [hn]; rfl)
  obtain ⟨k, hk⟩ := lw_pre rfl h1 hz1 h2 hl
  exact ⟨k, w2, hk, hs1, hs2⟩
