/-! the law from its entry to its loop -/
theorem lw_pre {w r1 r2 : cm_W} (hz : cm_sz w = 2) (h1 : cm_run cm_g 3000 137 0 [(0, .ref 2)] [] (cm_mk w (.inl 10) 15) = some (none, r1)) (hz1 : cm_sz r1 = 96) (h2 : cm_run cm_g 3000 193 0 [(0, .ref 96)] [] (cm_mk r1 (.inl 11) 78) = some (none, r2)) {r : Option Value × cm_W} (k : rs cm_g 300 18 [(0, .ref 0), (1, .ref 2), (2, .ref 96), (3, .int 0)] [] r2 r) : rs cm_g 300 0 [(0, .ref 0)] [] w r := by
  have me : cm_me cm_g 300 ck_300 kq_300 := cm_me_of rfl rfl
  have c1 : sm cm_g 300 ck_300 kq_300 0 [(0, .ref 0)] [] w (some r) := by
    refine sm_x1 (z := (3, [(0, .ref 0)], [.ref (cm_sz w)], cm_mk w (.inl 10) 15)) rfl ?_
    rw [hz]
    show sm cm_g 300 ck_300 kq_300 3 [(0, .ref 0)] [.ref 2] (cm_mk w (.inl 10) 15) (some r)
    refine sm_seg 1 4 [(0, .ref 0)] [.ref 2, .ref 2] rfl ?_
    have e : (some r : Option (Option Value × cm_W)) = (((some r1 : Option cm_W).bind (fun _ => some r)).map (fun x => x)) := rfl
    rw [e]
    refine sm_call (y' := 137) (av := [.ref 2]) (rest := [.ref 2]) (g := cm_gV) rfl rfl rfl ?_ ⟨rfl, fun r' h => ?_⟩ fun q hq => ?_
    · show (if (cm_mk w (.inl 10) 15).1 2 = some (.inl 10) ∧ _ then some (137, [Value.ref 2], [Value.ref 2]) else none) = _
      rw [if_pos ⟨show (if 2 = w.2.2.2.2.1 then some (Sum.inl 10) else w.1 2) = some (Sum.inl 10) by rw [show w.2.2.2.2.1 = 2 from hz]; rfl, Nat.le_of_ble_eq_true rfl⟩]
    · cases h; exact ⟨3000, h1⟩
    · cases hq
      show sm cm_g 300 ck_300 kq_300 7 [(0, .ref 0)] [.ref 2] r1 (some r)
      refine sm_seg 1 8 [(1, .ref 2), (0, .ref 0)] [] rfl ?_
      refine sm_x1 (z := (11, [(1, .ref 2), (0, .ref 0)], [.ref (cm_sz r1)], cm_mk r1 (.inl 11) 78)) rfl ?_
      rw [hz1]
      show sm cm_g 300 ck_300 kq_300 11 [(1, .ref 2), (0, .ref 0)] [.ref 96] (cm_mk r1 (.inl 11) 78) (some r)
      refine sm_seg 1 12 [(1, .ref 2), (0, .ref 0)] [.ref 96, .ref 96] rfl ?_
      have e : (some r : Option (Option Value × cm_W)) = (((some r2 : Option cm_W).bind (fun _ => some r)).map (fun x => x)) := rfl
      rw [e]
      refine sm_call (y' := 193) (av := [.ref 96]) (rest := [.ref 96]) (g := cm_gV) rfl rfl rfl ?_ ⟨rfl, fun r' h => ?_⟩ fun q hq => ?_
      · show (if (cm_mk r1 (.inl 11) 78).1 96 = some (.inl 11) ∧ _ then some (193, [Value.ref 96], [Value.ref 96]) else none) = _
        rw [if_pos ⟨show (if 96 = r1.2.2.2.2.1 then some (Sum.inl 11) else r1.1 96) = some (Sum.inl 11) by rw [show r1.2.2.2.2.1 = 96 from hz1]; rfl, Nat.le_of_ble_eq_true rfl⟩]
      · cases h; exact ⟨3000, h2⟩
      · cases hq
        show sm cm_g 300 ck_300 kq_300 15 [(1, .ref 2), (0, .ref 0)] [.ref 96] r2 (some r)
        refine sm_seg 3 18 [(0, .ref 0), (1, .ref 2), (2, .ref 96), (3, .int 0)] [] rfl ?_
        exact fun _ r' h => by cases h; exact k
  exact c1 me r rfl
