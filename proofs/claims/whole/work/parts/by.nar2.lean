/-! bytes stay narrow, all of them, from the start -/
def NA (w : cm_W) : Prop := ∀ a n, a < cm_sz w → w.1 a = some (.inr (.byte, n)) → ∀ k, vp_nar .byte (w.2.1 a k) = w.2.1 a k
theorem NA.eq {w w' : cm_W} (h : NA w) (h1 : w'.1 = w.1) (hz : cm_sz w' = cm_sz w) (hI : ∀ a n, w.1 a = some (.inr (.byte, n)) → w'.2.1 a = w.2.1 a) : NA w' := by
  intro a n ha hs k
  rw [h1] at hs
  rw [hz] at ha
  rw [hI a n hs]
  exact h a n ha hs k
theorem NA.mk {w : cm_W} {x : cm_S} {n : Nat} (h : NA w) : NA (cm_mk w x n) := by
  intro a m ha hs k
  have ha : a < cm_sz w + 1 := ha
  have hs : (if a = cm_sz w then some x else w.1 a) = some (.inr (.byte, m)) := hs
  show vp_nar .byte (if a = cm_sz w then 0 else w.2.1 a k) = if a = cm_sz w then 0 else w.2.1 a k
  by_cases z : a = cm_sz w
  · rw [if_pos z]; rfl
  · rw [if_neg z] at hs ⊢
    exact h a m (by omega) hs k
set_option maxHeartbeats 4000000 in
theorem cm_ex_na {G : cm_G} {y pc : Nat} {d : cm_D} {lv : cm_lv} {st : List Value} {w : cm_W} {z : cm_Z} (hN : NA w) (h : cm_ex G y pc d lv st w = some z) : NA z.2.2.2 := by
  have id0 : z.2.2.2 = w → NA z.2.2.2 := fun e => by rw [e]; exact hN
  obtain ⟨i, len, ops, kv⟩ := d
  cases i <;> simp only [cm_ex] at h
  case putfield idx =>
    split at h
    · split at h
      · rename_i hh
        obtain ⟨w', h1, rfl⟩ := Option.map_eq_some_iff.mp h
        obtain ⟨-, ⟨e1, e2, e3⟩, ⟨e4, e5, e6⟩, -⟩ := cm_pv_spec (fun x => x) h1
        refine hN.eq e1 e2 (fun a n hs => e4 a fun e => ?_)
        rw [← e] at hh
        rw [hs] at hh
        cases hh.1
      · cases h
    · cases h
  case tableswitch dflt lo hi offs =>
    split at h
    · obtain ⟨o, h1, h2⟩ := Option.bind_eq_some_iff.mp h
      obtain ⟨t, h3, rfl⟩ := Option.map_eq_some_iff.mp h2
      exact id0 rfl
    · cases h
  case new idx =>
    split at h
    · split at h
      · cases h; exact hN.mk
      · cases h
    · cases h
  case newarray t =>
    split at h
    · split at h
      · cases h; exact hN.mk
      · cases h
    · cases h
  case anewarray idx =>
    split at h
    · split at h
      · split at h
        · cases h; exact hN.mk
        · cases h
      · cases h
    · cases h
  case iastore =>
    split at h
    · split at h
      · rename_i hs
        split at h
        · cases h
          refine hN.eq rfl rfl (fun a n hb => cm_up_ne _ _ _ _ a fun e => ?_)
          rw [← e, hb] at hs
          cases hs
        · cases h
      · cases h
    · cases h
  case bastore =>
    split at h
    · split at h
      · split at h
        · cases h
          intro a n ha hs k
          show vp_nar .byte (if a = _ ∧ k = _ then vp_nar .byte _ else w.2.1 a k) = if a = _ ∧ k = _ then vp_nar .byte _ else w.2.1 a k
          split
          · exact nar_nar _
          · exact hN a n ha hs k
        · cases h
      · cases h
    · cases h
  case lastore =>
    split at h
    · split at h
      · split at h
        · cases h
          exact hN.eq rfl rfl (fun _ _ _ => rfl)
        · cases h
      · cases h
    · cases h
  case aastore =>
    split at h
    · split at h
      · split at h
        · cases h
          exact hN.eq rfl rfl (fun _ _ _ => rfl)
        · cases h
      · cases h
    · cases h
  all_goals first
    | (exact id0 (cm_i2_w h (fun _ => rfl)))
    | skip
  all_goals (
    repeat' split at h
    all_goals first
      | (cases h; done)
      | (exact id0 (cm_if_w h))
      | (cases h; exact id0 rfl)
      | (obtain ⟨s, h1, rfl⟩ := Option.map_eq_some_iff.mp h; exact id0 rfl))
theorem cm_at_na {G : cm_G} {y : Nat} {ops : List Nat} {st : List Value} {w : cm_W} {q : List Value × cm_W} (hN : NA w) (h : cm_at G y ops st w = some q) : NA q.2 := by
  unfold cm_at at h
  split at h
  · split at h
    · cases h; exact hN
    · cases h
  · split at h
    · rename_i hs1 hs2
      split at h
      · cases h
        refine hN.eq rfl rfl (fun a n hb => cm_cp_ne _ _ _ _ _ _ a fun e => ?_)
        rw [← e, hb] at hs2
        cases hs2
      · cases h
    · split at h
      · cases h
        exact hN.eq rfl rfl (fun _ _ _ => rfl)
      · cases h
    · cases h
  · split at h
    · cases h; exact hN
    · cases h
  · split at h
    · cases h; exact hN
    · cases h
  · cases h
theorem cm_run_na {G : cm_G} : ∀ (n y pc : Nat) (lv : cm_lv) (st : List Value) (w : cm_W) (r : Option Value × cm_W), NA w → cm_run G n y pc lv st w = some r → NA r.2 := by
  intro n
  induction n with
  | zero => intro y pc lv st w r _ h; cases h
  | succ n ih =>
    intro y pc lv st w r hN h
    unfold cm_run at h
    split at h
    · cases h
    · split at h
      · cases h; exact hN
      · split at h
        · split at h
          · rename_i q hq
            exact ih _ _ _ _ _ _ (cm_at_na hN hq) h
          · split at h
            · cases h
            · split at h
              · split at h
                · cases h
                · rename_i r1 h1
                  exact ih _ _ _ _ _ _ (ih _ _ _ _ _ _ hN h1) h
              · cases h
        · split at h
          · cases h
          · rename_i z hz
            exact ih _ _ _ _ _ _ (cm_ex_na hN hz) h
/-- the law's run out of its loop's function, with the tape narrow at the start -/
theorem lw_reduce2 (xs : Nat → Int32) (L : Nat) (hH : ∀ w, lw_st xs L w → NB w → ∃ n w2, fn_300_18 n 0 2 96 0 w = some (true, w2) ∧ cm_sz w2 ≤ 600002 ∧ cm_ns w2 ≤ 7302249) : ∃ n w, cm_run cm_g n 300 0 [(0, .ref 0)] [] (lw_w0 xs L) = some (some (.int 1), w) ∧ cm_sz w ≤ 600002 ∧ cm_ns w ≤ 7302249 := by
  have hx : cm_xt ly_z (lw_w0 xs L) := ⟨rfl, rfl, fun a x h => by cases h⟩
  obtain ⟨r1, r2, h1, h2, hz1, hok⟩ := ly_two hx
  have f1 := cm_frame cm_rb_all _ _ _ _ _ _ _ h1
  have f2 := cm_frame cm_rb_all _ _ _ _ _ _ _ h2
  have m0 : ∀ a, a < 2 → r2.1 a = (lw_w0 xs L).1 a ∧ r2.2.1 a = (lw_w0 xs L).2.1 a ∧ r2.2.2.1 a = (lw_w0 xs L).2.2.1 a := by
    intro a ha
    have e1 := f1.2.2 a (show a < 2 + 1 by omega)
    have e2 := f2.2.2 a (show a < cm_sz r1 + 1 by omega)
    have c1 := e1.2 (Or.inr (Or.inr ha))
    have c2 := e2.2 (Or.inr (Or.inr ha))
    have k1 : (cm_mk (lw_w0 xs L) (.inl 10) 15).1 a = (lw_w0 xs L).1 a := if_neg (show ¬ a = 2 by omega)
    have k2 : (cm_mk r1 (.inl 11) 78).1 a = r1.1 a := if_neg (show ¬ a = cm_sz r1 by omega)
    have k3 : (cm_mk (lw_w0 xs L) (.inl 10) 15).2.1 a = (lw_w0 xs L).2.1 a := by funext j; exact if_neg (show ¬ a = 2 by omega)
    have k4 : (cm_mk r1 (.inl 11) 78).2.1 a = r1.2.1 a := by funext j; exact if_neg (show ¬ a = cm_sz r1 by omega)
    have k5 : (cm_mk (lw_w0 xs L) (.inl 10) 15).2.2.1 a = (lw_w0 xs L).2.2.1 a := by funext j; exact if_neg (show ¬ a = 2 by omega)
    have k6 : (cm_mk r1 (.inl 11) 78).2.2.1 a = r1.2.2.1 a := by funext j; exact if_neg (show ¬ a = cm_sz r1 by omega)
    exact ⟨e2.1.trans (k2.trans (e1.1.trans k1)), c2.1.trans (k4.trans (c1.1.trans k3)), c2.2.1.trans (k6.trans (c1.2.1.trans k5))⟩
  obtain ⟨a1, a2, a3⟩ := m0 0 (by omega)
  obtain ⟨b1, b2, b3⟩ := m0 1 (by omega)
  have na0 : NA (lw_w0 xs L) := by
    intro a n ha hs k
    by_cases z : a = 0
    · subst z
      have : (some (Sum.inr (FieldType.int, L)) : Option cm_S) = some (.inr (.byte, n)) := hs
      cases this
    · show vp_nar .byte (if a = 0 then xs k else 0) = if a = 0 then xs k else 0
      rw [if_neg z]; rfl
  have na2 : NA r2 := cm_run_na _ _ _ _ _ _ _ (NA.mk (cm_run_na _ _ _ _ _ _ _ na0.mk h1)) h2
  have nb2 : NB r2 := by
    have hs : r2.1 112 = some (.inr (.byte, 900)) := (hok.1 112 (by omega) (by omega)).trans rfl
    have hz : 112 < cm_sz r2 := by rw [hok.2.1.1]; omega
    exact ⟨hz, hs, na2 112 900 hz hs⟩
  obtain ⟨n, w2, hn, hs1, hs2⟩ := hH r2 ⟨hok, a1, b1, fun j => congrFun a2 j, fun j => congrFun b3 j⟩ nb2
  have me : cm_me cm_g 300 ck_300 kq_300 := cm_me_of rfl rfl
  have hl := jt_300_18 n 0 2 96 0 r2 me (some (.int 1), w2) (by rw [hn]; rfl)
  obtain ⟨k, hk⟩ := lw_pre rfl h1 hz1 h2 hl
  exact ⟨k, w2, hk, hs1, hs2⟩
/-- what the walk keeps besides the two objects: the script, the tape -/
def KEEP (w w' : cm_W) : Prop := (NB w → NB w') ∧ 143 ≤ cm_sz w' ∧ (∀ a, a < 143 → cm_sh w' a = cm_sh w a) ∧ (∀ j, cm_I w' 0 j = cm_I w 0 j)
theorem KEEP.rf {w : cm_W} (hz : 143 ≤ cm_sz w) : KEEP w w := ⟨fun h => h, hz, fun _ _ => rfl, fun _ => rfl⟩
theorem keep_of {y : Nat} {av : List Value} {w : cm_W} {o : Option (Option Value × cm_W)} {r : Option Value × cm_W} (h : cm_ca cm_g y av w o) (hz : 143 ≤ cm_sz w) (ho : o = some r) : KEEP w r.2 := by
  have F := cm_leaves h ho (lo := _) (hi := _) rfl
  have f0 := (F.2.2 0 (by omega)).2 (Or.inr (Or.inr (by omega)))
  exact ⟨fun hN => nb_of h ho hN, Nat.le_trans hz F.2.1.1, fun a ha => (F.2.2 a (by omega)).1, fun j => congrFun f0.1 j⟩
theorem keepI {y : Nat} {av : List Value} {w w1 : cm_W} {r : Int32} {o : Option (Int32 × cm_W)} (h : cm_ca cm_g y av w (o.map cm_gI)) (hz : 143 ≤ cm_sz w) (ho : o = some (r, w1)) : KEEP w w1 := keep_of h hz (r := cm_gI (r, w1)) (by rw [ho]; rfl)
theorem keepB {y : Nat} {av : List Value} {w w1 : cm_W} {r : Bool} {o : Option (Bool × cm_W)} (h : cm_ca cm_g y av w (o.map cm_gB)) (hz : 143 ≤ cm_sz w) (ho : o = some (r, w1)) : KEEP w w1 := keep_of h hz (r := cm_gB (r, w1)) (by rw [ho]; rfl)
theorem keepP {α : Type} {w w1 : cm_W} {r : α} {o : Option α} (hz : 143 ≤ cm_sz w) (ho : o.map (fun r => (r, w)) = some (r, w1)) : KEEP w w1 := by
  obtain ⟨x, h1, h2⟩ := Option.map_eq_some_iff.mp ho
  cases h2
  exact KEEP.rf hz
theorem pure_of {α : Type} {w w1 : cm_W} {r : α} {o : Option α} (ho : o.map (fun r => (r, w)) = some (r, w1)) : o = some r ∧ w1 = w := by
  obtain ⟨x, h1, h2⟩ := Option.map_eq_some_iff.mp ho
  cases h2
  exact ⟨h1, rfl⟩
