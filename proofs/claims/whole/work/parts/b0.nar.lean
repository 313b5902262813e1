/-! bytes stay narrow: the reference's tape -/
def NB (w : cm_W) : Prop := 112 < cm_sz w ∧ w.1 112 = some (.inr (.byte, 900)) ∧ ∀ k, vp_nar .byte (w.2.1 112 k) = w.2.1 112 k
theorem nar_nar (x : Int32) : vp_nar .byte (vp_nar .byte x) = vp_nar .byte x := by
  have e : ∀ x : Int32, vp_nar .byte x = x.toInt8.toInt32 := fun x => rfl
  rw [e, e]
  congr 1
  exact Int8.toInt8_toInt32 _
theorem NB.eq {w w' : cm_W} (h : NB w) (h1 : w'.1 = w.1) (hz : cm_sz w' = cm_sz w) (hI : w'.2.1 112 = w.2.1 112) : NB w' := by
  unfold NB
  rw [h1, hz, hI]; exact h
theorem NB.mk {w : cm_W} {x : cm_S} {n : Nat} (h : NB w) : NB (cm_mk w x n) := by
  have hne : 112 ≠ cm_sz w := Nat.ne_of_lt h.1
  refine ⟨Nat.lt_succ_of_lt h.1, ?_, fun k => ?_⟩
  · show (if 112 = cm_sz w then some x else w.1 112) = _
    rw [if_neg hne]; exact h.2.1
  · show vp_nar .byte (if 112 = cm_sz w then 0 else w.2.1 112 k) = if 112 = cm_sz w then 0 else w.2.1 112 k
    rw [if_neg hne]; exact h.2.2 k
set_option maxHeartbeats 4000000 in
theorem cm_ex_nb {G : cm_G} {y pc : Nat} {d : cm_D} {lv : cm_lv} {st : List Value} {w : cm_W} {z : cm_Z} (hN : NB w) (h : cm_ex G y pc d lv st w = some z) : NB z.2.2.2 := by
  have id0 : z.2.2.2 = w → NB z.2.2.2 := fun e => by rw [e]; exact hN
  obtain ⟨i, len, ops, kv⟩ := d
  cases i <;> simp only [cm_ex] at h
  case putfield idx =>
    split at h
    · split at h
      · rename_i hh
        obtain ⟨w', h1, rfl⟩ := Option.map_eq_some_iff.mp h
        obtain ⟨-, ⟨e1, e2, e3⟩, ⟨e4, e5, e6⟩, -⟩ := cm_pv_spec (fun x => x) h1
        refine hN.eq e1 e2 (e4 112 fun e => ?_)
        rw [← e] at hh
        rw [hN.2.1] at hh
        cases hh.1
      · cases h
    · cases h
  case tableswitch dflt lo hi offs =>
    split at h
    · obtain ⟨o, h1, h2⟩ := Option.bind_eq_some_iff.mp h
      obtain ⟨t, h3, rfl⟩ := Option.map_eq_some_iff.mp h2
      exact id0 rfl
    · cases h
  case new idx =>
    split at h
    · split at h
      · cases h; exact hN.mk
      · cases h
    · cases h
  case newarray t =>
    split at h
    · split at h
      · cases h; exact hN.mk
      · cases h
    · cases h
  case anewarray idx =>
    split at h
    · split at h
      · split at h
        · cases h; exact hN.mk
        · cases h
      · cases h
    · cases h
  case iastore =>
    split at h
    · split at h
      · rename_i hs
        split at h
        · cases h
          refine hN.eq rfl rfl (cm_up_ne _ _ _ _ 112 fun e => ?_)
          rw [← e, hN.2.1] at hs
          cases hs
        · cases h
      · cases h
    · cases h
  case bastore =>
    split at h
    · split at h
      · split at h
        · cases h
          refine ⟨hN.1, hN.2.1, fun k => ?_⟩
          show vp_nar .byte (if 112 = _ ∧ k = _ then vp_nar .byte _ else w.2.1 112 k) = if 112 = _ ∧ k = _ then vp_nar .byte _ else w.2.1 112 k
          split
          · exact nar_nar _
          · exact hN.2.2 k
        · cases h
      · cases h
    · cases h
  case lastore =>
    split at h
    · split at h
      · split at h
        · cases h
          exact hN.eq rfl rfl rfl
        · cases h
      · cases h
    · cases h
  case aastore =>
    split at h
    · split at h
      · split at h
        · cases h
          exact hN.eq rfl rfl rfl
        · cases h
      · cases h
    · cases h
  all_goals first
    | (exact id0 (cm_i2_w h (fun _ => rfl)))
    | skip
  all_goals (
    repeat' split at h
    all_goals first
      | (cases h; done)
      | (exact id0 (cm_if_w h))
      | (cases h; exact id0 rfl)
      | (obtain ⟨s, h1, rfl⟩ := Option.map_eq_some_iff.mp h; exact id0 rfl))
theorem cm_at_nb {G : cm_G} {y : Nat} {ops : List Nat} {st : List Value} {w : cm_W} {q : List Value × cm_W} (hN : NB w) (h : cm_at G y ops st w = some q) : NB q.2 := by
  unfold cm_at at h
  split at h
  · split at h
    · cases h; exact hN
    · cases h
  · split at h
    · rename_i hs1 hs2
      split at h
      · cases h
        refine hN.eq rfl rfl (cm_cp_ne _ _ _ _ _ _ 112 fun e => ?_)
        rw [← e, hN.2.1] at hs2
        cases hs2
      · cases h
    · split at h
      · cases h
        exact hN.eq rfl rfl rfl
      · cases h
    · cases h
  · split at h
    · cases h; exact hN
    · cases h
  · split at h
    · cases h; exact hN
    · cases h
  · cases h
theorem cm_run_nb {G : cm_G} : ∀ (n y pc : Nat) (lv : cm_lv) (st : List Value) (w : cm_W) (r : Option Value × cm_W), NB w → cm_run G n y pc lv st w = some r → NB r.2 := by
  intro n
  induction n with
  | zero => intro y pc lv st w r _ h; cases h
  | succ n ih =>
    intro y pc lv st w r hN h
    unfold cm_run at h
    split at h
    · cases h
    · split at h
      · cases h; exact hN
      · split at h
        · split at h
          · rename_i q hq
            exact ih _ _ _ _ _ _ (cm_at_nb hN hq) h
          · split at h
            · cases h
            · split at h
              · split at h
                · cases h
                · rename_i r1 h1
                  exact ih _ _ _ _ _ _ (ih _ _ _ _ _ _ hN h1) h
              · cases h
        · split at h
          · cases h
          · rename_i z hz
            exact ih _ _ _ _ _ _ (cm_ex_nb hN hz) h
theorem nb_of {y : Nat} {av : List Value} {w : cm_W} {o : Option (Option Value × cm_W)} {r : Option Value × cm_W} (h : cm_ca cm_g y av w o) (ho : o = some r) (hN : NB w) : NB r.2 := by
  obtain ⟨n, hn⟩ := h.2 r ho
  exact cm_run_nb n y 0 _ _ w r hN hn
