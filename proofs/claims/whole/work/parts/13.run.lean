/-! a whole run of the clean machine is a run of the machine -/
theorem cm_sx_of {w : Jvm.Cond} (hw : cm_sx w = true) {A : Array Value} {U : State} (h : w.before A U = true) : va_Nw w U := by
  unfold cm_sx at hw
  split at hw
  · exact h
  · exact va_Nw.of rfl h
  · cases hw
theorem cm_sx_use {w : Jvm.Cond} (hw : cm_sx w = true) {A : Array Value} {U : State} (h : va_Nw w U) : w.before A U = true := by
  unfold cm_sx at hw
  split at hw
  · exact h
  · exact va_Nw.use rfl h
  · cases hw
theorem cm_sx_warm {w : Jvm.Cond} (hw : cm_sx w = true) {s U : State} (hW : s.WarmedH U.vm) (h : va_Nw w s) : va_Nw w U := by
  unfold cm_sx at hw
  split at hw
  · exact va_AO.moved hW.alike h
  · exact va_Nw.warmM hW h
  · cases hw
theorem cm_re_inv {G : cm_G} {y : Nat} {i : Instr} {st : List Value} {r : Option Value} (h : cm_re G y i st = some r) : st = r.toList ∧ cm_sw i = false ∧ cm_ln i = 1 := by
  unfold cm_re at h
  split at h
  · split at h
    · cases h; exact ⟨rfl, rfl, rfl⟩
    · cases h
  · split at h
    · cases h; exact ⟨rfl, rfl, rfl⟩
    · cases h
  · split at h
    · cases h; exact ⟨rfl, rfl, rfl⟩
    · cases h
  · cases h
theorem cm_pv_sz {w w' : cm_W} {ty : FieldType} {a k : Nat} {v : Value} (h : cm_pv w ty a k v = some w') : cm_sz w' = cm_sz w ∧ cm_ns w' = cm_ns w := (cm_pv_spec (fun x => x) h).2.1.2
theorem cm_i2_w {α : Type} {o : Option (List Value)} {f : List Value → cm_Z} {z : cm_Z} {w : cm_W} (h : o.map f = some z) (hf : ∀ s, (f s).2.2.2 = w) : z.2.2.2 = w := by
  obtain ⟨s, -, rfl⟩ := Option.map_eq_some_iff.mp h
  exact hf s
theorem cm_if_w {pc : Nat} {off : Int} {P : Prop} [Decidable P] {lv : cm_lv} {r : List Value} {w : cm_W} {z : cm_Z} (hex : cm_if pc off P lv r w = some z) : z.2.2.2 = w := by
  obtain ⟨t, -, h2, h3⟩ := cm_if_inv hex
  by_cases h : P
  · rw [h2 h]
  · rw [h3 h]
set_option maxHeartbeats 4000000 in
theorem cm_ex_mono {G : cm_G} {y pc : Nat} {d : cm_D} {lv : cm_lv} {st : List Value} {w : cm_W} {z : cm_Z} (h : cm_ex G y pc d lv st w = some z) : cm_sz w ≤ cm_sz z.2.2.2 ∧ cm_ns w ≤ cm_ns z.2.2.2 := by
  have id0 : z.2.2.2 = w → cm_sz w ≤ cm_sz z.2.2.2 ∧ cm_ns w ≤ cm_ns z.2.2.2 := fun e => by rw [e]; exact ⟨Nat.le_refl _, Nat.le_refl _⟩
  obtain ⟨i, len, ops, kv⟩ := d
  cases i <;> simp only [cm_ex] at h
  case putfield idx =>
    split at h
    · split at h
      · obtain ⟨w', h1, rfl⟩ := Option.map_eq_some_iff.mp h
        obtain ⟨e1, e2⟩ := cm_pv_sz h1
        dsimp only
        rw [e1, e2]
        exact ⟨Nat.le_refl _, Nat.le_refl _⟩
      · cases h
    · cases h
  case tableswitch dflt lo hi offs =>
    split at h
    · obtain ⟨o, h1, h2⟩ := Option.bind_eq_some_iff.mp h
      obtain ⟨t, h3, rfl⟩ := Option.map_eq_some_iff.mp h2
      exact id0 rfl
    · cases h
  all_goals first
    | (exact id0 (cm_i2_w h (fun _ => rfl)))
    | skip
  all_goals (
    repeat' split at h
    all_goals first
      | (cases h; done)
      | (exact id0 (cm_if_w h))
      | (cases h; exact id0 rfl)
      | (obtain ⟨s, h1, rfl⟩ := Option.map_eq_some_iff.mp h; exact id0 rfl)
      | (cases h; exact ⟨Nat.le_refl _, Nat.le_refl _⟩)
      | (cases h; exact ⟨Nat.le_succ _, Nat.le_add_right _ _⟩))
theorem cm_at_sz {G : cm_G} {y : Nat} {ops : List Nat} {st : List Value} {w : cm_W} {q : List Value × cm_W} (h : cm_at G y ops st w = some q) : cm_sz q.2 = cm_sz w ∧ cm_ns q.2 = cm_ns w := by
  unfold cm_at at h
  repeat' split at h
  all_goals first
    | (cases h; done)
    | (cases h; exact ⟨rfl, rfl⟩)
theorem cm_mono {G : cm_G} : ∀ (n y pc : Nat) (lv : cm_lv) (st : List Value) (w : cm_W) (r : Option Value × cm_W), cm_run G n y pc lv st w = some r → cm_sz w ≤ cm_sz r.2 ∧ cm_ns w ≤ cm_ns r.2 := by
  intro n
  induction n with
  | zero => intro y pc lv st w r h; cases h
  | succ n ih =>
    intro y pc lv st w r h
    unfold cm_run at h
    split at h
    · cases h
    · split at h
      · cases h; exact ⟨Nat.le_refl _, Nat.le_refl _⟩
      · split at h
        · split at h
          · rename_i q hq
            obtain ⟨e1, e2⟩ := cm_at_sz hq
            have := ih _ _ _ _ _ _ h
            rw [e1, e2] at this
            exact this
          · split at h
            · cases h
            · split at h
              · split at h
                · cases h
                · rename_i r1 h1
                  have a := ih _ _ _ _ _ _ h1
                  have b := ih _ _ _ _ _ _ h
                  exact ⟨Nat.le_trans a.1 b.1, Nat.le_trans a.2 b.2⟩
              · cases h
        · split at h
          · cases h
          · rename_i z hz
            have a := cm_ex_mono hz
            have b := ih _ _ _ _ _ _ h
            exact ⟨Nat.le_trans a.1 b.1, Nat.le_trans a.2 b.2⟩
