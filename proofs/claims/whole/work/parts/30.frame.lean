/-! what a run leaves as it was -/
def cm_rl (G : cm_G) (y : Nat) : Nat := (G.2.2.1 y).2.2.2.2.2.2.2.1
def cm_rh (G : cm_G) (y : Nat) : Nat := (G.2.2.1 y).2.2.2.2.2.2.2.2
def cm_ra (G : cm_G) (y : Nat) : Bool := decide (cm_rl G y = 2) && decide (cm_rh G y = 143)
/-- from w to w': only cells from lo to hi are written; no cell is made unless al -/
def cm_fw (lo hi : Nat) (al : Bool) (w w' : cm_W) : Prop := (al = false → w'.1 = w.1 ∧ cm_sz w' = cm_sz w ∧ cm_ns w' = cm_ns w) ∧ (cm_sz w ≤ cm_sz w' ∧ cm_ns w ≤ cm_ns w') ∧ ∀ a, a < cm_sz w → w'.1 a = w.1 a ∧ (a < lo ∨ hi ≤ a ∨ a < 2 → w'.2.1 a = w.2.1 a ∧ w'.2.2.1 a = w.2.2.1 a ∧ w'.2.2.2.1 a = w.2.2.2.1 a)
theorem cm_fw.rf (lo hi : Nat) (al : Bool) (w : cm_W) : cm_fw lo hi al w w := ⟨fun _ => ⟨rfl, rfl, rfl⟩, ⟨Nat.le_refl _, Nat.le_refl _⟩, fun _ _ => ⟨rfl, fun _ => ⟨rfl, rfl, rfl⟩⟩⟩
theorem cm_fw.tr {lo hi : Nat} {al : Bool} {w w1 w2 : cm_W} (h1 : cm_fw lo hi al w w1) (h2 : cm_fw lo hi al w1 w2) : cm_fw lo hi al w w2 := by
  obtain ⟨a1, b1, c1⟩ := h1
  obtain ⟨a2, b2, c2⟩ := h2
  refine ⟨fun h => ?_, ⟨Nat.le_trans b1.1 b2.1, Nat.le_trans b1.2 b2.2⟩, fun a ha => ?_⟩
  · obtain ⟨p1, p2, p3⟩ := a1 h
    obtain ⟨q1, q2, q3⟩ := a2 h
    exact ⟨q1.trans p1, q2.trans p2, q3.trans p3⟩
  · obtain ⟨p1, p2⟩ := c1 a ha
    obtain ⟨q1, q2⟩ := c2 a (Nat.lt_of_lt_of_le ha b1.1)
    refine ⟨q1.trans p1, fun h => ?_⟩
    obtain ⟨r1, r2, r3⟩ := p2 h
    obtain ⟨s1, s2, s3⟩ := q2 h
    exact ⟨s1.trans r1, s2.trans r2, s3.trans r3⟩
theorem cm_fw.sub {lo hi lo' hi' : Nat} {al al' : Bool} {w w1 : cm_W} (h : cm_fw lo' hi' al' w w1) (hal : al' = true → al = true) (hr : hi' ≤ lo' ∨ (lo ≤ lo' ∧ hi' ≤ hi)) : cm_fw lo hi al w w1 := by
  obtain ⟨a1, b1, c1⟩ := h
  refine ⟨fun h => a1 ?_, b1, fun a ha => ⟨(c1 a ha).1, fun h => (c1 a ha).2 ?_⟩⟩
  · cases al' with
    | false => rfl
    | true => rw [hal rfl] at h; exact h
  · omega
/-- a row's range of writing is within its method's -/
def cm_rb (G : cm_G) (y : Nat) (d : cm_D) : Bool := (match d.1 with
  | .new _ => cm_ra G y
  | .newarray _ => cm_ra G y
  | .anewarray _ => cm_ra G y
  | _ => true) && (match cm_to d.1 d.2.2.1 with
  | some y' => (decide (cm_rh G y' ≤ cm_rl G y') && !cm_ra G y') || (decide (cm_rl G y ≤ cm_rl G y') && (decide (cm_rh G y' ≤ cm_rh G y) && (!cm_ra G y' || cm_ra G y)))
  | none => true)
theorem cm_fw_I {G : cm_G} {y a : Nat} {w w' : cm_W} {al : Bool} (ho : cm_wo G y a = true) (h1 : w'.1 = w.1) (hz : cm_sz w' = cm_sz w) (hn : cm_ns w' = cm_ns w) (hI : ∀ b, b ≠ a → w'.2.1 b = w.2.1 b ∧ w'.2.2.1 b = w.2.2.1 b ∧ w'.2.2.2.1 b = w.2.2.2.1 b) : cm_fw (cm_rl G y) (cm_rh G y) al w w' := by
  refine ⟨fun _ => ⟨h1, hz, hn⟩, ⟨Nat.le_of_eq hz.symm, Nat.le_of_eq hn.symm⟩, fun b _ => ⟨by rw [h1], fun h => hI b fun e => ?_⟩⟩
  subst e
  unfold cm_wo at ho
  simp only [Bool.and_eq_true, decide_eq_true_eq] at ho
  unfold cm_rl cm_rh at h
  omega
theorem cm_fw_mk {w : cm_W} {x : cm_S} {n lo hi : Nat} : cm_fw lo hi true w (cm_mk w x n) := by
  refine ⟨(fun h => by cases h), ⟨Nat.le_succ _, Nat.le_add_right _ _⟩, fun a ha => ?_⟩
  have hne : a ≠ cm_sz w := Nat.ne_of_lt ha
  refine ⟨if_neg hne, fun _ => ⟨?_, ?_, ?_⟩⟩
  · funext k; exact if_neg hne
  · funext k; exact if_neg hne
  · funext k; exact if_neg hne
set_option maxHeartbeats 4000000 in
theorem cm_ex_fw {G : cm_G} {y pc : Nat} {d : cm_D} {lv : cm_lv} {st : List Value} {w : cm_W} {z : cm_Z} (hb : cm_rb G y d = true) (h : cm_ex G y pc d lv st w = some z) : cm_fw (cm_rl G y) (cm_rh G y) (cm_ra G y) w z.2.2.2 := by
  have id0 : z.2.2.2 = w → cm_fw (cm_rl G y) (cm_rh G y) (cm_ra G y) w z.2.2.2 := fun e => by rw [e]; exact cm_fw.rf _ _ _ _
  obtain ⟨i, len, ops, kv⟩ := d
  have hb1 := (Bool.and_eq_true _ _ ▸ hb).1
  cases i <;> simp only [cm_ex] at h
  case putfield idx =>
    split at h
    · split at h
      · rename_i hh
        obtain ⟨w', h1, rfl⟩ := Option.map_eq_some_iff.mp h
        obtain ⟨-, ⟨e1, e2, e3⟩, ⟨e4, e5, e6⟩, -⟩ := cm_pv_spec (fun x => x) h1
        exact cm_fw_I hh.2 e1 e2 e3 fun b hb => ⟨e4 b hb, e5 b hb, e6 b hb⟩
      · cases h
    · cases h
  case tableswitch dflt lo hi offs =>
    split at h
    · obtain ⟨o, h1, h2⟩ := Option.bind_eq_some_iff.mp h
      obtain ⟨t, h3, rfl⟩ := Option.map_eq_some_iff.mp h2
      exact id0 rfl
    · cases h
  case new idx =>
    split at h
    · split at h
      · cases h; rw [show cm_ra G y = true from hb1]; exact cm_fw_mk
      · cases h
    · cases h
  case newarray t =>
    split at h
    · split at h
      · cases h; rw [show cm_ra G y = true from hb1]; exact cm_fw_mk
      · cases h
    · cases h
  case anewarray idx =>
    split at h
    · split at h
      · split at h
        · cases h; rw [show cm_ra G y = true from hb1]; exact cm_fw_mk
        · cases h
      · cases h
    · cases h
  case iastore =>
    split at h
    · split at h
      · split at h
        · rename_i hh
          cases h
          exact cm_fw_I hh.2 rfl rfl rfl fun b hb => ⟨cm_up_ne _ _ _ _ b hb, rfl, rfl⟩
        · cases h
      · cases h
    · cases h
  case bastore =>
    split at h
    · split at h
      · split at h
        · rename_i hh
          cases h
          exact cm_fw_I hh.2 rfl rfl rfl fun b hb => ⟨cm_up_ne _ _ _ _ b hb, rfl, rfl⟩
        · cases h
      · cases h
    · cases h
  case lastore =>
    split at h
    · split at h
      · split at h
        · rename_i hh
          cases h
          exact cm_fw_I hh.2 rfl rfl rfl fun b hb => ⟨rfl, cm_up_ne _ _ _ _ b hb, rfl⟩
        · cases h
      · cases h
    · cases h
  case aastore =>
    split at h
    · split at h
      · split at h
        · rename_i hh
          cases h
          exact cm_fw_I hh.2.1 rfl rfl rfl fun b hb => ⟨rfl, rfl, cm_up_ne _ _ _ _ b hb⟩
        · cases h
      · cases h
    · cases h
  all_goals first
    | (exact id0 (cm_i2_w h (fun _ => rfl)))
    | skip
  all_goals (
    repeat' split at h
    all_goals first
      | (cases h; done)
      | (exact id0 (cm_if_w h))
      | (cases h; exact id0 rfl)
      | (obtain ⟨s, h1, rfl⟩ := Option.map_eq_some_iff.mp h; exact id0 rfl))
theorem cm_at_fw {G : cm_G} {y : Nat} {ops : List Nat} {st : List Value} {w : cm_W} {q : List Value × cm_W} {al : Bool} (h : cm_at G y ops st w = some q) : cm_fw (cm_rl G y) (cm_rh G y) al w q.2 := by
  unfold cm_at at h
  split at h
  · split at h
    · cases h; exact cm_fw.rf _ _ _ _
    · cases h
  · split at h
    · split at h
      · rename_i hh
        cases h
        exact cm_fw_I hh.2.2.2.2.2.1 rfl rfl rfl fun b hb => ⟨cm_cp_ne _ _ _ _ _ _ b hb, rfl, rfl⟩
      · cases h
    · split at h
      · rename_i hh
        cases h
        exact cm_fw_I hh.2.2.2.2.2.1 rfl rfl rfl fun b hb => ⟨rfl, cm_cp_ne _ _ _ _ _ _ b hb, rfl⟩
      · cases h
    · cases h
  · split at h
    · cases h; exact cm_fw.rf _ _ _ _
    · cases h
  · split at h
    · cases h; exact cm_fw.rf _ _ _ _
    · cases h
  · cases h
theorem cm_sp_to {G : cm_G} {i : Instr} {ops : List Nat} {st : List Value} {w : cm_W} {q : Nat × List Value × List Value} (hi : cm_isc i = true) (hl : ops.length = 4) (h : cm_sp G ops st w = some q) : cm_to i ops = some q.1 := by
  obtain ⟨kind, na, ci, tl, rfl, -, -⟩ := cm_sp_inv h
  simp at hl
  subst hl
  unfold cm_to
  rw [if_pos hi]
theorem cm_frame {G : cm_G} (hB : ∀ (y pc : Nat) (d : cm_D), G.1 y pc = some d → cm_rb G y d = true ∧ (cm_isc d.1 = true → d.2.2.1.length = 4 ∨ d.2.2.1.length = 1)) : ∀ (n y pc : Nat) (lv : cm_lv) (st : List Value) (w : cm_W) (r : Option Value × cm_W), cm_run G n y pc lv st w = some r → cm_fw (cm_rl G y) (cm_rh G y) (cm_ra G y) w r.2 := by
  intro n
  induction n with
  | zero => intro y pc lv st w r h; cases h
  | succ n ih =>
    intro y pc lv st w r h
    unfold cm_run at h
    split at h
    · cases h
    · rename_i d hd
      obtain ⟨hb, hops⟩ := hB y pc d hd
      split at h
      · cases h; exact cm_fw.rf _ _ _ _
      · split at h
        · rename_i hi
          split at h
          · rename_i q hq
            exact (cm_at_fw hq).tr (ih _ _ _ _ _ _ h)
          · split at h
            · cases h
            · rename_i q hq
              split at h
              · split at h
                · cases h
                · rename_i r1 h1
                  have a := ih _ _ _ _ _ _ h1
                  have b := ih _ _ _ _ _ _ h
                  have hlen : d.2.2.1.length = 4 := by
                    rcases hops hi with e | e
                    · exact e
                    · obtain ⟨kind, na, ci, tl, e2, -, -⟩ := cm_sp_inv hq
                      rw [e2] at e
                      simp at e
                  have ht := cm_sp_to hi hlen hq
                  unfold cm_rb at hb
                  rw [ht] at hb
                  simp only [Bool.and_eq_true, Bool.or_eq_true, decide_eq_true_eq, Bool.not_eq_true'] at hb
                  refine (a.sub ?_ ?_).tr b
                  · intro hx
                    rcases hb.2 with ⟨-, h⟩ | ⟨-, -, h | h⟩
                    · rw [hx] at h; cases h
                    · rw [hx] at h; cases h
                    · exact h
                  · rcases hb.2 with ⟨h, -⟩ | ⟨h1, h2, -⟩
                    · exact Or.inl h
                    · exact Or.inr ⟨h1, h2⟩
              · cases h
        · split at h
          · cases h
          · rename_i z hz
            exact (cm_ex_fw hb hz).tr (ih _ _ _ _ _ _ h)
