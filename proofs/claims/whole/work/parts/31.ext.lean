/-! a run on a world goes the same on a world that has more -/
def cm_xt (w w2 : cm_W) : Prop := cm_sz w2 = cm_sz w ∧ cm_ns w2 = cm_ns w ∧ ∀ a x, w.1 a = some x → w2.1 a = some x ∧ w2.2.1 a = w.2.1 a ∧ w2.2.2.1 a = w.2.2.1 a ∧ w2.2.2.2.1 a = w.2.2.2.1 a
theorem cm_xt.up {w w2 v v2 : cm_W} (h : cm_xt w w2) (h1 : v.1 = w.1) (h2 : v2.1 = w2.1) (hz : cm_sz v = cm_sz w) (hz2 : cm_sz v2 = cm_sz w2) (hn : cm_ns v = cm_ns w) (hn2 : cm_ns v2 = cm_ns w2)
    (hc : ∀ a x, w.1 a = some x → v2.2.1 a = v.2.1 a ∧ v2.2.2.1 a = v.2.2.1 a ∧ v2.2.2.2.1 a = v.2.2.2.1 a) : cm_xt v v2 := by
  obtain ⟨e1, e2, e3⟩ := h
  refine ⟨by rw [hz, hz2, e1], by rw [hn, hn2, e2], fun a x hx => ?_⟩
  rw [h1] at hx
  exact ⟨by rw [h2]; exact (e3 a x hx).1, hc a x hx⟩
theorem cm_up_xt {α : Type} {f g : Nat → Nat → α} {a k b : Nat} {v : α} (h : g b = f b) : cm_up g a k v b = cm_up f a k v b := by
  funext j
  simp [cm_up, congrFun h j]
theorem cm_xt.sI {w w2 : cm_W} (h : cm_xt w w2) (a k : Nat) (v : Int32) : cm_xt (cm_sI w a k v) (cm_sI w2 a k v) := h.up rfl rfl rfl rfl rfl rfl fun b x hx => ⟨cm_up_xt (h.2.2 b x hx).2.1, (h.2.2 b x hx).2.2.1, (h.2.2 b x hx).2.2.2⟩
theorem cm_xt.sL {w w2 : cm_W} (h : cm_xt w w2) (a k : Nat) (v : Int64) : cm_xt (cm_sL w a k v) (cm_sL w2 a k v) := h.up rfl rfl rfl rfl rfl rfl fun b x hx => ⟨(h.2.2 b x hx).2.1, cm_up_xt (h.2.2 b x hx).2.2.1, (h.2.2 b x hx).2.2.2⟩
theorem cm_xt.sR {w w2 : cm_W} (h : cm_xt w w2) (a k : Nat) (v : Option Nat) : cm_xt (cm_sR w a k v) (cm_sR w2 a k v) := h.up rfl rfl rfl rfl rfl rfl fun b x hx => ⟨(h.2.2 b x hx).2.1, (h.2.2 b x hx).2.2.1, cm_up_xt (h.2.2 b x hx).2.2.2⟩
theorem cm_xt.mk {w w2 : cm_W} (h : cm_xt w w2) (x : cm_S) (n : Nat) : cm_xt (cm_mk w x n) (cm_mk w2 x n) := by
  obtain ⟨e1, e2, e3⟩ := h
  have e1' : w2.2.2.2.2.1 = w.2.2.2.2.1 := e1
  have e2' : w2.2.2.2.2.2 = w.2.2.2.2.2 := e2
  refine ⟨?_, ?_, fun a y hy => ?_⟩
  · show w2.2.2.2.2.1 + 1 = w.2.2.2.2.1 + 1; rw [e1']
  · show w2.2.2.2.2.2 + n = w.2.2.2.2.2 + n; rw [e2']
  · by_cases q : a = w.2.2.2.2.1
    · have q2 : a = w2.2.2.2.2.1 := by rw [e1']; exact q
      have hy' : (if a = w.2.2.2.2.1 then some x else w.1 a) = some y := hy
      rw [if_pos q] at hy'
      refine ⟨?_, ?_, ?_, ?_⟩
      · show (if a = w2.2.2.2.2.1 then some x else w2.1 a) = some y; rw [if_pos q2]; exact hy'
      · funext j; show (if a = w2.2.2.2.2.1 then (0 : Int32) else _) = (if a = w.2.2.2.2.1 then 0 else _); rw [if_pos q, if_pos q2]
      · funext j; show (if a = w2.2.2.2.2.1 then (0 : Int64) else _) = (if a = w.2.2.2.2.1 then 0 else _); rw [if_pos q, if_pos q2]
      · funext j; show (if a = w2.2.2.2.2.1 then none else _) = (if a = w.2.2.2.2.1 then none else _); rw [if_pos q, if_pos q2]
    · have q2 : ¬ a = w2.2.2.2.2.1 := by rw [e1']; exact q
      have hy' : (if a = w.2.2.2.2.1 then some x else w.1 a) = some y := hy
      rw [if_neg q] at hy'
      obtain ⟨p1, p2, p3, p4⟩ := e3 a y hy'
      refine ⟨?_, ?_, ?_, ?_⟩
      · show (if a = w2.2.2.2.2.1 then some x else w2.1 a) = some y; rw [if_neg q2]; exact p1
      · funext j; show (if a = w2.2.2.2.2.1 then (0 : Int32) else _) = (if a = w.2.2.2.2.1 then 0 else _); rw [if_neg q, if_neg q2, p2]
      · funext j; show (if a = w2.2.2.2.2.1 then (0 : Int64) else _) = (if a = w.2.2.2.2.1 then 0 else _); rw [if_neg q, if_neg q2, p3]
      · funext j; show (if a = w2.2.2.2.2.1 then none else _) = (if a = w.2.2.2.2.1 then none else _); rw [if_neg q, if_neg q2, p4]
theorem cm_fv_xt {w w2 : cm_W} {a : Nat} {x : cm_S} (h : cm_xt w w2) (hx : w.1 a = some x) (ty : FieldType) (k : Nat) : cm_fv w2 ty a k = cm_fv w ty a k := by
  obtain ⟨-, p2, p3, p4⟩ := h.2.2 a x hx
  unfold cm_fv
  rw [p2, p3, p4]
theorem cm_pv_xt {w w2 w' : cm_W} {ty : FieldType} {a k : Nat} {v : Value} (h : cm_xt w w2) (hp : cm_pv w ty a k v = some w') : ∃ w2', cm_pv w2 ty a k v = some w2' ∧ cm_xt w' w2' := by
  unfold cm_pv at hp ⊢
  split at hp
  · cases hp; exact ⟨_, rfl, h.sL _ _ _⟩
  · cases hp; exact ⟨_, rfl, h.sR _ _ _⟩
  · cases hp; exact ⟨_, rfl, h.sR _ _ _⟩
  · cases hp; exact ⟨_, rfl, h.sR _ _ _⟩
  · cases hp; exact ⟨_, rfl, h.sR _ _ _⟩
  · cases hp; exact ⟨_, rfl, h.sI _ _ _⟩
  · split at hp
    · rename_i hx; cases hp; exact ⟨_, if_pos hx, h.sI _ _ _⟩
    · cases hp
  · cases hp
theorem cm_xt.cI {w w2 : cm_W} (h : cm_xt w w2) {a0 : Nat} {x : cm_S} (h0 : w.1 a0 = some x) (sp a dp n : Nat) : cm_xt (cm_cI w a0 sp a dp n) (cm_cI w2 a0 sp a dp n) := h.up rfl rfl rfl rfl rfl rfl fun b y hy => ⟨by
    funext j
    show cm_cp w2.2.1 a0 sp a dp n b j = cm_cp w.2.1 a0 sp a dp n b j
    unfold cm_cp
    rw [(h.2.2 b y hy).2.1, (h.2.2 a0 x h0).2.1], (h.2.2 b y hy).2.2.1, (h.2.2 b y hy).2.2.2⟩
theorem cm_xt.cL {w w2 : cm_W} (h : cm_xt w w2) {a0 : Nat} {x : cm_S} (h0 : w.1 a0 = some x) (sp a dp n : Nat) : cm_xt (cm_cL w a0 sp a dp n) (cm_cL w2 a0 sp a dp n) := h.up rfl rfl rfl rfl rfl rfl fun b y hy => ⟨(h.2.2 b y hy).2.1, by
    funext j
    show cm_cp w2.2.2.1 a0 sp a dp n b j = cm_cp w.2.2.1 a0 sp a dp n b j
    unfold cm_cp
    rw [(h.2.2 b y hy).2.2.1, (h.2.2 a0 x h0).2.2.1], (h.2.2 b y hy).2.2.2⟩
set_option maxHeartbeats 8000000 in
theorem cm_ex_xt {G : cm_G} {y pc : Nat} {d : cm_D} {lv : cm_lv} {st : List Value} {w w2 : cm_W} {z : cm_Z} (hx : cm_xt w w2) (h : cm_ex G y pc d lv st w = some z) : ∃ v2, cm_ex G y pc d lv st w2 = some (z.1, z.2.1, z.2.2.1, v2) ∧ cm_xt z.2.2.2 v2 := by
  obtain ⟨i, len, ops, kv⟩ := d
  have hif : ∀ {off : Int} {P : Prop} (hP : Decidable P) {r : List Value}, cm_if pc off P lv r w = some z → ∃ v2, cm_if pc off P lv r w2 = some (z.1, z.2.1, z.2.2.1, v2) ∧ cm_xt z.2.2.2 v2 := by
    intro off P hP r h
    unfold cm_if at h ⊢
    obtain ⟨t, e1, e2⟩ := Option.map_eq_some_iff.mp h
    rw [e1]
    by_cases hp : P
    · rw [if_pos hp] at e2; subst e2; exact ⟨w2, by rw [Option.map_some, if_pos hp], hx⟩
    · rw [if_neg hp] at e2; subst e2; exact ⟨w2, by rw [Option.map_some, if_neg hp], hx⟩
  have hmp : ∀ {o : Option (List Value)} {p : Nat}, o.map (fun s => (p, lv, s, w)) = some z → ∃ v2, o.map (fun s => (p, lv, s, w2)) = some (z.1, z.2.1, z.2.2.1, v2) ∧ cm_xt z.2.2.2 v2 := by
    intro o p h
    obtain ⟨s, e1, rfl⟩ := Option.map_eq_some_iff.mp h
    exact ⟨w2, by rw [e1]; rfl, hx⟩
  have hms : ∀ {o : Option cm_lv} {p : Nat} {r : List Value}, o.map (fun l => (p, l, r, w)) = some z → ∃ v2, o.map (fun l => (p, l, r, w2)) = some (z.1, z.2.1, z.2.2.1, v2) ∧ cm_xt z.2.2.2 v2 := by
    intro o p r h
    obtain ⟨s, e1, rfl⟩ := Option.map_eq_some_iff.mp h
    exact ⟨w2, by rw [e1]; rfl, hx⟩
  have hmt : ∀ {o : Option Nat} {r : List Value}, o.map (fun t => (t, lv, r, w)) = some z → ∃ v2, o.map (fun t => (t, lv, r, w2)) = some (z.1, z.2.1, z.2.2.1, v2) ∧ cm_xt z.2.2.2 v2 := by
    intro o r h
    obtain ⟨s, e1, rfl⟩ := Option.map_eq_some_iff.mp h
    exact ⟨w2, by rw [e1]; rfl, hx⟩
  cases i <;> simp only [cm_ex] at h ⊢
  all_goals first
    | (exact hmp h)
    | (exact hmt h)
    | (cases h; done)
    | (cases h; exact ⟨w2, rfl, hx⟩)
    | skip
  case tableswitch dflt lo hi offs =>
    split at h
    · obtain ⟨o, h1, h2⟩ := Option.bind_eq_some_iff.mp h
      rw [h1]
      exact hmt h2
    · cases h
  case lookupswitch dflt ps =>
    split at h
    · split at h
      · rename_i hh
        first
          | exact hmt h
          | (rw [if_pos hh]; exact hmt h)
      · cases h
    · cases h
  case getfield idx =>
    split at h
    · rename_i ci k a r
      split at h
      · rename_i ha
        cases h
        exact ⟨w2, by dsimp only; rw [if_pos (hx.2.2 a _ ha).1, cm_fv_xt hx ha], hx⟩
      · cases h
    · cases h
  case putfield idx =>
    split at h
    · rename_i ci k f v a r
      split at h
      · rename_i hh
        obtain ⟨w', h1, rfl⟩ := Option.map_eq_some_iff.mp h
        obtain ⟨w2', e1, e2⟩ := cm_pv_xt hx h1
        exact ⟨w2', by dsimp only; rw [if_pos ⟨(hx.2.2 a _ hh.1).1, hh.2⟩, e1]; rfl, e2⟩
      · cases h
    · cases h
  case arraylength =>
    split at h
    · split at h
      · rename_i a r o t n e
        cases h
        exact ⟨w2, by dsimp only; rw [(hx.2.2 a _ e).1], hx⟩
      · cases h
    · cases h
  case iaload =>
    split at h
    · split at h
      · split at h
        · rename_i i a r o n e hi
          cases h
          exact ⟨w2, by dsimp only; rw [(hx.2.2 a _ e).1]; dsimp only; rw [if_pos hi, (hx.2.2 a _ e).2.1], hx⟩
        · cases h
      · cases h
    · cases h
  case baload =>
    split at h
    · split at h
      · split at h
        · rename_i i a r o n e hi
          cases h
          exact ⟨w2, by dsimp only; rw [(hx.2.2 a _ e).1]; dsimp only; rw [if_pos hi, (hx.2.2 a _ e).2.1], hx⟩
        · cases h
      · cases h
    · cases h
  case laload =>
    split at h
    · split at h
      · split at h
        · rename_i i a r o n e hi
          cases h
          exact ⟨w2, by dsimp only; rw [(hx.2.2 a _ e).1]; dsimp only; rw [if_pos hi, (hx.2.2 a _ e).2.2.1], hx⟩
        · cases h
      · cases h
    · cases h
  case aaload =>
    split at h
    · split at h
      · split at h
        · rename_i i a r o C n e hi
          cases h
          exact ⟨w2, by dsimp only; rw [(hx.2.2 a _ e).1]; dsimp only; rw [if_pos hi, (hx.2.2 a _ e).2.2.2], hx⟩
        · cases h
      · cases h
    · cases h
  case iastore =>
    split at h
    · split at h
      · split at h
        · rename_i x i a r o n e hi
          cases h
          exact ⟨cm_sI w2 a i.toNatClampNeg x, by dsimp only; rw [(hx.2.2 a _ e).1]; dsimp only; rw [if_pos hi], hx.sI _ _ _⟩
        · cases h
      · cases h
    · cases h
  case bastore =>
    split at h
    · split at h
      · split at h
        · rename_i x i a r o n e hi
          cases h
          exact ⟨cm_sI w2 a i.toNatClampNeg (vp_nar .byte x), by dsimp only; rw [(hx.2.2 a _ e).1]; dsimp only; rw [if_pos hi], hx.sI _ _ _⟩
        · cases h
      · cases h
    · cases h
  case lastore =>
    split at h
    · split at h
      · split at h
        · rename_i x i a r o n e hi
          cases h
          exact ⟨cm_sL w2 a i.toNatClampNeg x, by dsimp only; rw [(hx.2.2 a _ e).1]; dsimp only; rw [if_pos hi], hx.sL _ _ _⟩
        · cases h
      · cases h
    · cases h
  case aastore =>
    split at h
    · split at h
      · split at h
        · rename_i v i a r o1 o2 C n ci e ev hi
          cases h
          exact ⟨cm_sR w2 a i.toNatClampNeg (some v), by dsimp only; rw [(hx.2.2 a _ e).1, (hx.2.2 v _ ev).1]; dsimp only; rw [if_pos hi], hx.sR _ _ _⟩
        · cases h
      · cases h
    · cases h
  case new idx =>
    split at h
    · split at h
      · rename_i ci o q hq
        cases h
        exact ⟨cm_mk w2 (.inl ci) q.2.2, by dsimp only; rw [hx.1], hx.mk _ _⟩
      · cases h
    · cases h
  case newarray t =>
    split at h
    · split at h
      · rename_i n r hn
        cases h
        exact ⟨cm_mk w2 (.inr (newarray.typeOf t, n.toNatClampNeg)) n.toNatClampNeg, by dsimp only; rw [if_pos hn, hx.1], hx.mk _ _⟩
      · cases h
    · cases h
  case anewarray idx =>
    split at h
    · split at h
      · split at h
        · rename_i ci n r o q hq hn
          cases h
          exact ⟨cm_mk w2 (.inr (.object q.1, n.toNatClampNeg)) n.toNatClampNeg, by dsimp only; rw [if_pos hn, hx.1], hx.mk _ _⟩
        · cases h
      · cases h
    · cases h
  all_goals (
    repeat' split at h
    all_goals first
      | (cases h; done)
      | (exact hif _ h)
      | (exact hms h)
      | (exact hmt h)
      | (cases h; exact ⟨w2, rfl, hx⟩)
      | (cases h; exact ⟨w2, by simp [*], hx⟩))
theorem cm_sp_xt {G : cm_G} {ops : List Nat} {st : List Value} {w w2 : cm_W} {q : Nat × List Value × List Value} (hx : cm_xt w w2) (h : cm_sp G ops st w = some q) : cm_sp G ops st w2 = some q := by
  unfold cm_sp at h ⊢
  split at h
  · split at h
    · exact h
    · split at h
      · split at h
        · rename_i hh
          rw [if_pos ⟨(hx.2.2 _ _ hh.1).1, hh.2⟩]
          exact h
        · cases h
      · cases h
  · cases h
theorem cm_at_xt {G : cm_G} {y : Nat} {ops : List Nat} {st : List Value} {w w2 : cm_W} {q : List Value × cm_W} (hx : cm_xt w w2) (h : cm_at G y ops st w = some q) : ∃ v2, cm_at G y ops st w2 = some (q.1, v2) ∧ cm_xt q.2 v2 := by
  unfold cm_at at h ⊢
  split at h
  · split at h
    · rename_i hh; cases h; exact ⟨w2, by dsimp only; rw [if_pos hh], hx⟩
    · cases h
  · split at h
    · split at h
      · rename_i e0 e1 hh
        cases h
        exact ⟨_, by dsimp only; rw [(hx.2.2 _ _ e0).1, (hx.2.2 _ _ e1).1]; dsimp only; rw [if_pos hh], hx.cI e0 _ _ _ _⟩
      · cases h
    · split at h
      · rename_i e0 e1 hh
        cases h
        exact ⟨_, by dsimp only; rw [(hx.2.2 _ _ e0).1, (hx.2.2 _ _ e1).1]; dsimp only; rw [if_pos hh], hx.cL e0 _ _ _ _⟩
      · cases h
    · cases h
  · split at h
    · rename_i hh; cases h; exact ⟨w2, by dsimp only; rw [if_pos hh], hx⟩
    · cases h
  · split at h
    · rename_i hh; cases h; exact ⟨w2, by dsimp only; rw [if_pos hh], hx⟩
    · cases h
  · cases h
theorem cm_at_no2 {G : cm_G} {y : Nat} {ops : List Nat} {st : List Value} {w : cm_W} (h : ops.length ≠ 1) : cm_at G y ops st w = none := by
  unfold cm_at
  split <;> first | rfl | exact absurd rfl h
theorem cm_run_xt {G : cm_G} : ∀ (n y pc : Nat) (lv : cm_lv) (st : List Value) (w w2 : cm_W) (r : Option Value × cm_W), cm_xt w w2 → cm_run G n y pc lv st w = some r → ∃ v2, cm_run G n y pc lv st w2 = some (r.1, v2) ∧ cm_xt r.2 v2 := by
  intro n
  induction n with
  | zero => intro y pc lv st w w2 r _ h; cases h
  | succ n ih =>
    intro y pc lv st w w2 r hx h
    unfold cm_run at h ⊢
    generalize G.1 y pc = od at h ⊢
    cases od with
    | none => cases h
    | some d =>
      dsimp only at h ⊢
      generalize cm_re G y d.1 st = ore at h ⊢
      cases ore with
      | some rv => cases h; exact ⟨w2, rfl, hx⟩
      | none =>
        dsimp only at h ⊢
        by_cases hi : cm_isc d.1 = true
        · rw [if_pos hi] at h ⊢
          cases hat : cm_at G y d.2.2.1 st w with
          | some q =>
            rw [hat] at h
            obtain ⟨v2, e1, e2⟩ := cm_at_xt hx hat
            rw [e1]
            exact ih _ _ _ _ _ _ _ e2 h
          | none =>
            rw [hat] at h
            dsimp only at h
            cases hsp : cm_sp G d.2.2.1 st w with
            | none => rw [hsp] at h; cases h
            | some q =>
              rw [hsp] at h
              dsimp only at h
              obtain ⟨kind, na, ci, tl, e, -, -⟩ := cm_sp_inv hsp
              rw [cm_at_no2 (by rw [e]; simp), cm_sp_xt hx hsp]
              dsimp only
              by_cases hok : cm_ok G q.1 q.2.1 = true
              · rw [if_pos hok] at h ⊢
                cases h1 : cm_run G n q.1 0 (lv_args 0 q.2.1) [] w with
                | none => rw [h1] at h; cases h
                | some r1 =>
                  rw [h1] at h
                  obtain ⟨v2, e1, e2⟩ := ih _ _ _ _ _ _ _ hx h1
                  rw [e1]
                  exact ih _ _ _ _ _ _ _ e2 h
              · rw [if_neg hok] at h; cases h
        · rw [if_neg hi] at h ⊢
          cases hz : cm_ex G y pc d lv st w with
          | none => rw [hz] at h; cases h
          | some z =>
            rw [hz] at h
            obtain ⟨v2, e1, e2⟩ := cm_ex_xt hx hz
            rw [e1]
            exact ih _ _ _ _ _ _ _ e2 h
