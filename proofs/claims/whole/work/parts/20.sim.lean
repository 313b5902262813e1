/-! what a method does, as a function: rules by which a function of its arguments and the world is shown to be what the clean machine does -/
def cm_N : Nat := 100000
def rs (G : cm_G) (y pc : Nat) (lv : cm_lv) (st : List Value) (w : cm_W) (r : Option Value × cm_W) : Prop := ∃ n, cm_run G n y pc lv st w = some r
theorem cm_fuel {G : cm_G} : ∀ (n m y pc : Nat) (lv : cm_lv) (st : List Value) (w : cm_W) (r : Option Value × cm_W), n ≤ m → cm_run G n y pc lv st w = some r → cm_run G m y pc lv st w = some r := by
  intro n
  induction n with
  | zero => intro m y pc lv st w r _ h; cases h
  | succ n ih =>
    intro m y pc lv st w r hm h
    obtain ⟨k, rfl⟩ : ∃ k, m = k + 1 := ⟨m - 1, by omega⟩
    have hk : n ≤ k := by omega
    unfold cm_run at h ⊢
    split at h
    · cases h
    · rename_i d hd
      rw [hd]
      dsimp only
      split at h
      · rename_i rv hrv; rw [hrv]; exact h
      · rename_i hrv
        rw [hrv]
        dsimp only
        split at h
        · rename_i hi
          rw [if_pos hi]
          split at h
          · rename_i q hq; rw [hq]; exact ih k _ _ _ _ _ _ hk h
          · rename_i hq
            rw [hq]
            dsimp only
            split at h
            · cases h
            · rename_i q hq2
              rw [hq2]
              dsimp only
              split at h
              · rename_i hok
                rw [if_pos hok]
                split at h
                · cases h
                · rename_i r1 h1
                  rw [ih k _ _ _ _ _ _ hk h1]
                  exact ih k _ _ _ _ _ _ hk h
              · cases h
        · rename_i hi
          rw [if_neg hi]
          split at h
          · cases h
          · rename_i z hz; rw [hz]; exact ih k _ _ _ _ _ _ hk h
def cm_me (G : cm_G) (y : Nat) (ck : List (List (Nat × cm_D))) (kq : List (Nat × List Nat)) : Prop := (∀ pc, G.1 y pc = cm_lk ck pc) ∧ ∀ pc, G.2.1 y pc = cm_lq kq pc
def sm (G : cm_G) (y : Nat) (ck : List (List (Nat × cm_D))) (kq : List (Nat × List Nat)) (pc : Nat) (lv : cm_lv) (st : List Value) (w : cm_W) (o : Option (Option Value × cm_W)) : Prop := cm_me G y ck kq → ∀ r, o = some r → rs G y pc lv st w r
def cm_ca (G : cm_G) (y : Nat) (av : List Value) (w : cm_W) (oc : Option (Option Value × cm_W)) : Prop := cm_ok G y av = true ∧ ∀ r, oc = some r → rs G y 0 (lv_args 0 av) [] w r
def cm_b (b : Bool) : Int32 := match b with
  | true => 1
  | false => 0
theorem cm_b01 (b : Bool) : cm_b b = 0 ∨ cm_b b = 1 := by cases b <;> simp [cm_b]
def cm_fI (w : cm_W) (x : Int32) : Option Value × cm_W := (some (.int x), w)
def cm_fB (w : cm_W) (b : Bool) : Option Value × cm_W := (some (.int (cm_b b)), w)
def cm_fL (w : cm_W) (x : Int64) : Option Value × cm_W := (some (.long x), w)
def cm_gI (q : Int32 × cm_W) : Option Value × cm_W := (some (.int q.1), q.2)
def cm_gB (q : Bool × cm_W) : Option Value × cm_W := (some (.int (cm_b q.1)), q.2)
def cm_gL (q : Int64 × cm_W) : Option Value × cm_W := (some (.long q.1), q.2)
def cm_gV (w : cm_W) : Option Value × cm_W := (none, w)
def cm_ga (w : cm_W) (ty : FieldType) (a : Nat) (i : Int32) : Bool := match w.1 a with
  | some (.inr (t, n)) => decide (t = ty) && cm_iin i n
  | _ => false
def cm_al (w : cm_W) (a : Nat) : Option Nat := match w.1 a with
  | some (.inr (_, n)) => some n
  | _ => none
def cm_w2 (lo hi a : Nat) : Bool := decide (2 ≤ a) && (decide (lo ≤ a) && decide (a < hi))
def cm_gc (w : cm_W) (lo hi a0 : Nat) (sp : Int32) (a : Nat) (dp n : Int32) : Bool := match w.1 a0, w.1 a with
  | some (.inr (.int, n0)), some (.inr (.int, n1)) => decide (¬ sp < 0 ∧ ¬ dp < 0 ∧ ¬ n < 0 ∧ sp.toNatClampNeg + n.toNatClampNeg ≤ n0 ∧ dp.toNatClampNeg + n.toNatClampNeg ≤ n1 ∧ cm_w2 lo hi a = true ∧ 2 ≤ a0)
  | _, _ => false
theorem cm_ga_inv {w : cm_W} {ty : FieldType} {a : Nat} {i : Int32} (h : cm_ga w ty a i = true) : ∃ n, w.1 a = some (.inr (ty, n)) ∧ cm_iin i n = true := by
  unfold cm_ga at h
  split at h
  · rename_i t n e
    simp only [Bool.and_eq_true, decide_eq_true_eq] at h
    exact ⟨n, by rw [e, h.1], h.2⟩
  · cases h
/-- one step that is no call, without what is kept -/
def cm_x1 (G : cm_G) (y : Nat) (ck : List (List (Nat × cm_D))) (pc : Nat) (lv : cm_lv) (st : List Value) (w : cm_W) : Option cm_Z := match cm_lk ck pc with
  | none => none
  | some d => if cm_isc d.1 = true then none else match cm_re G y d.1 st with
    | some _ => none
    | none => cm_ex G y pc d lv st w
def cm_xs (G : cm_G) (y : Nat) (ck : List (List (Nat × cm_D))) (kq : List (Nat × List Nat)) : Nat → cm_Z → Option cm_Z
  | 0, z => some z
  | n + 1, z => match cm_x1 G y ck z.1 z.2.1 z.2.2.1 z.2.2.2 with
    | none => none
    | some q => cm_xs G y ck kq n (q.1, cm_kp (cm_lq kq q.1) q.2.1, q.2.2)
