/-! what a method does, as a function: rules by which a function of its arguments and the world is shown to be what the clean machine does -/
def cm_N : Nat := 100000
def rs (G : cm_G) (y pc : Nat) (lv : cm_lv) (st : List Value) (w : cm_W) (r : Option Value × cm_W) : Prop := ∃ n, cm_run G n y pc lv st w = some r
theorem cm_fuel {G : cm_G} : ∀ (n m y pc : Nat) (lv : cm_lv) (st : List Value) (w : cm_W) (r : Option Value × cm_W), n ≤ m → cm_run G n y pc lv st w = some r → cm_run G m y pc lv st w = some r := by
  intro n
  induction n with
  | zero => intro m y pc lv st w r _ h; cases h
  | succ n ih =>
    intro m y pc lv st w r hm h
    obtain ⟨k, rfl⟩ : ∃ k, m = k + 1 := ⟨m - 1, by omega⟩
    have hk : n ≤ k := by omega
    unfold cm_run at h ⊢
    generalize G.1 y pc = od at h ⊢
    cases od with
    | none => cases h
    | some d =>
      dsimp only at h ⊢
      generalize cm_re G y d.1 st = ore at h ⊢
      cases ore with
      | some rv => exact h
      | none =>
        dsimp only at h ⊢
        by_cases hi : cm_isc d.1 = true
        · rw [if_pos hi] at h ⊢
          generalize cm_at G y d.2.2.1 st w = oat at h ⊢
          cases oat with
          | some q => exact ih k _ _ _ _ _ _ hk h
          | none =>
            dsimp only at h ⊢
            generalize cm_sp G d.2.2.1 st w = osp at h ⊢
            cases osp with
            | none => cases h
            | some q =>
              dsimp only at h ⊢
              by_cases hok : cm_ok G q.1 q.2.1 = true
              · rw [if_pos hok] at h ⊢
                cases h1 : cm_run G n q.1 0 (lv_args 0 q.2.1) [] w with
                | none => rw [h1] at h; cases h
                | some r1 =>
                  rw [h1] at h
                  rw [ih k _ _ _ _ _ _ hk h1]
                  exact ih k _ _ _ _ _ _ hk h
              · rw [if_neg hok] at h; cases h
        · rw [if_neg hi] at h ⊢
          generalize cm_ex G y pc d lv st w = oex at h ⊢
          cases oex with
          | none => cases h
          | some z => exact ih k _ _ _ _ _ _ hk h
def cm_me (G : cm_G) (y : Nat) (ck : List (List (Nat × cm_D))) (kq : List (Nat × List Nat)) : Prop := (∀ pc, G.1 y pc = cm_lk ck pc) ∧ ∀ pc, G.2.1 y pc = cm_lq kq pc
def sm (G : cm_G) (y : Nat) (ck : List (List (Nat × cm_D))) (kq : List (Nat × List Nat)) (pc : Nat) (lv : cm_lv) (st : List Value) (w : cm_W) (o : Option (Option Value × cm_W)) : Prop := cm_me G y ck kq → ∀ r, o = some r → rs G y pc lv st w r
def cm_ca (G : cm_G) (y : Nat) (av : List Value) (w : cm_W) (oc : Option (Option Value × cm_W)) : Prop := cm_ok G y av = true ∧ ∀ r, oc = some r → rs G y 0 (lv_args 0 av) [] w r
def cm_b (b : Bool) : Int32 := match b with
  | true => 1
  | false => 0
theorem cm_b01 (b : Bool) : cm_b b = 0 ∨ cm_b b = 1 := by cases b <;> simp [cm_b]
def cm_fI (w : cm_W) (x : Int32) : Option Value × cm_W := (some (.int x), w)
def cm_fB (w : cm_W) (b : Bool) : Option Value × cm_W := (some (.int (cm_b b)), w)
def cm_fL (w : cm_W) (x : Int64) : Option Value × cm_W := (some (.long x), w)
def cm_gI (q : Int32 × cm_W) : Option Value × cm_W := (some (.int q.1), q.2)
def cm_gB (q : Bool × cm_W) : Option Value × cm_W := (some (.int (cm_b q.1)), q.2)
def cm_gL (q : Int64 × cm_W) : Option Value × cm_W := (some (.long q.1), q.2)
def cm_gV (w : cm_W) : Option Value × cm_W := (none, w)
def cm_ga (w : cm_W) (ty : FieldType) (a : Nat) (i : Int32) : Bool := match w.1 a with
  | some (.inr (t, n)) => decide (t = ty) && cm_iin i n
  | _ => false
def cm_al (w : cm_W) (a : Nat) : Option Nat := match w.1 a with
  | some (.inr (_, n)) => some n
  | _ => none
def cm_w2 (lo hi a : Nat) : Bool := decide (2 ≤ a) && (decide (lo ≤ a) && decide (a < hi))
def cm_gc (w : cm_W) (lo hi a0 : Nat) (sp : Int32) (a : Nat) (dp n : Int32) : Bool := match w.1 a0, w.1 a with
  | some (.inr (.int, n0)), some (.inr (.int, n1)) => decide (¬ sp < 0 ∧ ¬ dp < 0 ∧ ¬ n < 0 ∧ sp.toNatClampNeg + n.toNatClampNeg ≤ n0 ∧ dp.toNatClampNeg + n.toNatClampNeg ≤ n1 ∧ cm_w2 lo hi a = true ∧ 2 ≤ a0)
  | _, _ => false
theorem cm_ga_inv {w : cm_W} {ty : FieldType} {a : Nat} {i : Int32} (h : cm_ga w ty a i = true) : ∃ n, w.1 a = some (.inr (ty, n)) ∧ cm_iin i n = true := by
  unfold cm_ga at h
  split at h
  · rename_i t n e
    simp only [Bool.and_eq_true, decide_eq_true_eq] at h
    exact ⟨n, by rw [e, h.1], h.2⟩
  · cases h
/-- one step that is no call, without what is kept -/
def cm_x1 (G : cm_G) (y : Nat) (ck : List (List (Nat × cm_D))) (pc : Nat) (lv : cm_lv) (st : List Value) (w : cm_W) : Option cm_Z := match cm_lk ck pc with
  | none => none
  | some d => if cm_isc d.1 = true then none else match cm_re G y d.1 st with
    | some _ => none
    | none => cm_ex G y pc d lv st w
def cm_x2 (G : cm_G) (y : Nat) (ck : List (List (Nat × cm_D))) (kq : List (Nat × List Nat)) (z : cm_Z) : Option cm_Z := match z with
  | (pc, lv, st, w) => match cm_x1 G y ck pc lv st w with
    | none => none
    | some (p, l, s, v) => some (p, cm_kp (cm_lq kq p) l, s, v)
noncomputable def cm_xs (G : cm_G) (y : Nat) (ck : List (List (Nat × cm_D))) (kq : List (Nat × List Nat)) (n : Nat) (z : cm_Z) : Option cm_Z := Nat.rec (motive := fun _ => Option cm_Z) (some z) (fun _ o => o.bind (cm_x2 G y ck kq)) n
section SM
variable {G : cm_G} {y pc : Nat} {ck : List (List (Nat × cm_D))} {kq : List (Nat × List Nat)} {lv lv' : cm_lv} {st : List Value} {w : cm_W} {o : Option (Option Value × cm_W)} {r : Option Value × cm_W}
theorem cm_g1 (hc : cm_me G y ck kq) (pc : Nat) : G.1 y pc = cm_lk ck pc := hc.1 pc
theorem cm_g2 (hc : cm_me G y ck kq) (pc : Nat) : G.2.1 y pc = cm_lq kq pc := hc.2 pc
theorem rs_x1 {z : cm_Z} (hc : cm_me G y ck kq) (h : cm_x1 G y ck pc lv st w = some z) (k : rs G y z.1 (cm_kp (cm_lq kq z.1) z.2.1) z.2.2.1 z.2.2.2 r) : rs G y pc lv st w r := by
  obtain ⟨n, hn⟩ := k
  refine ⟨n + 1, ?_⟩
  unfold cm_run
  rw [cm_g1 hc]
  unfold cm_x1 at h
  split at h
  · cases h
  · rename_i d hd
    rw [hd]
    dsimp only
    split at h
    · cases h
    · rename_i hi
      split at h
      · cases h
      · rename_i hre
        rw [hre]
        dsimp only
        rw [if_neg hi, h]
        dsimp only
        rw [cm_g2 hc]
        exact hn
theorem sm_no {α : Type} {f : α → Option Value × cm_W} : sm G y ck kq pc lv st w ((none : Option α).map f) := fun _ r h => by cases h
theorem sm_x1 {z : cm_Z} (h : cm_x1 G y ck pc lv st w = some z) (k : sm G y ck kq z.1 (cm_kp (cm_lq kq z.1) z.2.1) z.2.2.1 z.2.2.2 o) : sm G y ck kq pc lv st w o := fun hc r hr => rs_x1 hc h (k hc r hr)
theorem sm_xs : ∀ (n : Nat) {z z' : cm_Z}, cm_xs G y ck kq n z = some z' → sm G y ck kq z'.1 z'.2.1 z'.2.2.1 z'.2.2.2 o → sm G y ck kq z.1 z.2.1 z.2.2.1 z.2.2.2 o := by
  intro n
  induction n with
  | zero => intro z z' h k; cases h; exact k
  | succ n ih =>
    intro z z' h k
    obtain ⟨q, h1, h2⟩ := Option.bind_eq_some_iff.mp (show (cm_xs G y ck kq n z).bind (cm_x2 G y ck kq) = some z' from h)
    obtain ⟨p, l, s, v⟩ := q
    refine ih h1 ?_
    unfold cm_x2 at h2
    dsimp only at h2 ⊢
    generalize hq : cm_x1 G y ck p l s v = oq at h2
    cases oq with
    | none => cases h2
    | some z2 =>
      obtain ⟨p2, l2, s2, v2⟩ := z2
      cases h2
      exact sm_x1 hq k
theorem sm_seg (n pc' : Nat) (lv' : cm_lv) (st' : List Value) (h : cm_xs G y ck kq n (pc, lv, st, w) = some (pc', lv', st', w)) (k : sm G y ck kq pc' lv' st' w o) : sm G y ck kq pc lv st w o := sm_xs n h k
theorem sm_gd {α : Type} {f : α → Option Value × cm_W} {c : Prop} [Decidable c] {A : Option α} (k : c → sm G y ck kq pc lv st w (A.map f)) : sm G y ck kq pc lv st w ((if c then A else none).map f) := by
  by_cases h : c
  · rw [if_pos h]; exact k h
  · rw [if_neg h]; exact sm_no
theorem sm_br {α : Type} {f : α → Option Value × cm_W} {c : Prop} [Decidable c] {A B : Option α} (k1 : c → sm G y ck kq pc lv st w (A.map f)) (k2 : ¬ c → sm G y ck kq pc lv st w (B.map f)) : sm G y ck kq pc lv st w ((if c then A else B).map f) := by
  by_cases h : c
  · rw [if_pos h]; exact k1 h
  · rw [if_neg h]; exact k2 h
theorem sm_if {α : Type} {f : α → Option Value × cm_W} {c : Prop} [Decidable c] {A B : Option α} {pc1 pc2 : Nat} {lv1 lv2 : cm_lv} {st1 : List Value} (hx : cm_x1 G y ck pc lv st w = some (if c then (pc1, lv, st1, w) else (pc2, lv, st1, w))) (h1 : cm_kp (cm_lq kq pc1) lv = lv1) (h2 : cm_kp (cm_lq kq pc2) lv = lv2)
    (k1 : c → sm G y ck kq pc1 lv1 st1 w (A.map f)) (k2 : ¬ c → sm G y ck kq pc2 lv2 st1 w (B.map f)) : sm G y ck kq pc lv st w ((if c then A else B).map f) := by
  by_cases h : c
  · rw [if_pos h] at hx ⊢
    refine sm_x1 hx ?_
    dsimp only
    rw [h1]
    exact k1 h
  · rw [if_neg h] at hx ⊢
    refine sm_x1 hx ?_
    dsimp only
    rw [h2]
    exact k2 h
theorem sm_ift {c : Prop} [Decidable c] {pc1 pc2 : Nat} {lv1 : cm_lv} {st1 : List Value} (hx : cm_x1 G y ck pc lv st w = some (if c then (pc1, lv, st1, w) else (pc2, lv, st1, w))) (h : c) (h1 : cm_kp (cm_lq kq pc1) lv = lv1) (k : sm G y ck kq pc1 lv1 st1 w o) : sm G y ck kq pc lv st w o := by
  rw [if_pos h] at hx
  subst h1
  exact sm_x1 hx k
theorem sm_iff {c : Prop} [Decidable c] {pc1 pc2 : Nat} {lv1 : cm_lv} {st1 : List Value} (hx : cm_x1 G y ck pc lv st w = some (if c then (pc1, lv, st1, w) else (pc2, lv, st1, w))) (h : ¬ c) (h1 : cm_kp (cm_lq kq pc2) lv = lv1) (k : sm G y ck kq pc2 lv1 st1 w o) : sm G y ck kq pc lv st w o := by
  rw [if_neg h] at hx
  subst h1
  exact sm_x1 hx k
theorem cm_x1_of {d : cm_D} {z : cm_Z} (hd : cm_lk ck pc = some d) (hi : cm_isc d.1 = false) (hre : cm_re G y d.1 st = none) (hx : cm_ex G y pc d lv st w = some z) : cm_x1 G y ck pc lv st w = some z := by
  unfold cm_x1
  rw [hd]
  dsimp only
  rw [if_neg (by rw [hi]; exact fun q => by cases q), hre]
  exact hx
def cm_isi (t : FieldType) : Bool := match t with
  | .int => true
  | .boolean => true
  | .byte => true
  | _ => false
def cm_isr (t : FieldType) : Bool := match t with
  | .object _ => true
  | .array _ => true
  | _ => false
variable {idx ci k a : Nat} {kv : Value} {ops : List Nat} {α : Type} {f : α → Option Value × cm_W}
theorem sm_gI (hd : cm_lk ck pc = some (.getfield idx, 3, [ci, k], kv)) (hg : cm_sh w a = some (.inl ci)) (ht : cm_isi (cm_ty G ci k) = true) (kk : sm G y ck kq (pc + 3) (cm_kp (cm_lq kq (pc + 3)) lv) (.int (cm_I w a k) :: st) w o) : sm G y ck kq pc lv (.ref a :: st) w o := by
  refine sm_x1 (z := (pc + 3, lv, .int (cm_I w a k) :: st, w)) (cm_x1_of hd rfl rfl ?_) kk
  show (if w.1 a = some (.inl ci) then some (pc + 3, lv, cm_fv w (cm_ty G ci k) a k :: st, w) else none) = _
  rw [if_pos (show w.1 a = some (.inl ci) from hg)]
  revert ht
  cases cm_ty G ci k <;> intro ht <;> first | rfl | cases ht
theorem sm_gL (hd : cm_lk ck pc = some (.getfield idx, 3, [ci, k], kv)) (hg : cm_sh w a = some (.inl ci)) (ht : cm_ty G ci k = .long) (kk : sm G y ck kq (pc + 3) (cm_kp (cm_lq kq (pc + 3)) lv) (.long (cm_L w a k) :: st) w o) : sm G y ck kq pc lv (.ref a :: st) w o := by
  refine sm_x1 (z := (pc + 3, lv, .long (cm_L w a k) :: st, w)) (cm_x1_of hd rfl rfl ?_) kk
  show (if w.1 a = some (.inl ci) then some (pc + 3, lv, cm_fv w (cm_ty G ci k) a k :: st, w) else none) = _
  rw [if_pos (show w.1 a = some (.inl ci) from hg), ht]
  rfl
theorem sm_gR {A : Nat → Option α} (hd : cm_lk ck pc = some (.getfield idx, 3, [ci, k], kv)) (hg : cm_sh w a = some (.inl ci)) (ht : cm_isr (cm_ty G ci k) = true) (hl : cm_kp (cm_lq kq (pc + 3)) lv = lv') (kk : ∀ b, cm_R w a k = some b → sm G y ck kq (pc + 3) lv' (.ref b :: st) w ((A b).map f)) : sm G y ck kq pc lv (.ref a :: st) w (((cm_R w a k).bind A).map f) := by
  cases hb : cm_R w a k with
  | none => exact sm_no
  | some b =>
    subst hl
    refine sm_x1 (z := (pc + 3, lv, .ref b :: st, w)) (cm_x1_of hd rfl rfl ?_) (kk b hb)
    show (if w.1 a = some (.inl ci) then some (pc + 3, lv, cm_fv w (cm_ty G ci k) a k :: st, w) else none) = _
    rw [if_pos (show w.1 a = some (.inl ci) from hg)]
    have hb' : w.2.2.2.1 a k = some b := hb
    revert ht
    cases cm_ty G ci k <;> intro ht <;> first | (unfold cm_fv; dsimp only; rw [hb']; rfl) | cases ht
theorem cm_wo_of {lo hi : Nat} (h : cm_w2 lo hi a = true) (hr : ((G.2.2.1 y).2.2.2.2.2.2.2.1, (G.2.2.1 y).2.2.2.2.2.2.2.2) = (lo, hi)) : cm_wo G y a = true := by
  cases hr
  exact h
theorem sm_pI {fl : Nat} {x : Int32} {lo hi : Nat} (hd : cm_lk ck pc = some (.putfield idx, 3, [ci, k, fl], kv)) (hg : cm_sh w a = some (.inl ci)) (ht : cm_ty G ci k = .int) (h2 : cm_w2 lo hi a = true) (hr : ((G.2.2.1 y).2.2.2.2.2.2.2.1, (G.2.2.1 y).2.2.2.2.2.2.2.2) = (lo, hi)) (kk : sm G y ck kq (pc + 3) (cm_kp (cm_lq kq (pc + 3)) lv) st (cm_sI w a k x) o) : sm G y ck kq pc lv (.int x :: .ref a :: st) w o := by
  refine sm_x1 (z := (pc + 3, lv, st, cm_sI w a k x)) (cm_x1_of hd rfl rfl ?_) kk
  show (if w.1 a = some (.inl ci) ∧ cm_wo G y a = true then (cm_pv w (cm_ty G ci k) a k (.int x)).map (fun w' => (pc + 3, lv, st, w')) else none) = _
  rw [if_pos (show w.1 a = some (.inl ci) ∧ cm_wo G y a = true from ⟨hg, cm_wo_of h2 hr⟩), ht]
  rfl
theorem sm_pZ {fl : Nat} {x : Int32} {lo hi : Nat} (hd : cm_lk ck pc = some (.putfield idx, 3, [ci, k, fl], kv)) (hg : cm_sh w a = some (.inl ci)) (ht : cm_ty G ci k = .boolean) (h2 : cm_w2 lo hi a = true) (hr : ((G.2.2.1 y).2.2.2.2.2.2.2.1, (G.2.2.1 y).2.2.2.2.2.2.2.2) = (lo, hi)) (h3 : x = 0 ∨ x = 1) (kk : sm G y ck kq (pc + 3) (cm_kp (cm_lq kq (pc + 3)) lv) st (cm_sI w a k x) o) : sm G y ck kq pc lv (.int x :: .ref a :: st) w o := by
  refine sm_x1 (z := (pc + 3, lv, st, cm_sI w a k x)) (cm_x1_of hd rfl rfl ?_) kk
  show (if w.1 a = some (.inl ci) ∧ cm_wo G y a = true then (cm_pv w (cm_ty G ci k) a k (.int x)).map (fun w' => (pc + 3, lv, st, w')) else none) = _
  rw [if_pos (show w.1 a = some (.inl ci) ∧ cm_wo G y a = true from ⟨hg, cm_wo_of h2 hr⟩), ht]
  show (if x = 0 ∨ x = 1 then some (cm_sI w a k x) else none).map _ = _
  rw [if_pos h3]
  rfl
theorem sm_pL {fl : Nat} {x : Int64} {lo hi : Nat} (hd : cm_lk ck pc = some (.putfield idx, 3, [ci, k, fl], kv)) (hg : cm_sh w a = some (.inl ci)) (ht : cm_ty G ci k = .long) (h2 : cm_w2 lo hi a = true) (hr : ((G.2.2.1 y).2.2.2.2.2.2.2.1, (G.2.2.1 y).2.2.2.2.2.2.2.2) = (lo, hi)) (kk : sm G y ck kq (pc + 3) (cm_kp (cm_lq kq (pc + 3)) lv) st (cm_sL w a k x) o) : sm G y ck kq pc lv (.long x :: .ref a :: st) w o := by
  refine sm_x1 (z := (pc + 3, lv, st, cm_sL w a k x)) (cm_x1_of hd rfl rfl ?_) kk
  show (if w.1 a = some (.inl ci) ∧ cm_wo G y a = true then (cm_pv w (cm_ty G ci k) a k (.long x)).map (fun w' => (pc + 3, lv, st, w')) else none) = _
  rw [if_pos (show w.1 a = some (.inl ci) ∧ cm_wo G y a = true from ⟨hg, cm_wo_of h2 hr⟩), ht]
  rfl
theorem sm_pR {fl x : Nat} {lo hi : Nat} (hd : cm_lk ck pc = some (.putfield idx, 3, [ci, k, fl], kv)) (hg : cm_sh w a = some (.inl ci)) (ht : cm_isr (cm_ty G ci k) = true) (h2 : cm_w2 lo hi a = true) (hr : ((G.2.2.1 y).2.2.2.2.2.2.2.1, (G.2.2.1 y).2.2.2.2.2.2.2.2) = (lo, hi)) (kk : sm G y ck kq (pc + 3) (cm_kp (cm_lq kq (pc + 3)) lv) st (cm_sR w a k (some x)) o) : sm G y ck kq pc lv (.ref x :: .ref a :: st) w o := by
  refine sm_x1 (z := (pc + 3, lv, st, cm_sR w a k (some x))) (cm_x1_of hd rfl rfl ?_) kk
  show (if w.1 a = some (.inl ci) ∧ cm_wo G y a = true then (cm_pv w (cm_ty G ci k) a k (.ref x)).map (fun w' => (pc + 3, lv, st, w')) else none) = _
  rw [if_pos (show w.1 a = some (.inl ci) ∧ cm_wo G y a = true from ⟨hg, cm_wo_of h2 hr⟩)]
  revert ht
  cases cm_ty G ci k <;> intro ht <;> first | rfl | cases ht
theorem sm_len {A : Nat → Option α} {len : Nat} (hd : cm_lk ck pc = some (.arraylength, len, ops, kv)) (hl : cm_kp (cm_lq kq (pc + 1)) lv = lv') (kk : ∀ n, cm_al w a = some n → sm G y ck kq (pc + 1) lv' (.int (Int32.ofNat n) :: st) w ((A n).map f)) : sm G y ck kq pc lv (.ref a :: st) w (((cm_al w a).bind A).map f) := by
  cases hb : cm_al w a with
  | none => exact sm_no
  | some n =>
    subst hl
    refine sm_x1 (z := (pc + 1, lv, .int (Int32.ofNat n) :: st, w)) (cm_x1_of hd rfl rfl ?_) (kk n hb)
    unfold cm_al at hb
    split at hb
    · rename_i t n' e
      cases hb
      show (match w.1 a with | some (.inr (_, n)) => some (pc + 1, lv, Value.int (Int32.ofNat n) :: st, w) | _ => none) = _
      rw [e]
    · cases hb
theorem sm_ai {i : Int32} {len : Nat} (hd : cm_lk ck pc = some (.iaload, len, ops, kv)) (hg : cm_ga w .int a i = true) (hl : cm_kp (cm_lq kq (pc + 1)) lv = lv') (kk : sm G y ck kq (pc + 1) lv' (.int (cm_I w a i.toNatClampNeg) :: st) w o) : sm G y ck kq pc lv (.int i :: .ref a :: st) w o := by
  subst hl
  obtain ⟨n, e, h⟩ := cm_ga_inv hg
  refine sm_x1 (z := (pc + 1, lv, .int (cm_I w a i.toNatClampNeg) :: st, w)) (cm_x1_of hd rfl rfl ?_) kk
  show (match w.1 a with | some (.inr (.int, n)) => if cm_iin i n then some (pc + 1, lv, Value.int (w.2.1 a i.toNatClampNeg) :: st, w) else none | _ => none) = _
  rw [e]
  dsimp only
  rw [if_pos h]
  rfl
theorem sm_ab {i : Int32} {len : Nat} (hd : cm_lk ck pc = some (.baload, len, ops, kv)) (hg : cm_ga w .byte a i = true) (h2 : 2 ≤ a) (hl : cm_kp (cm_lq kq (pc + 1)) lv = lv') (kk : sm G y ck kq (pc + 1) lv' (.int (cm_I w a i.toNatClampNeg) :: st) w o) : sm G y ck kq pc lv (.int i :: .ref a :: st) w o := by
  subst hl
  obtain ⟨n, e, h⟩ := cm_ga_inv hg
  refine sm_x1 (z := (pc + 1, lv, .int (cm_I w a i.toNatClampNeg) :: st, w)) (cm_x1_of hd rfl rfl ?_) kk
  show (match w.1 a with | some (.inr (.byte, n)) => if cm_iin i n ∧ 2 ≤ a then some (pc + 1, lv, Value.int (w.2.1 a i.toNatClampNeg) :: st, w) else none | _ => none) = _
  rw [e]
  dsimp only
  rw [if_pos ⟨h, h2⟩]
  rfl
theorem sm_al {i : Int32} {len : Nat} (hd : cm_lk ck pc = some (.laload, len, ops, kv)) (hg : cm_ga w .long a i = true) (hl : cm_kp (cm_lq kq (pc + 1)) lv = lv') (kk : sm G y ck kq (pc + 1) lv' (.long (cm_L w a i.toNatClampNeg) :: st) w o) : sm G y ck kq pc lv (.int i :: .ref a :: st) w o := by
  subst hl
  obtain ⟨n, e, h⟩ := cm_ga_inv hg
  refine sm_x1 (z := (pc + 1, lv, .long (cm_L w a i.toNatClampNeg) :: st, w)) (cm_x1_of hd rfl rfl ?_) kk
  show (match w.1 a with | some (.inr (.long, n)) => if cm_iin i n then some (pc + 1, lv, Value.long (w.2.2.1 a i.toNatClampNeg) :: st, w) else none | _ => none) = _
  rw [e]
  dsimp only
  rw [if_pos h]
  rfl
theorem sm_aa {i : Int32} {len : Nat} {C : String} {A : Nat → Option α} (hd : cm_lk ck pc = some (.aaload, len, ops, kv)) (hg : cm_ga w (.object C) a i = true) (h2 : 2 ≤ a) (hl : cm_kp (cm_lq kq (pc + 1)) lv = lv') (kk : ∀ b, cm_R w a i.toNatClampNeg = some b → sm G y ck kq (pc + 1) lv' (.ref b :: st) w ((A b).map f)) : sm G y ck kq pc lv (.int i :: .ref a :: st) w (((cm_R w a i.toNatClampNeg).bind A).map f) := by
  cases hb : cm_R w a i.toNatClampNeg with
  | none => exact sm_no
  | some b =>
    subst hl
    obtain ⟨n, e, h⟩ := cm_ga_inv hg
    refine sm_x1 (z := (pc + 1, lv, .ref b :: st, w)) (cm_x1_of hd rfl rfl ?_) (kk b hb)
    show (match w.1 a with | some (.inr (.object _, n)) => if cm_iin i n ∧ 2 ≤ a then some (pc + 1, lv, va_rf (w.2.2.2.1 a i.toNatClampNeg) :: st, w) else none | _ => none) = _
    rw [e]
    dsimp only
    rw [if_pos ⟨h, h2⟩, show w.2.2.2.1 a i.toNatClampNeg = some b from hb]
    rfl
theorem sm_si {i x : Int32} {len lo hi : Nat} (hd : cm_lk ck pc = some (.iastore, len, ops, kv)) (hg : cm_ga w .int a i = true) (h2 : cm_w2 lo hi a = true) (hr : ((G.2.2.1 y).2.2.2.2.2.2.2.1, (G.2.2.1 y).2.2.2.2.2.2.2.2) = (lo, hi)) (hl : cm_kp (cm_lq kq (pc + 1)) lv = lv') (kk : sm G y ck kq (pc + 1) lv' st (cm_sI w a i.toNatClampNeg x) o) : sm G y ck kq pc lv (.int x :: .int i :: .ref a :: st) w o := by
  subst hl
  obtain ⟨n, e, h⟩ := cm_ga_inv hg
  refine sm_x1 (z := (pc + 1, lv, st, cm_sI w a i.toNatClampNeg x)) (cm_x1_of hd rfl rfl ?_) kk
  show (match w.1 a with | some (.inr (.int, n)) => if cm_iin i n ∧ cm_wo G y a = true then some (pc + 1, lv, st, cm_sI w a i.toNatClampNeg x) else none | _ => none) = _
  rw [e]
  dsimp only
  rw [if_pos ⟨h, cm_wo_of h2 hr⟩]
theorem sm_sb {i x : Int32} {len lo hi : Nat} (hd : cm_lk ck pc = some (.bastore, len, ops, kv)) (hg : cm_ga w .byte a i = true) (h2 : cm_w2 lo hi a = true) (hr : ((G.2.2.1 y).2.2.2.2.2.2.2.1, (G.2.2.1 y).2.2.2.2.2.2.2.2) = (lo, hi)) (hl : cm_kp (cm_lq kq (pc + 1)) lv = lv') (kk : sm G y ck kq (pc + 1) lv' st (cm_sI w a i.toNatClampNeg (vp_nar .byte x)) o) : sm G y ck kq pc lv (.int x :: .int i :: .ref a :: st) w o := by
  subst hl
  obtain ⟨n, e, h⟩ := cm_ga_inv hg
  refine sm_x1 (z := (pc + 1, lv, st, cm_sI w a i.toNatClampNeg (vp_nar .byte x))) (cm_x1_of hd rfl rfl ?_) kk
  show (match w.1 a with | some (.inr (.byte, n)) => if cm_iin i n ∧ cm_wo G y a = true then some (pc + 1, lv, st, cm_sI w a i.toNatClampNeg (vp_nar .byte x)) else none | _ => none) = _
  rw [e]
  dsimp only
  rw [if_pos ⟨h, cm_wo_of h2 hr⟩]
theorem sm_sl {i : Int32} {x : Int64} {len lo hi : Nat} (hd : cm_lk ck pc = some (.lastore, len, ops, kv)) (hg : cm_ga w .long a i = true) (h2 : cm_w2 lo hi a = true) (hr : ((G.2.2.1 y).2.2.2.2.2.2.2.1, (G.2.2.1 y).2.2.2.2.2.2.2.2) = (lo, hi)) (hl : cm_kp (cm_lq kq (pc + 1)) lv = lv') (kk : sm G y ck kq (pc + 1) lv' st (cm_sL w a i.toNatClampNeg x) o) : sm G y ck kq pc lv (.long x :: .int i :: .ref a :: st) w o := by
  subst hl
  obtain ⟨n, e, h⟩ := cm_ga_inv hg
  refine sm_x1 (z := (pc + 1, lv, st, cm_sL w a i.toNatClampNeg x)) (cm_x1_of hd rfl rfl ?_) kk
  show (match w.1 a with | some (.inr (.long, n)) => if cm_iin i n ∧ cm_wo G y a = true then some (pc + 1, lv, st, cm_sL w a i.toNatClampNeg x) else none | _ => none) = _
  rw [e]
  dsimp only
  rw [if_pos ⟨h, cm_wo_of h2 hr⟩]
theorem sm_idiv {x z : Int32} {len : Nat} (hd : cm_lk ck pc = some (.idiv, len, ops, kv)) (h : ¬ z = 0) (hl : cm_kp (cm_lq kq (pc + 1)) lv = lv') (kk : sm G y ck kq (pc + 1) lv' (.int (x / z) :: st) w o) : sm G y ck kq pc lv (.int z :: .int x :: st) w o := by
  subst hl
  refine sm_x1 (z := (pc + 1, lv, .int (x / z) :: st, w)) (cm_x1_of hd rfl rfl ?_) kk
  show ((if z = 0 then none else some (Value.int (x / z))).map (fun v => v :: st)).map (fun s => (pc + 1, lv, s, w)) = _
  rw [if_neg h]
  rfl
theorem sm_irem {x z : Int32} {len : Nat} (hd : cm_lk ck pc = some (.irem, len, ops, kv)) (h : ¬ z = 0) (hl : cm_kp (cm_lq kq (pc + 1)) lv = lv') (kk : sm G y ck kq (pc + 1) lv' (.int (x - x / z * z) :: st) w o) : sm G y ck kq pc lv (.int z :: .int x :: st) w o := by
  subst hl
  refine sm_x1 (z := (pc + 1, lv, .int (x - x / z * z) :: st, w)) (cm_x1_of hd rfl rfl ?_) kk
  show ((if z = 0 then none else some (Value.int (x - x / z * z))).map (fun v => v :: st)).map (fun s => (pc + 1, lv, s, w)) = _
  rw [if_neg h]
  rfl
theorem sm_ldiv {x z : Int64} {len : Nat} (hd : cm_lk ck pc = some (.ldiv, len, ops, kv)) (h : ¬ z = 0) (hl : cm_kp (cm_lq kq (pc + 1)) lv = lv') (kk : sm G y ck kq (pc + 1) lv' (.long (x / z) :: st) w o) : sm G y ck kq pc lv (.long z :: .long x :: st) w o := by
  subst hl
  refine sm_x1 (z := (pc + 1, lv, .long (x / z) :: st, w)) (cm_x1_of hd rfl rfl ?_) kk
  show ((if z = 0 then none else some (Value.long (x / z))).map (fun v => v :: st)).map (fun s => (pc + 1, lv, s, w)) = _
  rw [if_neg h]
  rfl
theorem sm_lrem {x z : Int64} {len : Nat} (hd : cm_lk ck pc = some (.lrem, len, ops, kv)) (h : ¬ z = 0) (hl : cm_kp (cm_lq kq (pc + 1)) lv = lv') (kk : sm G y ck kq (pc + 1) lv' (.long (x - x / z * z) :: st) w o) : sm G y ck kq pc lv (.long z :: .long x :: st) w o := by
  subst hl
  refine sm_x1 (z := (pc + 1, lv, .long (x - x / z * z) :: st, w)) (cm_x1_of hd rfl rfl ?_) kk
  show ((if z = 0 then none else some (Value.long (x - x / z * z))).map (fun v => v :: st)).map (fun s => (pc + 1, lv, s, w)) = _
  rw [if_neg h]
  rfl
theorem cm_re_isc {i : Instr} (h : cm_isc i = true) : cm_re G y i st = none := by
  cases i <;> first | rfl | cases h
theorem sm_at {d : cm_D} {st' : List Value} {w' : cm_W} (hd : cm_lk ck pc = some d) (hi : cm_isc d.1 = true) (hx : cm_at G y d.2.2.1 st w = some (st', w')) (kk : sm G y ck kq (pc + 3) (cm_kp (cm_lq kq (pc + 3)) lv) st' w' o) : sm G y ck kq pc lv st w o := by
  intro hc r hr
  obtain ⟨n, hn⟩ := kk hc r hr
  refine ⟨n + 1, ?_⟩
  unfold cm_run
  rw [cm_g1 hc, hd]
  dsimp only
  rw [cm_re_isc hi]
  dsimp only
  rw [if_pos hi, hx]
  dsimp only
  rw [cm_g2 hc]
  exact hn
theorem sm_cp {a0 lo hi : Nat} {sp dp n : Int32} {len : Nat} (hd : cm_lk ck pc = some (.invokestatic idx, len, [11], kv)) (hg : cm_gc w lo hi a0 sp a dp n = true) (hr : ((G.2.2.1 y).2.2.2.2.2.2.2.1, (G.2.2.1 y).2.2.2.2.2.2.2.2) = (lo, hi)) (hs : Nat.ble ((st.map fun (v : Value) => v.category).sum) 8 = true) (hl : cm_kp (cm_lq kq (pc + 3)) lv = lv') (kk : sm G y ck kq (pc + 3) lv' st (cm_cI w a0 sp.toNatClampNeg a dp.toNatClampNeg n.toNatClampNeg) o) : sm G y ck kq pc lv (.int n :: .int dp :: .ref a :: .int sp :: .ref a0 :: st) w o := by
  subst hl
  refine sm_at hd rfl ?_ kk
  unfold cm_gc at hg
  split at hg
  · rename_i n0 n1 e0 e1
    have hg := of_decide_eq_true hg
    obtain ⟨g1, g2, g3, g4, g5, g6, g7⟩ := hg
    show (match w.1 a0, w.1 a with
      | some (.inr (.int, n0)), some (.inr (.int, n1)) => if ¬ sp < 0 ∧ ¬ dp < 0 ∧ ¬ n < 0 ∧ sp.toNatClampNeg + n.toNatClampNeg ≤ n0 ∧ dp.toNatClampNeg + n.toNatClampNeg ≤ n1 ∧ cm_wo G y a = true ∧ 2 ≤ a0 ∧ (st.map fun (v : Value) => v.category).sum ≤ 8 then some (st, cm_cI w a0 sp.toNatClampNeg a dp.toNatClampNeg n.toNatClampNeg) else none
      | some (.inr (.long, n0)), some (.inr (.long, n1)) => if ¬ sp < 0 ∧ ¬ dp < 0 ∧ ¬ n < 0 ∧ sp.toNatClampNeg + n.toNatClampNeg ≤ n0 ∧ dp.toNatClampNeg + n.toNatClampNeg ≤ n1 ∧ cm_wo G y a = true ∧ 2 ≤ a0 ∧ (st.map fun (v : Value) => v.category).sum ≤ 8 then some (st, cm_cL w a0 sp.toNatClampNeg a dp.toNatClampNeg n.toNatClampNeg) else none
      | _, _ => none) = _
    rw [e0, e1]
    dsimp only
    rw [if_pos ⟨g1, g2, g3, g4, g5, cm_wo_of g6 hr, g7, Nat.le_of_ble_eq_true hs⟩]
  · cases hg
theorem cm_at_no {a b c e : Nat} : cm_at G y [a, b, c, e] st w = none := by
  unfold cm_at
  split <;> first | rfl | (rename_i h; cases h)
theorem sm_call {d : cm_D} {y' : Nat} {av rest : List Value} {β : Type} {C : Option β} {A : β → Option α} {g : β → Option Value × cm_W} (hd : cm_lk ck pc = some d) (hi : cm_isc d.1 = true) (hat : cm_at G y d.2.2.1 st w = none) (hsp : cm_sp G d.2.2.1 st w = some (y', av, rest)) (hc' : cm_ca G y' av w (C.map g))
    (kk : ∀ q, C = some q → sm G y ck kq (pc + 3) (cm_kp (cm_lq kq (pc + 3)) lv) ((g q).1.toList ++ rest) (g q).2 ((A q).map f)) : sm G y ck kq pc lv st w ((C.bind A).map f) := by
  cases hq : C with
  | none => exact sm_no
  | some q =>
    intro hc r hr
    obtain ⟨n, hn⟩ := kk q hq hc r hr
    obtain ⟨hok, hrun⟩ := hc'
    obtain ⟨m, hm⟩ := hrun (g q) (by rw [hq]; rfl)
    refine ⟨max n m + 1, ?_⟩
    unfold cm_run
    rw [cm_g1 hc, hd]
    dsimp only
    rw [cm_re_isc hi]
    dsimp only
    rw [if_pos hi, hat]
    dsimp only
    rw [hsp]
    dsimp only
    rw [if_pos hok, cm_fuel m (max n m) _ _ _ _ _ _ (Nat.le_max_right _ _) hm]
    dsimp only
    rw [cm_g2 hc]
    exact cm_fuel n (max n m) _ _ _ _ _ _ (Nat.le_max_left _ _) hn
theorem sm_cV {y' na b len : Nat} {as rest : List Value} {β : Type} {C : Option β} {A : β → Option α} {g : β → Option Value × cm_W} (hd : cm_lk ck pc = some (.invokevirtual idx, len, [0, y', na, ci], kv)) (h1 : (st.take na).reverse = as) (h2 : st.drop na = .ref b :: rest) (hl : cm_kp (cm_lq kq (pc + 3)) lv = lv') (hg : cm_sh w b = some (.inl ci)) (hs : (rest.map fun (v : Value) => v.category).sum ≤ 8) (hc' : cm_ca G y' (.ref b :: as) w (C.map g))
    (kk : ∀ q, C = some q → sm G y ck kq (pc + 3) lv' ((g q).1.toList ++ rest) (g q).2 ((A q).map f)) : sm G y ck kq pc lv st w ((C.bind A).map f) := by
  subst hl
  refine sm_call (y' := y') (av := .ref b :: as) (rest := rest) hd rfl cm_at_no ?_ hc' kk
  unfold cm_sp
  dsimp only
  rw [h2]
  dsimp only
  rw [if_pos (show w.1 b = some (.inl ci) ∧ (rest.map fun (v : Value) => v.category).sum ≤ 8 from ⟨hg, hs⟩), h1]
  rfl
theorem sm_cS {y' na len : Nat} {av rest : List Value} {β : Type} {C : Option β} {A : β → Option α} {g : β → Option Value × cm_W} (hd : cm_lk ck pc = some (.invokestatic idx, len, [1, y', na, ci], kv)) (h1 : ((st.take na).reverse, Nat.ble na st.length) = (av, true)) (h2 : st.drop na = rest) (hl : cm_kp (cm_lq kq (pc + 3)) lv = lv') (hs : (rest.map fun (v : Value) => v.category).sum ≤ 8) (hc' : cm_ca G y' av w (C.map g))
    (kk : ∀ q, C = some q → sm G y ck kq (pc + 3) lv' ((g q).1.toList ++ rest) (g q).2 ((A q).map f)) : sm G y ck kq pc lv st w ((C.bind A).map f) := by
  subst hl
  obtain ⟨h1, h3⟩ := Prod.mk.inj h1
  refine sm_call (y' := y') (av := av) (rest := rest) hd rfl cm_at_no ?_ hc' kk
  show (if na ≤ st.length ∧ (((st.drop na).map fun (v : Value) => v.category).sum ≤ 8) then some (y', (st.take na).reverse, st.drop na) else none) = _
  rw [h2, if_pos ⟨Nat.le_of_ble_eq_true h3, hs⟩, h1]
theorem sm_re {d : cm_D} {rv : Option Value} (hd : cm_lk ck pc = some d) (hr : cm_re G y d.1 st = some rv) : sm G y ck kq pc lv st w (some (rv, w)) := by
  intro hc r h
  cases h
  refine ⟨1, ?_⟩
  unfold cm_run
  rw [cm_g1 hc, hd]
  dsimp only
  rw [hr]
theorem sm_rI {x : Int32} {len : Nat} (hd : cm_lk ck pc = some (.ireturn, len, ops, kv)) (hr : cm_rt G y = some .int) : sm G y ck kq pc lv [.int x] w ((some x).map (cm_fI w)) := by
  refine sm_re (rv := some (.int x)) hd ?_
  show (if cm_rt G y = some .int ∨ (cm_rt G y = some .boolean ∧ (x = 0 ∨ x = 1)) then some (some (Value.int x)) else none) = _
  rw [if_pos (Or.inl hr)]
theorem cm_reB {x : Int32} (hr : cm_rt G y = some .boolean) (h : x = 0 ∨ x = 1) : cm_re G y .ireturn [.int x] = some (some (.int x)) := by
  show (if cm_rt G y = some .int ∨ (cm_rt G y = some .boolean ∧ (x = 0 ∨ x = 1)) then some (some (Value.int x)) else none) = _
  rw [if_pos (Or.inr ⟨hr, h⟩)]
theorem sm_rB {b : Bool} {len : Nat} (hd : cm_lk ck pc = some (.ireturn, len, ops, kv)) (hr : cm_rt G y = some .boolean) : sm G y ck kq pc lv [.int (cm_b b)] w ((some b).map (cm_fB w)) := sm_re (rv := some (.int (cm_b b))) hd (cm_reB hr (cm_b01 b))
theorem cm_bY {x : Int32} (h : x = 0 ∨ x = 1) : cm_b (decide (x = 1)) = x := by rcases h with rfl | rfl <;> decide
theorem sm_rY {x : Int32} {len : Nat} (hd : cm_lk ck pc = some (.ireturn, len, ops, kv)) (hr : cm_rt G y = some .boolean) (h : x = 0 ∨ x = 1) : sm G y ck kq pc lv [.int x] w ((some (decide (x = 1))).map (cm_fB w)) := by
  have e : ((some (decide (x = 1))).map (cm_fB w)) = some (some (Value.int x), w) := by show some (some (Value.int (cm_b (decide (x = 1)))), w) = _; rw [cm_bY h]
  rw [e]
  exact sm_re (rv := some (.int x)) hd (cm_reB hr h)
theorem sm_rL {x : Int64} {len : Nat} (hd : cm_lk ck pc = some (.lreturn, len, ops, kv)) (hr : cm_rt G y = some .long) : sm G y ck kq pc lv [.long x] w ((some x).map (cm_fL w)) := by
  refine sm_re (rv := some (.long x)) hd ?_
  show (if cm_rt G y = some .long then some (some (Value.long x)) else none) = _
  rw [if_pos hr]
theorem sm_rIW {x : Int32} {len : Nat} (hd : cm_lk ck pc = some (.ireturn, len, ops, kv)) (hr : cm_rt G y = some .int) : sm G y ck kq pc lv [.int x] w ((some (x, w)).map cm_gI) := sm_rI hd hr
theorem sm_rBW {b : Bool} {len : Nat} (hd : cm_lk ck pc = some (.ireturn, len, ops, kv)) (hr : cm_rt G y = some .boolean) : sm G y ck kq pc lv [.int (cm_b b)] w ((some (b, w)).map cm_gB) := sm_rB hd hr
theorem sm_rYW {x : Int32} {len : Nat} (hd : cm_lk ck pc = some (.ireturn, len, ops, kv)) (hr : cm_rt G y = some .boolean) (h : x = 0 ∨ x = 1) : sm G y ck kq pc lv [.int x] w ((some (decide (x = 1), w)).map cm_gB) := sm_rY hd hr h
theorem sm_rLW {x : Int64} {len : Nat} (hd : cm_lk ck pc = some (.lreturn, len, ops, kv)) (hr : cm_rt G y = some .long) : sm G y ck kq pc lv [.long x] w ((some (x, w)).map cm_gL) := sm_rL hd hr
theorem sm_rV {len : Nat} (hd : cm_lk ck pc = some (.return_, len, ops, kv)) (hr : cm_rt G y = none) : sm G y ck kq pc lv [] w ((some w).map cm_gV) := by
  refine sm_re (rv := none) hd ?_
  show (if cm_rt G y = none then some none else none) = _
  rw [if_pos hr]
theorem cm_ca_of {av : List Value} (hm : cm_me G y ck kq) (hok : cm_ok G y av = true) (h : sm G y ck kq 0 (lv_args 0 av) [] w o) : cm_ca G y av w o := ⟨hok, h hm⟩
theorem cm_ne {x c : Int32} {z : Int} (h : ¬ x = c) (hc : c.toInt = z) : x.toInt ≠ z := fun q => h (Int32.toInt_inj.mp (by rw [hc]; exact q))
theorem cm_tsd {lo hi dflt : Int} {offs : Array Int} {x : Int32} {n : Nat} (h1 : offs.size = n) (h2 : hi + 1 = lo + n) (h : ∀ j : Nat, j < n → offs[j]? = some dflt ∨ x.toInt ≠ lo + j) : cm_tsw lo hi dflt offs x = some dflt := by
  unfold cm_tsw
  split
  · rfl
  · rename_i hh
    have hlo : ¬ x.toInt < lo := fun q => hh (Or.inl q)
    have hhi : ¬ hi < x.toInt := fun q => hh (Or.inr q)
    rcases h (x.toInt - lo).toNat (by omega) with q | q
    · exact q
    · omega
theorem sm_ts {lo hi dflt off : Int} {offs : Array Int} {len pc1 : Nat} {lv1 : cm_lv} {x : Int32} (hd : cm_lk ck pc = some (.tableswitch dflt lo hi offs, len, ops, kv)) (ho : cm_tsw lo hi dflt offs x = some off) (ht : cm_tg pc off = some pc1) (hl : cm_kp (cm_lq kq pc1) lv = lv1) (kk : sm G y ck kq pc1 lv1 st w o) : sm G y ck kq pc lv (.int x :: st) w o := by
  subst hl
  refine sm_x1 (z := (pc1, lv, st, w)) (cm_x1_of hd rfl rfl ?_) kk
  show (cm_tsw lo hi dflt offs x).bind (fun o => (cm_tg pc o).map (fun t => (t, lv, st, w))) = _
  rw [ho]
  show (cm_tg pc off).map _ = _
  rw [ht]
  rfl
theorem sm_ls {dflt off : Int} {ps : Array (Int × Int)} {len pc1 : Nat} {lv1 : cm_lv} {x : Int32} (hd : cm_lk ck pc = some (.lookupswitch dflt ps, len, ops, kv)) (hp : (ps.toList.zip (ps.toList.drop 1)).all (fun (a, next) => a.1 < next.1) = true) (ho : Op.lookupswitch.offset ps.toList dflt x.toInt = off) (ht : cm_tg pc off = some pc1) (hl : cm_kp (cm_lq kq pc1) lv = lv1) (kk : sm G y ck kq pc1 lv1 st w o) : sm G y ck kq pc lv (.int x :: st) w o := by
  subst hl
  refine sm_x1 (z := (pc1, lv, st, w)) (cm_x1_of hd rfl rfl ?_) kk
  show (if (ps.toList.zip (ps.toList.drop 1)).all (fun (a, next) => a.1 < next.1) = true then (cm_tg pc (Op.lookupswitch.offset ps.toList dflt x.toInt)).map (fun t => (t, lv, st, w)) else none) = _
  rw [if_pos hp, ho, ht]
  rfl
end SM
theorem cm_me_of {y : Nat} {ck : List (List (Nat × cm_D))} {kq : List (Nat × List Nat)} (h1 : cm_cks[y]? = some ck) (h2 : cm_kqs[y]? = some kq) : cm_me cm_g y ck kq := by
  refine ⟨fun pc => ?_, fun pc => ?_⟩
  · show (cm_cks[y]?).bind (fun ck => cm_lk ck pc) = cm_lk ck pc
    rw [h1]
    rfl
  · show (cm_kqs[y]?).bind (fun kq => cm_lq kq pc) = cm_lq kq pc
    rw [h2]
    rfl
