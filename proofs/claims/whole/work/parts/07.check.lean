theorem goodIn_app2 {big a b : List Jvm.Cond} (ha : GoodIn big a) (hb : GoodIn big b) : GoodIn big (a ++ b) := fun w h => (List.mem_append.mp h).elim (ha w) (hb w)
/-- the check of an instruction's row, but for its code words -/
def cm_bw (G : cm_G) (T : List Jvm.Cond) (y : Nat) (d : cm_D) : Bool := match d.1 with
  | .ldc idx => match d.2.2.2 with
    | .int x => decide (Jvm.Cond.constant (cm_ow G y) idx x ∈ T)
    | _ => true
  | .ldc_w idx => match d.2.2.2 with
    | .int x => decide (Jvm.Cond.constant (cm_ow G y) idx x ∈ T)
    | _ => true
  | .ldc2_w idx => match d.2.2.2 with
    | .long x => decide (Jvm.Cond.constantLong (cm_ow G y) idx x ∈ T)
    | _ => true
  | .getfield idx => match d.2.2.1 with
    | [ci, k] => match G.2.2.2.1[ci]? with
      | some r => decide (k < r.2.2) && decide (Jvm.Cond.fieldLink (cm_ow G y) idx (r.2.1 k).1 (r.2.1 k).2.1 (r.2.1 k).2.2.1 ∈ T)
      | none => false
    | _ => true
  | .putfield idx => match d.2.2.1 with
    | [ci, k, _] => match G.2.2.2.1[ci]? with
      | some r => decide (k < r.2.2) && (decide (Jvm.Cond.fieldLink (cm_ow G y) idx (r.2.1 k).1 (r.2.1 k).2.1 (r.2.1 k).2.2.1 ∈ T) && (!(r.2.1 k).2.2.2 || (decide ((G.2.2.1 y).1.name = "<init>") && decide ((r.2.1 k).1 = cm_ow G y))))
      | none => false
    | _ => true
  | .getstatic idx => decide (Jvm.Cond.fieldLink (cm_ow G y) idx "NailedBoxes$Reader" "WORDS" "[J" ∈ T)
  | .new idx => match d.2.2.1 with
    | [ci] => match G.2.2.2.1[ci]? with
      | some r => decide (Jvm.Cond.classLink (cm_ow G y) idx r.1 ∈ T) && (decide (Jvm.Cond.instantiable r.1 r.2.2 ∈ T) && decide (Jvm.Cond.initialized r.1 ∈ T))
      | none => false
    | _ => true
  | .newarray t => decide (Jvm.Cond.arrayClass (newarray.typeOf t) ∈ T)
  | .anewarray idx => match d.2.2.1 with
    | [ci] => match G.2.2.2.1[ci]? with
      | some r => decide (Jvm.Cond.classLink (cm_ow G y) idx r.1 ∈ T) && decide (Jvm.Cond.arrayOver (.object r.1) ∈ cm_Tn)
      | none => false
    | _ => true
  | .istore n => decide (n < cm_ml G y)
  | .istore_n n => decide ((n : Nat) < cm_ml G y)
  | .astore n => decide (n < cm_ml G y)
  | .astore_n n => decide ((n : Nat) < cm_ml G y)
  | .lstore n => decide (n + 1 < cm_ml G y)
  | .lstore_n n => decide ((n : Nat) + 1 < cm_ml G y)
  | .iinc n _ => decide (n < cm_ml G y)
  | _ => true
theorem cm_bw_ok {G : cm_G} {T Ts : List Jvm.Cond} {y : Nat} {d : cm_D} (hT : ∀ w ∈ T, w ∈ Ts) (hN : ∀ w ∈ cm_Tn, w ∈ Ts) (h : cm_bw G T y d = true) : cm_wd G Ts y d := by
  obtain ⟨i, len, ops, kv⟩ := d
  cases i
  case ldc idx => intro x hx; simp only at hx; subst hx; exact hT _ (of_decide_eq_true h)
  case ldc_w idx => intro x hx; simp only at hx; subst hx; exact hT _ (of_decide_eq_true h)
  case ldc2_w idx => intro x hx; simp only at hx; subst hx; exact hT _ (of_decide_eq_true h)
  case getstatic idx => exact hT _ (of_decide_eq_true h)
  case newarray t => exact hT _ (of_decide_eq_true h)
  case istore n =>
    have h : decide (n < cm_ml G y) = true := h
    show n < cm_ml G y
    exact of_decide_eq_true h
  case istore_n n =>
    have h : decide ((n : Nat) < cm_ml G y) = true := h
    show (n : Nat) < cm_ml G y
    exact of_decide_eq_true h
  case astore n =>
    have h : decide (n < cm_ml G y) = true := h
    show n < cm_ml G y
    exact of_decide_eq_true h
  case astore_n n =>
    have h : decide ((n : Nat) < cm_ml G y) = true := h
    show (n : Nat) < cm_ml G y
    exact of_decide_eq_true h
  case lstore n =>
    have h : decide (n + 1 < cm_ml G y) = true := h
    show n + 1 < cm_ml G y
    exact of_decide_eq_true h
  case lstore_n n =>
    have h : decide ((n : Nat) + 1 < cm_ml G y) = true := h
    show (n : Nat) + 1 < cm_ml G y
    exact of_decide_eq_true h
  case iinc n k =>
    have h : decide (n < cm_ml G y) = true := h
    show n < cm_ml G y
    exact of_decide_eq_true h
  case getfield idx =>
    intro ci k hx
    simp only at hx
    subst hx
    simp only [cm_bw] at h
    split at h
    · rename_i r hr
      simp only [Bool.and_eq_true, decide_eq_true_eq] at h
      exact ⟨r, hr, h.1, hT _ h.2⟩
    · cases h
  case putfield idx =>
    intro ci k f hx
    simp only at hx
    subst hx
    simp only [cm_bw] at h
    split at h
    · rename_i r hr
      simp only [Bool.and_eq_true, Bool.or_eq_true, Bool.not_eq_true', decide_eq_true_eq] at h
      refine ⟨r, hr, h.1, hT _ h.2.1, fun hf => ?_⟩
      rcases h.2.2 with q | q
      · rw [hf] at q; cases q
      · exact q
    · cases h
  case new idx =>
    intro ci hx
    simp only at hx
    subst hx
    simp only [cm_bw] at h
    split at h
    · rename_i r hr
      simp only [Bool.and_eq_true, decide_eq_true_eq] at h
      exact ⟨r, hr, hT _ h.1, hT _ h.2.1, hT _ h.2.2⟩
    · cases h
  case anewarray idx =>
    intro ci hx
    simp only at hx
    subst hx
    simp only [cm_bw] at h
    split at h
    · rename_i r hr
      simp only [Bool.and_eq_true, decide_eq_true_eq] at h
      exact ⟨r, hr, hT _ h.1, hN _ h.2⟩
    · cases h
  all_goals trivial
/-- the check of a call's row, but for what is asked of the called method alone -/
def cm_bm (G : cm_G) (y y' : Nat) (na : Nat) : Bool := decide ((parseMethodDescriptor (G.2.2.1 y').1.desc).map (fun d => d.parameters.length) = some na) && (decide ((G.2.2.1 y').2.2.2.2.2.1 + 1 ≤ (G.2.2.1 y).2.2.2.2.2.1) && decide (8 + (cm_ml G y' + 11) + (G.2.2.1 y').2.2.2.2.2.2.1 ≤ (G.2.2.1 y).2.2.2.2.2.2.1))
def cm_bc (G : cm_G) (T : List Jvm.Cond) (y : Nat) (i : Instr) (ops : List Nat) : Bool := match i with
  | .invokespecial idx => match ops with
    | [10] => decide (Jvm.Cond.methodLink (cm_ow G y) idx objectInit ∈ T) && (decide (Jvm.Cond.instanceMethod objectInit ∈ T) && (decide (Jvm.Cond.code objectInit ⟨#[0xb1]⟩ 1 none ∈ T) && (decide (1 ≤ (G.2.2.1 y).2.2.2.2.2.1) && decide (20 ≤ (G.2.2.1 y).2.2.2.2.2.2.1))))
    | [2, y', na, _] => cm_bm G y y' na && (decide (Jvm.Cond.methodLink (cm_ow G y) idx (G.2.2.1 y').1 ∈ T) && (decide (Jvm.Cond.instanceMethod (G.2.2.1 y').1 ∈ T) && (decide ((G.2.2.1 y').1.name = "<init>") && decide (cm_rt G y' = none))))
    | [3, y', na, _] => cm_bm G y y' na && (decide (Jvm.Cond.methodLinkNest (cm_ow G y) idx (G.2.2.1 y').1 "NailedBoxes" ∈ cm_Tn) && (decide (Jvm.Cond.instanceMethod (G.2.2.1 y').1 ∈ T) && (decide ((G.2.2.1 y').1.name = "<init>") && decide (cm_rt G y' = none))))
    | _ => false
  | .invokestatic idx => match ops with
    | [11] => decide (Jvm.Cond.methodLink (cm_ow G y) idx arraycopyName ∈ T) && (decide (Jvm.Cond.native arraycopyName ∈ T) && (decide (Jvm.Cond.static arraycopyName ∈ T) && (decide (Jvm.Cond.initialized "java/lang/System" ∈ T) && (decide (1 ≤ (G.2.2.1 y).2.2.2.2.2.1) && decide (8 + (nativeFrameWords "java/lang/System" "arraycopy" 5 + 11) ≤ (G.2.2.1 y).2.2.2.2.2.2.1)))))
    | [12] => decide (Jvm.Cond.methodLink (cm_ow G y) idx Lib.Math.max.name ∈ T) && (decide (Jvm.Cond.static Lib.Math.max.name ∈ T) && (decide (Jvm.Cond.initialized "java/lang/Math" ∈ T) && (decide (Jvm.Cond.code Lib.Math.max.name Lib.Math.max.code 2 (some .int) ∈ T) && (decide (1 ≤ (G.2.2.1 y).2.2.2.2.2.1) && decide (21 ≤ (G.2.2.1 y).2.2.2.2.2.2.1)))))
    | [13] => decide (Jvm.Cond.methodLink (cm_ow G y) idx Lib.Math.min.name ∈ T) && (decide (Jvm.Cond.static Lib.Math.min.name ∈ T) && (decide (Jvm.Cond.initialized "java/lang/Math" ∈ T) && (decide (Jvm.Cond.code Lib.Math.min.name Lib.Math.min.code 2 (some .int) ∈ T) && (decide (1 ≤ (G.2.2.1 y).2.2.2.2.2.1) && decide (21 ≤ (G.2.2.1 y).2.2.2.2.2.2.1)))))
    | [1, y', na, _] => cm_bm G y y' na && (decide (Jvm.Cond.methodLink (cm_ow G y) idx (G.2.2.1 y').1 ∈ T) && decide (Jvm.Cond.static (G.2.2.1 y').1 ∈ T))
    | _ => false
  | .invokevirtual idx => match ops with
    | [0, y', na, ci] => cm_bm G y y' na && (decide (Jvm.Cond.methodLink (cm_ow G y) idx (G.2.2.1 y').1 ∈ T) && (decide (Jvm.Cond.instanceMethod (G.2.2.1 y').1 ∈ T) && (decide (Jvm.Cond.selects (G.2.2.1 y').1.cls (G.2.2.1 y').1 (G.2.2.1 y').1 ∈ T) && decide ((G.2.2.2.1[ci]?).map (·.1) = some (G.2.2.1 y').1.cls))))
    | _ => false
  | _ => true
/-- which method a row calls -/
def cm_to (i : Instr) (ops : List Nat) : Option Nat := if cm_isc i = true then (match ops with
  | [_, y', _, _] => some y'
  | _ => none) else none
/-- what is asked of a called method -/
def cm_mo (G : cm_G) (Ts : List Jvm.Cond) (y' : Nat) : Prop := Jvm.Cond.code (G.2.2.1 y').1 (G.2.2.1 y').2.1 (cm_ml G y') (cm_rt G y') ∈ Ts ∧ Jvm.Cond.initialized (G.2.2.1 y').1.cls ∈ Ts ∧ ((G.2.2.1 y').1.cls ≠ "java/lang/invoke/MethodHandle" ∧ (G.2.2.1 y').1.cls ≠ "java/lang/invoke/VarHandle") ∧ plainName (G.2.2.1 y').1.cls = true ∧ cm_ow G y' = (G.2.2.1 y').1.cls
theorem cm_bm_ok {G : cm_G} {Ts : List Jvm.Cond} {y y' na : Nat} (h : cm_bm G y y' na = true) (hm : cm_mo G Ts y') : cm_wm G Ts y y' na := by
  unfold cm_bm at h
  simp only [Bool.and_eq_true, decide_eq_true_eq] at h
  obtain ⟨h1, h2, h3, h4, h5⟩ := hm
  exact ⟨⟨h1, h2⟩, ⟨h3.1, h3.2, h.1⟩, h.2, h4, h5⟩
theorem cm_bc_ok {G : cm_G} {T Ts : List Jvm.Cond} {y : Nat} {i : Instr} {ops : List Nat} (hT : ∀ w ∈ T, w ∈ Ts) (hN : ∀ w ∈ cm_Tn, w ∈ Ts) (hm : ∀ y', cm_to i ops = some y' → cm_mo G Ts y') (h : cm_bc G T y i ops = true) : cm_wc G Ts y i ops := by
  unfold cm_bc at h
  unfold cm_wc
  split at h
  · split at h
    · simp only [Bool.and_eq_true, decide_eq_true_eq] at h
      exact ⟨hT _ h.1, hT _ h.2.1, hT _ h.2.2.1, h.2.2.2.1, h.2.2.2.2⟩
    · simp only [Bool.and_eq_true, decide_eq_true_eq] at h
      exact ⟨cm_bm_ok h.1 (hm _ rfl), hT _ h.2.1, hT _ h.2.2.1, h.2.2.2.1, h.2.2.2.2⟩
    · simp only [Bool.and_eq_true, decide_eq_true_eq] at h
      exact ⟨cm_bm_ok h.1 (hm _ rfl), hN _ h.2.1, hT _ h.2.2.1, h.2.2.2.1, h.2.2.2.2⟩
    · cases h
  · split at h
    · simp only [Bool.and_eq_true, decide_eq_true_eq] at h
      exact ⟨hT _ h.1, hT _ h.2.1, hT _ h.2.2.1, hT _ h.2.2.2.1, h.2.2.2.2.1, h.2.2.2.2.2⟩
    · simp only [Bool.and_eq_true, decide_eq_true_eq] at h
      exact ⟨hT _ h.1, hT _ h.2.1, hT _ h.2.2.1, hT _ h.2.2.2.1, h.2.2.2.2.1, h.2.2.2.2.2⟩
    · simp only [Bool.and_eq_true, decide_eq_true_eq] at h
      exact ⟨hT _ h.1, hT _ h.2.1, hT _ h.2.2.1, hT _ h.2.2.2.1, h.2.2.2.2.1, h.2.2.2.2.2⟩
    · simp only [Bool.and_eq_true, decide_eq_true_eq] at h
      exact ⟨cm_bm_ok h.1 (hm _ rfl), hT _ h.2.1, hT _ h.2.2⟩
    · cases h
  · split at h
    · simp only [Bool.and_eq_true, decide_eq_true_eq] at h
      exact ⟨cm_bm_ok h.1 (hm _ rfl), hT _ h.2.1, hT _ h.2.2.1, hT _ h.2.2.2.1, h.2.2.2.2⟩
    · cases h
  · rename_i n1 n2 n3
    split
    · exact absurd rfl (n1 _)
    · exact absurd rfl (n2 _)
    · exact absurd rfl (n3 _)
    · trivial
/-- all of a method's rows -/
def cm_by (G : cm_G) (T : List Jvm.Cond) (nm : Nat) (y : Nat) (ck : List (List (Nat × cm_D))) : Bool := ck.all (fun ch => ch.all (fun q => decide (decode (G.2.2.1 y).2.1 q.1 = .ok (q.2.1, q.2.2.1)) && ((cm_sw q.2.1 || decide (q.2.2.1 = cm_ln q.2.1)) && (cm_bw G T y q.2 && (cm_bc G T y q.2.1 q.2.2.2.1 && (match cm_to q.2.1 q.2.2.2.1 with
  | some y' => decide (y' < nm)
  | none => true))))))
theorem cm_lk_mem {ck : List (List (Nat × cm_D))} {pc : Nat} {d : cm_D} (h : cm_lk ck pc = some d) : ∃ ch ∈ ck, (pc, d) ∈ ch := by
  unfold cm_lk at h
  obtain ⟨ch, h1, h2⟩ := Option.bind_eq_some_iff.mp h
  obtain ⟨q, h3, h4⟩ := Option.map_eq_some_iff.mp h2
  have e : q.1 = pc := by simpa using List.find?_some h3
  refine ⟨ch, List.mem_of_getElem? h1, ?_⟩
  have := List.mem_of_find?_eq_some h3
  rw [← h4, ← e]
  exact this
