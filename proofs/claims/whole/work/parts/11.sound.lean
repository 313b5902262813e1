/-! what a world says of the machine's heap -/
def cm_ad (N0 sa wa : Nat) : Nat → Nat := fun a => if a = 0 then sa else if a = 1 then wa else N0 + (a - 2)
def cm_v (ad : Nat → Nat) (v : Value) : Value := match v with
  | .ref b => .ref (ad b)
  | .int x => .int x
  | .long x => .long x
  | .float x => .float x
  | .double x => .double x
  | .null => .null
  | .retAddr x => .retAddr x
def cm_ac (ad : Nat → Nat) (w : cm_W) (ty : FieldType) (a : Nat) : (Nat → Int32) ⊕ (Nat → Int64) ⊕ (Nat → UInt32) ⊕ (Nat → UInt64) ⊕ (Nat → Option Nat) := match ty with
  | .long => .inr (.inl (w.2.2.1 a))
  | .object _ => .inr (.inr (.inr (.inr (fun j => (w.2.2.2.1 a j).map ad))))
  | _ => .inl (w.2.1 a)
def cm_c (cl : List vw_C) (D : va_G) (tyf : Nat → Nat → FieldType) (ad : Nat → Nat) (U : State) (w : cm_W) (a : Nat) (H : Heap) : Prop := match w.1 a with
  | none => True
  | some (.inl ci) => 2 ≤ a ∧ ∃ r : vw_C, cl[ci]? = some r ∧ t_OB (ad a) (D.1 ci) r.2.2 (D.2 ci) H (fun k => cm_v ad (cm_fv w (tyf ci k) a k))
  | some (.inr q) => (2 ≤ a ∧ ∃ cA : ClassId, H[ad a]? = some (vp_cell cA (q.2, cm_ac ad w q.1 a)) ∧ ArrOfT U cA q.1 ∧ va_RA U cA q.1) ∨
      (a < 2 ∧ ∃ scr : Cell, H[ad a]? = some scr ∧ U.isArrayOf scr q.1 ∧ scr.vm ≠ .unknown ∧ (q.2 ≤ scr.slots.size ∧ scr.slots.size.toInt32 = Int32.ofNat q.2) ∧ ∀ j : Nat, j < q.2 → scr.slots[j]? = some (cm_v ad (cm_fv w q.1 a j)))
def cm_P (G : cm_G) (D : va_G) (N0 sa wa : Nat) (U : State) (w : cm_W) (H : Heap) : Prop :=
  H.size + 2 = N0 + cm_sz w ∧ (2 ≤ cm_sz w ∧ sa < N0 ∧ wa < N0) ∧ (∀ a, w.1 a ≠ none → a < cm_sz w) ∧ (∀ a, cm_c G.2.2.2.1 D G.2.2.2.2 (cm_ad N0 sa wa) U w a H) ∧ va_Z "NailedBoxes$Reader" "WORDS" "[J" (.ref wa) (fun q => N0 ≤ q) U H
theorem cm_c.moved {cl : List vw_C} {D : va_G} {tyf : Nat → Nat → FieldType} {ad : Nat → Nat} {u U : State} {w : cm_W} {a : Nat} {H : Heap} (hvm : u.vm.Alike U.vm) (h : cm_c cl D tyf ad u w a H) : cm_c cl D tyf ad U w a H := by
  unfold cm_c at h ⊢
  split
  · trivial
  · rename_i e; rw [e] at h; exact h
  · rename_i e; rw [e] at h
    rcases h with ⟨h2, cA, h3, h4, h5⟩ | ⟨h2, scr, h3, h4, h5⟩
    · exact Or.inl ⟨h2, cA, h3, arrOfT_moved hvm h4, h5.moved hvm⟩
    · exact Or.inr ⟨h2, scr, h3, State.isArrayOf_alike hvm h4, h5⟩
theorem cm_P.moved {G : cm_G} {D : va_G} {N0 sa wa : Nat} {u U : State} {w : cm_W} {H : Heap} (hvm : u.vm.Alike U.vm) (h : cm_P G D N0 sa wa u w H) : cm_P G D N0 sa wa U w H :=
  ⟨h.1, h.2.1, h.2.2.1, fun a => (h.2.2.2.1 a).moved hvm, h.2.2.2.2.moved hvm⟩
theorem cm_ad_lt {N0 sa wa a : Nat} (h : sa < N0) (h2 : wa < N0) (ha : a < 2) : cm_ad N0 sa wa a < N0 := by
  unfold cm_ad
  split
  · exact h
  · split
    · exact h2
    · omega
theorem cm_ad_ge {N0 sa wa a : Nat} (ha : 2 ≤ a) : cm_ad N0 sa wa a = N0 + (a - 2) := by
  unfold cm_ad
  rw [if_neg (by omega), if_neg (by omega)]
theorem cm_ad_ne {N0 sa wa a b : Nat} (h1 : sa < N0) (h2 : wa < N0) (ha : 2 ≤ a) (hb : b ≠ a) : cm_ad N0 sa wa b ≠ cm_ad N0 sa wa a := by
  rw [cm_ad_ge ha]
  by_cases q : 2 ≤ b
  · rw [cm_ad_ge q]; omega
  · have := cm_ad_lt (a := b) h1 h2 (by omega); omega
/-- a cell of which neither the contents nor the place in the heap have changed -/
theorem cm_c.kept {cl : List vw_C} {D : va_G} {tyf : Nat → Nat → FieldType} {ad : Nat → Nat} {U : State} {w w' : cm_W} {b : Nat} {H H1 : Heap} (h : cm_c cl D tyf ad U w b H) (hs : w'.1 b = w.1 b)
    (hI : w.1 b ≠ none → w'.2.1 b = w.2.1 b) (hL : w.1 b ≠ none → w'.2.2.1 b = w.2.2.1 b) (hR : w.1 b ≠ none → w'.2.2.2.1 b = w.2.2.2.1 b) (hH : w.1 b ≠ none → H1[ad b]? = H[ad b]?) : cm_c cl D tyf ad U w' b H1 := by
  have hf : w.1 b ≠ none → ∀ ty k, cm_fv w' ty b k = cm_fv w ty b k := fun hn ty k => by
    unfold cm_fv
    rw [hI hn, hL hn, hR hn]
  have ha : w.1 b ≠ none → ∀ ty, cm_ac ad w' ty b = cm_ac ad w ty b := fun hn ty => by
    unfold cm_ac
    rw [hI hn, hL hn, hR hn]
  unfold cm_c at h ⊢
  rw [hs]
  split
  · trivial
  · rename_i ci e
    rw [e] at h
    have hn : w.1 b ≠ none := by rw [e]; exact fun q => by cases q
    obtain ⟨h2, r, h3, h4⟩ := h
    refine ⟨h2, r, h3, (h4.kept (hH hn)).to fun k _ => ?_⟩
    rw [hf hn]
  · rename_i q e
    rw [e] at h
    have hn : w.1 b ≠ none := by rw [e]; exact fun q => by cases q
    rcases h with ⟨h2, cA, h3, h4⟩ | ⟨h2, scr, h3, h4, h5, h6, h7⟩
    · exact Or.inl ⟨h2, cA, by rw [hH hn, ha hn]; exact h3, h4⟩
    · exact Or.inr ⟨h2, scr, by rw [hH hn]; exact h3, h4, h5, h6, fun j hj => by rw [hf hn]; exact h7 j hj⟩
/-- after a write to the cell a -/
theorem cm_P.put {G : cm_G} {D : va_G} {N0 sa wa : Nat} {U : State} {w w' : cm_W} {H H1 : Heap} {a : Nat} (h : cm_P G D N0 sa wa U w H) (ha : 2 ≤ a) (hs : w'.1 = w.1) (hz : cm_sz w' = cm_sz w)
    (hI : ∀ b, b ≠ a → w'.2.1 b = w.2.1 b) (hL : ∀ b, b ≠ a → w'.2.2.1 b = w.2.2.1 b) (hR : ∀ b, b ≠ a → w'.2.2.2.1 b = w.2.2.2.1 b) (hH : ∀ q, q ≠ cm_ad N0 sa wa a → H1[q]? = H[q]?) (hz2 : H1.size = H.size)
    (hc : cm_c G.2.2.2.1 D G.2.2.2.2 (cm_ad N0 sa wa) U w' a H1) : cm_P G D N0 sa wa U w' H1 := by
  obtain ⟨h1, h2, h3, h4, h5⟩ := h
  refine ⟨by rw [hz2, hz]; exact h1, by rw [hz]; exact h2, fun b hb => ?_, fun b => ?_, h5.kept fun q hq hq2 => hH q ?_⟩
  · rw [hz]; rw [hs] at hb; exact h3 b hb
  · by_cases e : b = a
    · rw [e]; exact hc
    · exact (h4 b).kept (by rw [hs]) (fun _ => hI b e) (fun _ => hL b e) (fun _ => hR b e) (fun _ => hH _ (cm_ad_ne h2.2.1 h2.2.2 ha e))
  · rw [cm_ad_ge ha]
    omega
/-- after a cell was made -/
theorem cm_P.mk {G : cm_G} {D : va_G} {N0 sa wa : Nat} {U : State} {w : cm_W} {H H1 : Heap} {x : cm_S} {n : Nat} (h : cm_P G D N0 sa wa U w H) (hH : ∀ q, q < H.size → H1[q]? = H[q]?) (hz2 : H1.size = H.size + 1)
    (hc : cm_c G.2.2.2.1 D G.2.2.2.2 (cm_ad N0 sa wa) U (cm_mk w x n) (cm_sz w) H1) : cm_P G D N0 sa wa U (cm_mk w x n) H1 := by
  obtain ⟨h1, h2, h3, h4, h5⟩ := h
  have e1 : cm_sz (cm_mk w x n) = cm_sz w + 1 := rfl
  refine ⟨by rw [hz2, e1]; omega, by rw [e1]; omega, fun b hb => ?_, fun b => ?_, h5.kept fun q hq _ => hH q hq⟩
  · rw [e1]
    by_cases e : b = cm_sz w
    · omega
    · have : (cm_mk w x n).1 b = w.1 b := by show (if b = cm_sz w then _ else _) = _; rw [if_neg e]
      rw [this] at hb
      have := h3 b hb
      omega
  · by_cases e : b = cm_sz w
    · rw [e]; exact hc
    · refine (h4 b).kept ?_ (fun _ => ?_) (fun _ => ?_) (fun _ => ?_) (fun hb => ?_)
      · show (if b = cm_sz w then _ else _) = _; rw [if_neg e]
      · funext k; show (if b = cm_sz w then _ else _) = _; rw [if_neg e]
      · funext k; show (if b = cm_sz w then _ else _) = _; rw [if_neg e]
      · funext k; show (if b = cm_sz w then _ else _) = _; rw [if_neg e]
      · refine hH _ ?_
        have hb2 := h3 b hb
        by_cases q : 2 ≤ b
        · rw [cm_ad_ge q]; omega
        · have := cm_ad_lt (a := b) h2.2.1 h2.2.2 (by omega); omega
/-! locals -/
def cm_lm (ad : Nat → Nat) (lv : cm_lv) : cm_lv := lv.map (fun q => (q.1, cm_v ad q.2))
theorem cm_cat (ad : Nat → Nat) (v : Value) : (cm_v ad v).category = v.category := by cases v <;> rfl
theorem cm_cats (ad : Nat → Nat) (st : List Value) : ((st.map (cm_v ad)).map fun v => v.category) = st.map fun v => v.category := by
  rw [List.map_map]
  exact List.map_congr_left fun v _ => cm_cat ad v
theorem cm_ld_mem {lv : cm_lv} {i : Nat} {v : Value} (h : cm_ld lv i = some v) : (i, v) ∈ lv := by
  unfold cm_ld at h
  obtain ⟨q, h1, h2⟩ := Option.map_eq_some_iff.mp h
  have e : q.1 = i := by simpa using List.find?_some h1
  have := List.mem_of_find?_eq_some h1
  rw [← h2, ← e]
  exact this
theorem cm_ld_has {ad : Nat → Nat} {ls : Array Slot} {nL : Nat} {lv : cm_lv} {i : Nat} {v : Value} (hl : lv_has ls nL (cm_lm ad lv)) (h : cm_ld lv i = some v) : ls[i]? = some (.val (cm_v ad v)) :=
  hl.2.2 (i, cm_v ad v) (List.mem_map.mpr ⟨(i, v), cm_ld_mem h, rfl⟩)
theorem cm_kp_has {ad : Nat → Nat} {ls : Array Slot} {nL : Nat} {lv : cm_lv} (o : Option (List Nat)) (hl : lv_has ls nL (cm_lm ad lv)) : lv_has ls nL (cm_lm ad (cm_kp o lv)) := by
  refine ⟨hl.1, hl.2.1, fun q hq => ?_⟩
  obtain ⟨q', h1, rfl⟩ := List.mem_map.mp hq
  unfold cm_kp at h1
  cases o with
  | none => exact hl.2.2 _ (List.mem_map.mpr ⟨q', h1, rfl⟩)
  | some ks =>
    obtain ⟨k, -, h2⟩ := List.mem_filterMap.mp h1
    obtain ⟨v, h3, rfl⟩ := Option.map_eq_some_iff.mp h2
    exact cm_ld_has hl h3
theorem cm_lm1 (ad : Nat → Nat) (lv : cm_lv) (i : Nat) (v : Value) : cm_lm ad (cm_s1 lv i v) = (i, cm_v ad v) :: (cm_lm ad lv).filter (fun q => !(q.1 == i) && !(q.1 + 1 == i && q.2.category == 2)) := by
  unfold cm_s1 cm_lm
  rw [List.map_cons, List.filter_map]
  congr 2
  refine List.filter_congr fun q _ => ?_
  simp [cm_cat]
theorem cm_lm2 (ad : Nat → Nat) (lv : cm_lv) (i : Nat) (v : Value) : cm_lm ad (cm_s2 lv i v) = (i, cm_v ad v) :: (cm_lm ad lv).filter (fun q => !(q.1 == i) && (!(q.1 == i + 1) && !(q.1 + 1 == i && q.2.category == 2))) := by
  unfold cm_s2 cm_lm
  rw [List.map_cons, List.filter_map]
  congr 2
  refine List.filter_congr fun q _ => ?_
  simp [cm_cat]
theorem cm_i1_inv {f : Int32 → Option Value} {st st' : List Value} (h : cm_i1 f st = some st') : ∃ x r v, st = .int x :: r ∧ f x = some v ∧ st' = v :: r := by
  unfold cm_i1 at h
  split at h
  · obtain ⟨v, h1, h2⟩ := Option.map_eq_some_iff.mp h
    exact ⟨_, _, v, rfl, h1, h2.symm⟩
  · cases h
theorem cm_i2_inv {f : Int32 → Int32 → Option Value} {st st' : List Value} (h : cm_i2 f st = some st') : ∃ x z r v, st = .int z :: .int x :: r ∧ f x z = some v ∧ st' = v :: r := by
  unfold cm_i2 at h
  split at h
  · obtain ⟨v, h1, h2⟩ := Option.map_eq_some_iff.mp h
    exact ⟨_, _, _, v, rfl, h1, h2.symm⟩
  · cases h
theorem cm_l2_inv {f : Int64 → Int64 → Option Value} {st st' : List Value} (h : cm_l2 f st = some st') : ∃ x z r v, st = .long z :: .long x :: r ∧ f x z = some v ∧ st' = v :: r := by
  unfold cm_l2 at h
  split at h
  · obtain ⟨v, h1, h2⟩ := Option.map_eq_some_iff.mp h
    exact ⟨_, _, _, v, rfl, h1, h2.symm⟩
  · cases h
theorem cm_tg_inv {pc : Nat} {off : Int} {t : Nat} (h : cm_tg pc off = some t) : (pc : Int) + off = (t : Int) := by
  unfold cm_tg at h
  split at h
  · cases h; omega
  · cases h
