/-! one step of the clean machine is a step of the machine -/
def cm_X (G : cm_G) (D : va_G) (Ts : List Jvm.Cond) (p : Program) (R : Room) (s : State) (m : MethodId) (args : Array Value) (meth : Method) (c : Code) (y : Nat) : Prop :=
  p.tables.exec = Jvm.exec ∧ c.code = (G.2.2.1 y).2.1 ∧ c.maxLocals = cm_ml G y ∧ s.vm.findClass (cm_ow G y) = some m.cls ∧ (∀ w ∈ Ts, w.before args s = true) ∧ va_K D G.2.2.2.1 [] s ∧
  ((G.2.2.1 y).1.name = "<init>" → meth.name = "<init>") ∧ (G.2.2.1 y).2.2.2.2.2.1 ≤ R.frames ∧ (G.2.2.1 y).2.2.2.2.2.2.1 ≤ R.locals
section CMS
variable {p : Program} {l : Launch} {e : Env} {R : Room} {s : State} {m : MethodId} {args : Array Value} {below : List Frame} {meth : Method} {c : Code} {H : Heap} {locs : List Loc} {cells slots : Nat} {Q : State → Prop}
variable {G : cm_G} {D : va_G} {Ts : List Jvm.Cond} {N0 sa wa y pc : Nat} {ls : Array Slot} {lv : cm_lv} {st : List Value} {w : cm_W} {d : cm_D} {z : cm_Z}
theorem cm_iin_in {i : Int32} {n : Nat} (h : cm_iin i n = true) : vp_in i n := by
  unfold cm_iin at h
  unfold vp_in
  simpa using h
theorem cm_arr {a : Nat} {ty : FieldType} {n : Nat} (hP : cm_P G D N0 sa wa s w H) (h : w.1 a = some (.inr (ty, n))) (ha : 2 ≤ a) : ∃ cA : ClassId, H[cm_ad N0 sa wa a]? = some (vp_cell cA (n, cm_ac (cm_ad N0 sa wa) w ty a)) ∧ ArrOfT s cA ty ∧ va_RA s cA ty := by
  have hc := hP.2.2.2.1 a
  unfold cm_c at hc
  rw [h] at hc
  rcases hc with ⟨-, hc⟩ | ⟨h2, -⟩
  · exact hc
  · omega
theorem cm_rsz {k n : Nat} (h : k = n) : n ≤ k ∧ k.toInt32 = Int32.ofNat n := by subst h; exact ⟨Nat.le_refl _, rfl⟩
theorem cm_rin {i : Int32} {n k : Nat} (h : vp_in i n) (hk : n ≤ k) : ¬ (i < 0 ∨ k ≤ i.toNatClampNeg) := fun q => h (q.elim Or.inl fun q => Or.inr (Nat.le_trans hk q))
/-- an array's cell, by what is read of it -/
theorem cm_rd {a : Nat} {ty : FieldType} {n : Nat} (hP : cm_P G D N0 sa wa s w H) (h : w.1 a = some (.inr (ty, n))) (hty : ty = .int ∨ ty = .long ∨ ty = .byte ∨ ∃ C, ty = .object C) : ∃ scr : Cell, H[cm_ad N0 sa wa a]? = some scr ∧ s.isArrayOf scr ty ∧ scr.vm ≠ .unknown ∧ (n ≤ scr.slots.size ∧ scr.slots.size.toInt32 = Int32.ofNat n) ∧ ∀ j : Nat, j < n → scr.slots[j]? = some (cm_v (cm_ad N0 sa wa) (cm_fv w ty a j)) := by
  have hc := hP.2.2.2.1 a
  unfold cm_c at hc
  rw [h] at hc
  rcases hc with ⟨-, cA, h1, h2, -⟩ | ⟨-, hc⟩
  · rcases hty with rfl | rfl | rfl | ⟨C, rfl⟩
    · exact ⟨_, h1, h2 n _, (fun q => by cases q), cm_rsz (arrV_size _ _ _), fun j hj => arrV_read _ _ hj⟩
    · exact ⟨_, h1, h2 n _, (fun q => by cases q), cm_rsz (arrV_size _ _ _), fun j hj => arrV_read _ _ hj⟩
    · exact ⟨_, h1, h2 n _, (fun q => by cases q), cm_rsz (arrV_size _ _ _), fun j hj => arrV_read _ _ hj⟩
    · refine ⟨_, h1, h2 n _, (fun q => by cases q), cm_rsz (arrV_size _ _ _), fun j hj => ?_⟩
      refine (arrV_read _ _ hj).trans ?_
      show some (va_rf ((w.2.2.2.1 a j).map _)) = some (cm_v _ (va_rf (w.2.2.2.1 a j)))
      cases w.2.2.2.1 a j <;> rfl
  · exact hc
theorem cm_sv_inv {i : Nat} {v : Value} {lv' : cm_lv} (h : cm_sv lv i v = some lv') : (v.category = 2 ∧ lv' = cm_s2 lv i v) ∨ (v.category = 1 ∧ lv' = cm_s1 lv i v) := by
  unfold cm_sv at h
  cases v <;> simp only at h
  case long x => cases h; exact Or.inl ⟨rfl, rfl⟩
  case float x => cases h
  case double x => cases h
  case retAddr x => cases h
  all_goals (cases h; exact Or.inr ⟨rfl, rfl⟩)
theorem cm_if_inv {off : Int} {P : Prop} [Decidable P] {r : List Value} (hex : cm_if pc off P lv r w = some z) : ∃ tgt : Nat, (pc : Int) + off = (tgt : Int) ∧ (P → z = (tgt, lv, r, w)) ∧ (¬ P → z = (pc + 3, lv, r, w)) := by
  unfold cm_if at hex
  obtain ⟨t, e1, e2⟩ := Option.map_eq_some_iff.mp hex
  refine ⟨t, cm_tg_inv e1, fun h => ?_, fun h => ?_⟩
  · rw [if_pos h] at e2; exact e2.symm
  · rw [if_neg h] at e2; exact e2.symm
theorem cm_pv_spec {w' : cm_W} {ty : FieldType} {a k : Nat} {v : Value} (ad : Nat → Nat) (h : cm_pv w ty a k v = some w') : (narrow ty (cm_v ad v) = cm_v ad v ∧ fits ty (cm_v ad v) = true) ∧ (w'.1 = w.1 ∧ cm_sz w' = cm_sz w ∧ cm_ns w' = cm_ns w) ∧ ((∀ b, b ≠ a → w'.2.1 b = w.2.1 b) ∧ (∀ b, b ≠ a → w'.2.2.1 b = w.2.2.1 b) ∧ ∀ b, b ≠ a → w'.2.2.2.1 b = w.2.2.2.1 b) ∧ cm_fv w' ty a k = v ∧ ∀ k' ty', k' ≠ k → cm_fv w' ty' a k' = cm_fv w ty' a k' := by
  have up : ∀ {α : Type} (f : Nat → Nat → α) (x : α) (b : Nat), b ≠ a → cm_up f a k x b = f b := fun f x b hb => by funext j; simp [cm_up, hb]
  have up1 : ∀ {α : Type} (f : Nat → Nat → α) (x : α), cm_up f a k x a k = x := fun f x => by simp [cm_up]
  have up2 : ∀ {α : Type} (f : Nat → Nat → α) (x : α) (j : Nat), j ≠ k → cm_up f a k x a j = f a j := fun f x j hj => by simp [cm_up, hj]
  have hI : ∀ x, w' = cm_sI w a k x → (w'.1 = w.1 ∧ cm_sz w' = cm_sz w ∧ cm_ns w' = cm_ns w) ∧ ((∀ b, b ≠ a → w'.2.1 b = w.2.1 b) ∧ (∀ b, b ≠ a → w'.2.2.1 b = w.2.2.1 b) ∧ ∀ b, b ≠ a → w'.2.2.2.1 b = w.2.2.2.1 b) ∧ w'.2.1 a k = x ∧ ∀ k' ty', k' ≠ k → cm_fv w' ty' a k' = cm_fv w ty' a k' := by
    intro x e
    subst e
    refine ⟨⟨rfl, rfl, rfl⟩, ⟨fun b hb => up _ _ b hb, fun _ _ => rfl, fun _ _ => rfl⟩, up1 _ _, fun k' ty' hk => ?_⟩
    cases ty' <;> (try rfl) <;> exact congrArg Value.int (up2 _ _ _ hk)
  have hL : ∀ x, w' = cm_sL w a k x → (w'.1 = w.1 ∧ cm_sz w' = cm_sz w ∧ cm_ns w' = cm_ns w) ∧ ((∀ b, b ≠ a → w'.2.1 b = w.2.1 b) ∧ (∀ b, b ≠ a → w'.2.2.1 b = w.2.2.1 b) ∧ ∀ b, b ≠ a → w'.2.2.2.1 b = w.2.2.2.1 b) ∧ w'.2.2.1 a k = x ∧ ∀ k' ty', k' ≠ k → cm_fv w' ty' a k' = cm_fv w ty' a k' := by
    intro x e
    subst e
    refine ⟨⟨rfl, rfl, rfl⟩, ⟨fun _ _ => rfl, fun b hb => up _ _ b hb, fun _ _ => rfl⟩, up1 _ _, fun k' ty' hk => ?_⟩
    cases ty' <;> (try rfl) <;> exact congrArg Value.long (up2 _ _ _ hk)
  have hR : ∀ x, w' = cm_sR w a k x → (w'.1 = w.1 ∧ cm_sz w' = cm_sz w ∧ cm_ns w' = cm_ns w) ∧ ((∀ b, b ≠ a → w'.2.1 b = w.2.1 b) ∧ (∀ b, b ≠ a → w'.2.2.1 b = w.2.2.1 b) ∧ ∀ b, b ≠ a → w'.2.2.2.1 b = w.2.2.2.1 b) ∧ w'.2.2.2.1 a k = x ∧ ∀ k' ty', k' ≠ k → cm_fv w' ty' a k' = cm_fv w ty' a k' := by
    intro x e
    subst e
    refine ⟨⟨rfl, rfl, rfl⟩, ⟨fun _ _ => rfl, fun _ _ => rfl, fun b hb => up _ _ b hb⟩, up1 _ _, fun k' ty' hk => ?_⟩
    cases ty' <;> (try rfl) <;> exact congrArg va_rf (up2 _ _ _ hk)
  unfold cm_pv at h
  split at h
  · obtain ⟨h1, h2, h3, h4⟩ := hL _ (Option.some.inj h).symm
    exact ⟨⟨rfl, rfl⟩, h1, h2, congrArg Value.long h3, h4⟩
  · obtain ⟨h1, h2, h3, h4⟩ := hR _ (Option.some.inj h).symm
    exact ⟨⟨rfl, rfl⟩, h1, h2, congrArg va_rf h3, h4⟩
  · obtain ⟨h1, h2, h3, h4⟩ := hR _ (Option.some.inj h).symm
    exact ⟨⟨rfl, rfl⟩, h1, h2, congrArg va_rf h3, h4⟩
  · obtain ⟨h1, h2, h3, h4⟩ := hR _ (Option.some.inj h).symm
    exact ⟨⟨rfl, rfl⟩, h1, h2, congrArg va_rf h3, h4⟩
  · obtain ⟨h1, h2, h3, h4⟩ := hR _ (Option.some.inj h).symm
    exact ⟨⟨rfl, rfl⟩, h1, h2, congrArg va_rf h3, h4⟩
  · obtain ⟨h1, h2, h3, h4⟩ := hI _ (Option.some.inj h).symm
    exact ⟨⟨rfl, rfl⟩, h1, h2, congrArg Value.int h3, h4⟩
  · split at h
    · rename_i hx
      obtain ⟨h1, h2, h3, h4⟩ := hI _ (Option.some.inj h).symm
      refine ⟨?_, h1, h2, congrArg Value.int h3, h4⟩
      rcases hx with rfl | rfl
      · exact ⟨show narrow .boolean (.int 0) = .int 0 by decide, show fits .boolean (.int 0) = true by decide⟩
      · exact ⟨show narrow .boolean (.int 1) = .int 1 by decide, show fits .boolean (.int 1) = true by decide⟩
    · cases h
  · cases h
theorem cm_st_put {idx len : Nat} {ops : List Nat} {kv : Value} (hX : cm_X G D Ts p R s m args meth c y) (hC : cm_Cok G Ts) (hdec : decode (G.2.2.1 y).2.1 pc = .ok (.putfield idx, 3)) (hwd : cm_wd G Ts y (.putfield idx, len, ops, kv)) (hex : cm_ex G y pc (.putfield idx, len, ops, kv) lv st w = some z)
    (hP : cm_P G D N0 sa wa s w H) (hL : ∀ q ∈ locs, N0 ≤ q.base) (hl : lv_has ls (cm_ml G y) (cm_lm (cm_ad N0 sa wa) lv))
    (kk : ∀ (H' : Heap) (locs' : List Loc) (ls' : Array Slot) (cells' slots' : Nat), cm_P G D N0 sa wa s z.2.2.2 H' → (∀ q ∈ locs', N0 ≤ q.base) → lv_has ls' (cm_ml G y) (cm_lm (cm_ad N0 sa wa) z.2.1) → cells' + cm_sz w = cells + cm_sz z.2.2.2 → slots' + cm_ns w = slots + cm_ns z.2.2.2 → W p l e R s m args below meth c H' locs' cells' slots' Q (F0 m z.1 ls' (z.2.2.1.map (cm_v (cm_ad N0 sa wa))))) :
    W p l e R s m args below meth c H locs cells slots Q (F0 m pc ls (st.map (cm_v (cm_ad N0 sa wa)))) := by
  obtain ⟨hx, hb, hml, hown, hts, hK, hinit, hfr, hlo⟩ := hX
  simp only [cm_ex] at hex
  split at hex
  · rename_i ci k f v a r
    split at hex
    · rename_i hh
      obtain ⟨ha, hao⟩ := hh
      have ha2 := cm_wo2 hao
      obtain ⟨w', e1, rfl⟩ := Option.map_eq_some_iff.mp hex
      obtain ⟨⟨hn, hf⟩, ⟨es, ez, en⟩, ⟨eI, eL, eR⟩, ev, ev2⟩ := cm_pv_spec (cm_ad N0 sa wa) e1
      obtain ⟨q, hq, hk, hlink, hfin⟩ := hwd ci k f rfl
      have hc := hP.2.2.2.1 a
      unfold cm_c at hc
      rw [ha] at hc
      obtain ⟨-, q', hq', cell, q1, q2, q3, q4⟩ := hc
      obtain rfl := Option.some.inj (hq'.symm.trans hq)
      obtain ⟨hu, hty, hnm, -⟩ := hC ci _ hq
      obtain ⟨hS, hfc, kC, hkC, hkind⟩ := hK.1 ci _ hq
      obtain ⟨cf, kf, fi, fd, hi, hsl⟩ := hS k hk
      have hap := va_apart (own := "") hts hu (G.2.2.2.2 ci) hty hnm hK hq
      have hst := (u_facts hfc hkC (u_lays hts hu hk) hi).1
      have hlay := hts _ (hu _ (u_in_lay hk))
      have fin : ∀ (H' : Heap), H'[cm_ad N0 sa wa a]? = some (cell.setSlot fd.slot (cm_v (cm_ad N0 sa wa) v)) → H'.size = H.size → (∀ q, q ≠ cm_ad N0 sa wa a → H'[q]? = H[q]?) → W p l e R s m args below meth c H' (locs ++ [⟨cm_ad N0 sa wa a, fd.slot⟩]) cells slots Q (F0 m (pc + 3) ls (r.map (cm_v (cm_ad N0 sa wa)))) := by
        intro H' e1 e2 e3
        refine kk H' _ ls cells slots (hP.put ha2 es ez eI eL eR e3 e2 ?_) (t_lc (free := fun q => N0 ≤ q) hL (by rw [cm_ad_ge ha2]; exact Nat.le_add_right _ _)) hl (by rw [ez]) (by rw [en])
        unfold cm_c
        rw [show w'.1 a = some (.inl ci) by rw [es]; exact ha]
        refine ⟨ha2, q', hq, ?_⟩
        refine t_OB.to (V := updV (fun k => cm_v (cm_ad N0 sa wa) (cm_fv w (G.2.2.2.2 ci k) a k)) k (cm_v (cm_ad N0 sa wa) v)) ⟨_, e1, q2, q3, by rw [hsl]; exact t_set q4 hap hk _⟩ (fun j hj => ?_)
        unfold updV
        by_cases hjk : j = k
        · rw [if_pos hjk, hjk]
          show _ = cm_v _ (cm_fv w' (G.2.2.2.2 ci k) a k)
          rw [show cm_fv w' (G.2.2.2.2 ci k) a k = v from ev]
        · rw [if_neg hjk, ev2 j _ hjk]
      by_cases hfl : (q'.2.1 k).2.2.2 = true
      · obtain ⟨hi1, hi2⟩ := hfin hfl
        unfold u_lay at hlay
        rw [if_pos hfl] at hlay
        have hcf : m.cls = cf := by
          obtain ⟨_, _, c', _, _, _, -, -, hf', -, -, -, hown2, -⟩ := Cond.laysFinal_spec hlay
          have e1 : c' = cf := by have := hi.symm.trans hf'; simp at this; exact this.1.symm
          rw [hi2] at hown2
          rw [← e1]; exact Option.some.inj (hown.symm.trans hown2)
        have h6 := u_fits hfc hkC hkind (Or.inr hlay) hi (hty k hk) hn hf
        exact W.putFinK hx hb hown (hts _ hlink) hi hst hcf (hinit hi1) (by rw [q2]; exact h6) q1 q3 (by rw [hsl]; exact k2_hasslot (q4 k hk)) rfl rfl hdec fin
      · unfold u_lay at hlay
        rw [if_neg hfl] at hlay
        have h6 := u_store hfc hkC hkind hlay hi (hty k hk) hn hf
        exact W.putK hx hb (f := fd) ⟨hown, hts _ hlink, ⟨_, _, _, hi⟩, hst⟩ (by rw [q2]; exact h6) q1 q3 (by rw [hsl]; exact k2_hasslot (q4 k hk)) rfl rfl hdec fin
    · cases hex
  · cases hex
theorem cm_aput {w' : cm_W} {a n : Nat} {ty : FieldType} {cA : ClassId} {H' : Heap} (ha : 2 ≤ a) (e : w'.1 a = some (.inr (ty, n))) (hc : H'[cm_ad N0 sa wa a]? = some (vp_cell cA (n, cm_ac (cm_ad N0 sa wa) w' ty a))) (h2 : ArrOfT s cA ty) (h3 : va_RA s cA ty) :
    cm_c G.2.2.2.1 D G.2.2.2.2 (cm_ad N0 sa wa) s w' a H' := by
  unfold cm_c
  rw [e]
  exact Or.inl ⟨ha, cA, hc, h2, h3⟩
theorem cm_up_ne {α : Type} (f : Nat → Nat → α) (a k : Nat) (x : α) (b : Nat) (hb : b ≠ a) : cm_up f a k x b = f b := by funext j; simp [cm_up, hb]
theorem cm_up_eq {α : Type} (f : Nat → Nat → α) (a k : Nat) (x : α) : cm_up f a k x a = va_up (f a) k x := by
  funext j
  unfold cm_up va_up
  by_cases h : j = k <;> simp [h]
theorem cm_cell_i (cA : ClassId) (n : Nat) (f : Nat → Int32) (k : Nat) (x : Int32) : (vp_cell cA (n, .inl f)).setSlot k (.int x) = vp_cell cA (n, .inl (va_up f k x)) := by
  rw [vp_cell_i, vp_cell_i, arrV_store]
  congr 2
  funext q
  by_cases hq : q = k
  · subst hq; simp [updV, va_up]
  · simp [updV, va_up, hq]
theorem cm_cell_l (cA : ClassId) (n : Nat) (f : Nat → Int64) (k : Nat) (x : Int64) : (vp_cell cA (n, .inr (.inl f))).setSlot k (.long x) = vp_cell cA (n, .inr (.inl (va_up f k x))) := by
  rw [vp_cell_l, vp_cell_l, arrV_store]
  congr 2
  funext q
  by_cases hq : q = k
  · subst hq; simp [updV, va_up]
  · simp [updV, va_up, hq]
theorem cm_cell_q (cA : ClassId) (n : Nat) (f : Nat → Option Nat) (k x : Nat) : (vp_cell cA (n, .inr (.inr (.inr (.inr f))))).setSlot k (.ref x) = vp_cell cA (n, .inr (.inr (.inr (.inr (va_up f k (some x)))))) := by
  rw [vp_cell_q, vp_cell_q, arrV_store]
  congr 2
  funext q
  by_cases hq : q = k
  · subst hq; simp [updV, va_up, va_rf]
  · simp [updV, va_up, hq]
set_option maxHeartbeats 4000000 in
theorem cm_step (hX : cm_X G D Ts p R s m args meth c y) (hC : cm_Cok G Ts) (hI : cm_Iok G Ts) (hd : G.1 y pc = some d) (hex : cm_ex G y pc d lv st w = some z)
    (hP : cm_P G D N0 sa wa s w H) (hL : ∀ q ∈ locs, N0 ≤ q.base) (hl : lv_has ls (cm_ml G y) (cm_lm (cm_ad N0 sa wa) lv)) (hr : cells + cm_sz z.2.2.2 ≤ R.cells + cm_sz w ∧ slots + cm_ns z.2.2.2 ≤ R.slots + cm_ns w)
    (kk : ∀ (H' : Heap) (locs' : List Loc) (ls' : Array Slot) (cells' slots' : Nat), cm_P G D N0 sa wa s z.2.2.2 H' → (∀ q ∈ locs', N0 ≤ q.base) → lv_has ls' (cm_ml G y) (cm_lm (cm_ad N0 sa wa) z.2.1) → cells' + cm_sz w = cells + cm_sz z.2.2.2 → slots' + cm_ns w = slots + cm_ns z.2.2.2 → W p l e R s m args below meth c H' locs' cells' slots' Q (F0 m z.1 ls' (z.2.2.1.map (cm_v (cm_ad N0 sa wa))))) :
    W p l e R s m args below meth c H locs cells slots Q (F0 m pc ls (st.map (cm_v (cm_ad N0 sa wa)))) := by
  obtain ⟨hx, hb, hml, hown, hts, hK, hinit, hfr, hlo⟩ := hX
  obtain ⟨i, len, ops, kv⟩ := d
  obtain ⟨hdec0, hlen0, hwd⟩ := hI y pc _ hd
  have hdec : decode (G.2.2.1 y).2.1 pc = .ok (i, len) := hdec0
  have hlen : cm_sw i = false → len = cm_ln i := hlen0
  clear hdec0 hlen0
  have k0 : ∀ {pc' : Nat} {st' : List Value}, z = (pc', lv, st', w) → W p l e R s m args below meth c H locs cells slots Q (F0 m pc' ls (st'.map (cm_v (cm_ad N0 sa wa)))) := by
    intro pc' st' e
    subst e
    exact kk H locs ls cells slots hP hL hl rfl rfl
  have kst : ∀ {pc' : Nat} {i : Nat} {v : Value} {lv' : cm_lv} {st' : List Value}, cm_sv lv i v = some lv' → v.category = 1 → z = (pc', lv', st', w) → ∀ ls' : Array Slot, lv_has ls' (cm_ml G y) ((i, cm_v (cm_ad N0 sa wa) v) :: (cm_lm (cm_ad N0 sa wa) lv).filter (fun q => !(q.1 == i) && !(q.1 + 1 == i && q.2.category == 2))) → W p l e R s m args below meth c H locs cells slots Q (F0 m pc' ls' (st'.map (cm_v (cm_ad N0 sa wa)))) := by
    intro pc' i v lv' st' e hc ez
    subst ez
    rcases cm_sv_inv e with ⟨h1, h3⟩ | ⟨h1, h3⟩
    · omega
    · subst h3
      exact fun ls' h => kk H locs ls' cells slots hP hL (by rw [cm_lm1]; exact h) rfl rfl
  have kst2 : ∀ {pc' : Nat} {i : Nat} {v : Value} {lv' : cm_lv} {st' : List Value}, cm_sv lv i v = some lv' → v.category = 2 → z = (pc', lv', st', w) → ∀ ls' : Array Slot, lv_has ls' (cm_ml G y) ((i, cm_v (cm_ad N0 sa wa) v) :: (cm_lm (cm_ad N0 sa wa) lv).filter (fun q => !(q.1 == i) && (!(q.1 == i + 1) && !(q.1 + 1 == i && q.2.category == 2)))) → W p l e R s m args below meth c H locs cells slots Q (F0 m pc' ls' (st'.map (cm_v (cm_ad N0 sa wa)))) := by
    intro pc' i v lv' st' e hc ez
    subst ez
    rcases cm_sv_inv e with ⟨h1, h3⟩ | ⟨h1, h3⟩
    · subst h3
      exact fun ls' h => kk H locs ls' cells slots hP hL (by rw [cm_lm2]; exact h) rfl rfl
    · omega
  cases i
  case iconst n => obtain rfl := hlen rfl; cases hex; exact lv_iconst hx hb hdec rfl (k0 rfl)
  case bipush n => obtain rfl := hlen rfl; cases hex; exact lv_bipush hx hb hdec rfl (k0 rfl)
  case sipush n => obtain rfl := hlen rfl; cases hex; exact lv_sipush hx hb hdec rfl (k0 rfl)
  case lconst n => obtain rfl := hlen rfl; cases hex; exact lv_lconst hx hb hdec rfl (k0 rfl)
  case aconst_null => obtain rfl := hlen rfl; cases hex; exact lv_null hx hb hdec (k0 rfl)
  case ldc idx =>
    obtain rfl := hlen rfl
    cases kv <;> simp only [cm_ex] at hex <;> cases hex
    exact lv_ldc hx hb hown (hts _ (hwd _ rfl)) hdec (k0 rfl)
  case ldc_w idx =>
    obtain rfl := hlen rfl
    cases kv <;> simp only [cm_ex] at hex <;> cases hex
    exact lv_ldcw hx hb hown (hts _ (hwd _ rfl)) hdec (k0 rfl)
  case ldc2_w idx =>
    obtain rfl := hlen rfl
    cases kv <;> simp only [cm_ex] at hex <;> cases hex
    exact lv_ldc2 hx hb hown (hts _ (hwd _ rfl)) hdec (k0 rfl)
  case iload n =>
    obtain rfl := hlen rfl
    simp only [cm_ex] at hex
    split at hex
    · rename_i x e; cases hex; exact lv_iload hx hb hdec (cm_ld_has hl e) (k0 rfl)
    · cases hex
  case iload_n n =>
    obtain rfl := hlen rfl
    simp only [cm_ex] at hex
    split at hex
    · rename_i x e; cases hex; exact lv_iload_n hx hb hdec rfl (cm_ld_has hl e) (k0 rfl)
    · cases hex
  case lload n =>
    obtain rfl := hlen rfl
    simp only [cm_ex] at hex
    split at hex
    · rename_i x e; cases hex; exact lv_lload hx hb hdec (cm_ld_has hl e) (k0 rfl)
    · cases hex
  case lload_n n =>
    obtain rfl := hlen rfl
    simp only [cm_ex] at hex
    split at hex
    · rename_i x e; cases hex; exact lv_lload_n hx hb hdec rfl (cm_ld_has hl e) (k0 rfl)
    · cases hex
  case aload n =>
    obtain rfl := hlen rfl
    simp only [cm_ex] at hex
    split at hex
    · rename_i x e; cases hex; exact lv_aload hx hb hdec (cm_ld_has hl e) (k0 rfl)
    · cases hex
  case aload_n n =>
    obtain rfl := hlen rfl
    simp only [cm_ex] at hex
    split at hex
    · rename_i x e; cases hex; exact lv_aload_n hx hb hdec rfl (cm_ld_has hl e) (k0 rfl)
    · cases hex
  case istore n =>
    obtain rfl := hlen rfl
    simp only [cm_ex] at hex
    split at hex
    · obtain ⟨l', e1, rfl⟩ := Option.map_eq_some_iff.mp hex
      have h2 := kst e1 rfl rfl
      exact lv_istore hx hb hdec hl hwd rfl h2
    · cases hex
  case istore_n n =>
    obtain rfl := hlen rfl
    simp only [cm_ex] at hex
    split at hex
    · obtain ⟨l', e1, rfl⟩ := Option.map_eq_some_iff.mp hex
      have h2 := kst e1 rfl rfl
      exact lv_istore_n hx hb hdec rfl hl hwd rfl h2
    · cases hex
  case astore n =>
    obtain rfl := hlen rfl
    simp only [cm_ex] at hex
    split at hex
    · obtain ⟨l', e1, rfl⟩ := Option.map_eq_some_iff.mp hex
      have h2 := kst e1 rfl rfl
      exact lv_astore hx hb hdec hl hwd rfl h2
    · cases hex
  case astore_n n =>
    obtain rfl := hlen rfl
    simp only [cm_ex] at hex
    split at hex
    · obtain ⟨l', e1, rfl⟩ := Option.map_eq_some_iff.mp hex
      have h2 := kst e1 rfl rfl
      exact lv_astore_n hx hb hdec rfl hl hwd rfl h2
    · cases hex
  case lstore n =>
    obtain rfl := hlen rfl
    simp only [cm_ex] at hex
    split at hex
    · obtain ⟨l', e1, rfl⟩ := Option.map_eq_some_iff.mp hex
      have h2 := kst2 e1 rfl rfl
      exact lv_lstore hx hb hdec hl hwd rfl h2
    · cases hex
  case lstore_n n =>
    obtain rfl := hlen rfl
    simp only [cm_ex] at hex
    split at hex
    · obtain ⟨l', e1, rfl⟩ := Option.map_eq_some_iff.mp hex
      have h2 := kst2 e1 rfl rfl
      exact lv_lstore_n hx hb hdec rfl hl hwd rfl h2
    · cases hex
  case iadd => obtain rfl := hlen rfl; obtain ⟨s', h1, rfl⟩ := Option.map_eq_some_iff.mp hex; obtain ⟨x, b, r, v, rfl, h2, rfl⟩ := cm_i2_inv h1; cases h2; exact lv_iadd hx hb hdec (k0 rfl)
  case isub => obtain rfl := hlen rfl; obtain ⟨s', h1, rfl⟩ := Option.map_eq_some_iff.mp hex; obtain ⟨x, b, r, v, rfl, h2, rfl⟩ := cm_i2_inv h1; cases h2; exact lv_isub hx hb hdec (k0 rfl)
  case imul => obtain rfl := hlen rfl; obtain ⟨s', h1, rfl⟩ := Option.map_eq_some_iff.mp hex; obtain ⟨x, b, r, v, rfl, h2, rfl⟩ := cm_i2_inv h1; cases h2; exact lv_imul hx hb hdec (k0 rfl)
  case iand => obtain rfl := hlen rfl; obtain ⟨s', h1, rfl⟩ := Option.map_eq_some_iff.mp hex; obtain ⟨x, b, r, v, rfl, h2, rfl⟩ := cm_i2_inv h1; cases h2; exact lv_iand hx hb hdec (k0 rfl)
  case ior => obtain rfl := hlen rfl; obtain ⟨s', h1, rfl⟩ := Option.map_eq_some_iff.mp hex; obtain ⟨x, b, r, v, rfl, h2, rfl⟩ := cm_i2_inv h1; cases h2; exact lv_ior hx hb hdec (k0 rfl)
  case ishl => obtain rfl := hlen rfl; obtain ⟨s', h1, rfl⟩ := Option.map_eq_some_iff.mp hex; obtain ⟨x, b, r, v, rfl, h2, rfl⟩ := cm_i2_inv h1; cases h2; exact lv_ishl hx hb hdec (k0 rfl)
  case ishr => obtain rfl := hlen rfl; obtain ⟨s', h1, rfl⟩ := Option.map_eq_some_iff.mp hex; obtain ⟨x, b, r, v, rfl, h2, rfl⟩ := cm_i2_inv h1; cases h2; exact lv_ishr hx hb hdec (k0 rfl)
  case iushr => obtain rfl := hlen rfl; obtain ⟨s', h1, rfl⟩ := Option.map_eq_some_iff.mp hex; obtain ⟨x, b, r, v, rfl, h2, rfl⟩ := cm_i2_inv h1; cases h2; exact lv_iushr hx hb hdec rfl (k0 rfl)
  case idiv =>
    obtain rfl := hlen rfl; obtain ⟨s', h1, rfl⟩ := Option.map_eq_some_iff.mp hex; obtain ⟨x, b, r, v, rfl, h2, rfl⟩ := cm_i2_inv h1
    by_cases hz : b = 0
    · rw [if_pos hz] at h2; cases h2
    · rw [if_neg hz] at h2; cases h2; exact lv_idiv hx hb hdec hz (k0 rfl)
  case irem =>
    obtain rfl := hlen rfl; obtain ⟨s', h1, rfl⟩ := Option.map_eq_some_iff.mp hex; obtain ⟨x, b, r, v, rfl, h2, rfl⟩ := cm_i2_inv h1
    by_cases hz : b = 0
    · rw [if_pos hz] at h2; cases h2
    · rw [if_neg hz] at h2; cases h2; exact lv_irem hx hb hdec hz (k0 rfl)
  case ladd => obtain rfl := hlen rfl; obtain ⟨s', h1, rfl⟩ := Option.map_eq_some_iff.mp hex; obtain ⟨x, b, r, v, rfl, h2, rfl⟩ := cm_l2_inv h1; cases h2; exact lv_ladd hx hb hdec (k0 rfl)
  case lsub => obtain rfl := hlen rfl; obtain ⟨s', h1, rfl⟩ := Option.map_eq_some_iff.mp hex; obtain ⟨x, b, r, v, rfl, h2, rfl⟩ := cm_l2_inv h1; cases h2; exact lv_lsub hx hb hdec (k0 rfl)
  case lmul => obtain rfl := hlen rfl; obtain ⟨s', h1, rfl⟩ := Option.map_eq_some_iff.mp hex; obtain ⟨x, b, r, v, rfl, h2, rfl⟩ := cm_l2_inv h1; cases h2; exact lv_lmul hx hb hdec (k0 rfl)
  case lor => obtain rfl := hlen rfl; obtain ⟨s', h1, rfl⟩ := Option.map_eq_some_iff.mp hex; obtain ⟨x, b, r, v, rfl, h2, rfl⟩ := cm_l2_inv h1; cases h2; exact lv_lor hx hb hdec (k0 rfl)
  case ldiv =>
    obtain rfl := hlen rfl; obtain ⟨s', h1, rfl⟩ := Option.map_eq_some_iff.mp hex; obtain ⟨x, b, r, v, rfl, h2, rfl⟩ := cm_l2_inv h1
    by_cases hz : b = 0
    · rw [if_pos hz] at h2; cases h2
    · rw [if_neg hz] at h2; cases h2; exact lv_ldiv hx hb hdec hz (k0 rfl)
  case lrem =>
    obtain rfl := hlen rfl; obtain ⟨s', h1, rfl⟩ := Option.map_eq_some_iff.mp hex; obtain ⟨x, b, r, v, rfl, h2, rfl⟩ := cm_l2_inv h1
    by_cases hz : b = 0
    · rw [if_pos hz] at h2; cases h2
    · rw [if_neg hz] at h2; cases h2; exact lv_lrem hx hb hdec hz (k0 rfl)
  case lcmp => obtain rfl := hlen rfl; obtain ⟨s', h1, rfl⟩ := Option.map_eq_some_iff.mp hex; obtain ⟨x, b, r, v, rfl, h2, rfl⟩ := cm_l2_inv h1; cases h2; exact W.lcmp hx hb hdec (k0 rfl)
  case lshl =>
    obtain rfl := hlen rfl
    simp only [cm_ex] at hex
    split at hex
    · cases hex; exact lv_lshl hx hb hdec rfl (k0 rfl)
    · cases hex
  case lushr =>
    obtain rfl := hlen rfl
    simp only [cm_ex] at hex
    split at hex
    · cases hex; exact lv_lushr hx hb hdec rfl (k0 rfl)
    · cases hex
  case i2l => obtain rfl := hlen rfl; obtain ⟨s', h1, rfl⟩ := Option.map_eq_some_iff.mp hex; obtain ⟨x, r, v, rfl, h2, rfl⟩ := cm_i1_inv h1; cases h2; exact lv_i2l hx hb hdec rfl (k0 rfl)
  case i2b => obtain rfl := hlen rfl; obtain ⟨s', h1, rfl⟩ := Option.map_eq_some_iff.mp hex; obtain ⟨x, r, v, rfl, h2, rfl⟩ := cm_i1_inv h1; cases h2; exact lv_i2b hx hb hdec rfl (k0 rfl)
  case l2i =>
    obtain rfl := hlen rfl
    simp only [cm_ex] at hex
    split at hex
    · cases hex; exact lv_l2i hx hb hdec rfl (k0 rfl)
    · cases hex
  case dup =>
    obtain rfl := hlen rfl
    simp only [cm_ex] at hex
    split at hex
    · split at hex
      · rename_i hc; cases hex; exact lv_dup hx hb hdec (by rw [cm_cat]; exact hc) (k0 rfl)
      · cases hex
    · cases hex
  case pop =>
    obtain rfl := hlen rfl
    simp only [cm_ex] at hex
    split at hex
    · split at hex
      · rename_i hc; cases hex; exact lv_pop hx hb hdec (by rw [cm_cat]; exact hc) (k0 rfl)
      · cases hex
    · cases hex
  case dup2 =>
    obtain rfl := hlen rfl
    simp only [cm_ex] at hex
    split at hex
    · split at hex
      · rename_i hc; cases hex; exact lv_dup2_11 hx hb hdec (by rw [cm_cat]; exact hc.1) (by rw [cm_cat]; exact hc.2) (k0 rfl)
      · cases hex
    · cases hex
  case goto off =>
    obtain rfl := hlen rfl
    obtain ⟨t, h1, rfl⟩ := Option.map_eq_some_iff.mp hex
    exact lv_goto hx hb hdec (cm_tg_inv h1) (k0 rfl)
  case ifCond cc off =>
    obtain rfl := hlen rfl
    simp only [cm_ex] at hex
    split at hex
    · split at hex <;> obtain ⟨t, h1, h2, h3⟩ := cm_if_inv hex
      · exact lv_if_eq hx hb hdec h1 (fun q => k0 (h2 q)) (fun q => k0 (h3 q))
      · exact lv_if_ne hx hb hdec h1 (fun q => k0 (h2 q)) (fun q => k0 (h3 (fun q' => q' q)))
      · exact lv_if_lt hx hb hdec h1 (fun q => k0 (h2 q)) (fun q => k0 (h3 q))
      · exact lv_if_ge hx hb hdec h1 (fun q => k0 (h2 q)) (fun q => k0 (h3 q))
      · exact lv_if_gt hx hb hdec h1 (fun q => k0 (h2 q)) (fun q => k0 (h3 q))
      · exact lv_if_le hx hb hdec h1 (fun q => k0 (h2 q)) (fun q => k0 (h3 q))
    · cases hex
  case if_icmp cc off =>
    obtain rfl := hlen rfl
    simp only [cm_ex] at hex
    split at hex
    · split at hex <;> obtain ⟨t, h1, h2, h3⟩ := cm_if_inv hex
      · exact lv_icmp_eq hx hb hdec h1 (fun q => k0 (h2 q)) (fun q => k0 (h3 q))
      · exact lv_icmp_ne hx hb hdec h1 (fun q => k0 (h2 q)) (fun q => k0 (h3 (fun q' => q' q)))
      · exact lv_icmp_lt hx hb hdec h1 (fun q => k0 (h2 q)) (fun q => k0 (h3 q))
      · exact lv_icmp_ge hx hb hdec h1 (fun q => k0 (h2 q)) (fun q => k0 (h3 q))
      · exact lv_icmp_gt hx hb hdec h1 (fun q => k0 (h2 q)) (fun q => k0 (h3 q))
      · exact lv_icmp_le hx hb hdec h1 (fun q => k0 (h2 q)) (fun q => k0 (h3 q))
    · cases hex
  case tableswitch dflt lo hi offs =>
    simp only [cm_ex] at hex
    split at hex
    · obtain ⟨o, h1, h2⟩ := Option.bind_eq_some_iff.mp hex
      obtain ⟨t, h3, rfl⟩ := Option.map_eq_some_iff.mp h2
      unfold cm_tsw at h1
      split at h1
      · rename_i hh; cases h1; exact lv_tableOut hx hb hdec hh (cm_tg_inv h3) (k0 rfl)
      · rename_i hh; exact lv_tableIn hx hb hdec (fun q => hh (Or.inl q)) (fun q => hh (Or.inr q)) h1 (cm_tg_inv h3) (k0 rfl)
    · cases hex
  case lookupswitch dflt ps =>
    simp only [cm_ex] at hex
    split at hex
    · split at hex
      · rename_i hh
        obtain ⟨t, h3, rfl⟩ := Option.map_eq_some_iff.mp hex
        exact lv_lookup hx hb hdec hh rfl (cm_tg_inv h3) (k0 rfl)
      · cases hex
    · cases hex
  case getstatic idx =>
    obtain rfl := hlen rfl
    cases hex
    obtain ⟨cf, kf, fi, f, a, cell, h1, h2, h3, h4, h5, h6, h7, h8⟩ := hP.2.2.2.2
    exact W.gets hx hb hown (hts _ hwd) h1 h2 h3 h4 h5 (fun e => by rw [e] at h6; cases h6) h7 rfl hdec (k0 rfl)
  case getfield idx =>
    obtain rfl := hlen rfl
    simp only [cm_ex] at hex
    split at hex
    · rename_i ci k a r
      split at hex
      · rename_i ha
        cases hex
        obtain ⟨q, hq, hk, hlink⟩ := hwd ci k rfl
        have hc := hP.2.2.2.1 a
        unfold cm_c at hc
        rw [ha] at hc
        obtain ⟨-, q', hq', cell, q1, q2, q3, q4⟩ := hc
        obtain rfl := Option.some.inj (hq'.symm.trans hq)
        obtain ⟨hS, hfc, kC, hkC, hkind⟩ := hK.1 ci _ hq
        obtain ⟨cf, kf, fi, f, hi, hsl⟩ := hS k hk
        exact W.getf hx hb hown (hts _ hlink) hi (u_facts hfc hkC (u_lays hts (hC ci _ hq).1 hk) hi).1 q1 (by rw [q3]; exact fun h => by cases h) (by rw [hsl]; exact q4 k hk) rfl rfl hdec (k0 rfl)
      · cases hex
    · cases hex
  case putfield idx =>
    obtain rfl := hlen rfl
    exact cm_st_put ⟨hx, hb, hml, hown, hts, hK, hinit, hfr, hlo⟩ hC hdec hwd hex hP hL hl kk
  case arraylength =>
    obtain rfl := hlen rfl
    simp only [cm_ex] at hex
    split at hex
    · split at hex
      · rename_i a r o ty n ea
        cases hex
        have hc := hP.2.2.2.1 a
        unfold cm_c at hc
        rw [ea] at hc
        have key : ∀ scr : Cell, H[cm_ad N0 sa wa a]? = some scr → s.isArrayOf scr ty → scr.slots.size.toInt32 = Int32.ofNat n → W p l e R s m args below meth c H locs cells slots Q (F0 m pc ls ((.ref a :: r).map (cm_v (cm_ad N0 sa wa)))) := by
          intro scr g1 g2 g3
          exact W.alen hx hb (n := Int32.ofNat n) g1 g2 g3 rfl rfl hdec (k0 rfl)
        rcases hc with ⟨-, cA, h1, h2, -⟩ | ⟨-, scr, h1, h2, h3, h4, -⟩
        · have hz : (vp_cell cA (n, cm_ac (cm_ad N0 sa wa) w ty a)).slots.size = n := by
            unfold vp_cell
            split <;> exact arrV_size _ _ _
          refine key _ h1 ?_ (cm_rsz hz).2
          have := h2 n
          unfold vp_cell
          split <;> exact this _
        · exact key scr h1 h2 h4.2
      · cases hex
    · cases hex
  case iaload =>
    obtain rfl := hlen rfl
    simp only [cm_ex] at hex
    split at hex
    · split at hex
      · split at hex
        · rename_i i a r n e hi
          cases hex
          obtain ⟨scr, h1, h2, h3, h4, h5⟩ := cm_rd hP e (Or.inl rfl)
          have hin := cm_iin_in hi
          exact W.iald hx hb h1 h2 h3 (cm_rin hin h4.1) (h5 _ (Nat.not_le.mp fun q => hin (Or.inr q))) rfl rfl hdec (k0 rfl)
        · cases hex
      · cases hex
    · cases hex
  case laload =>
    obtain rfl := hlen rfl
    simp only [cm_ex] at hex
    split at hex
    · split at hex
      · split at hex
        · rename_i i a r n e hi
          cases hex
          obtain ⟨scr, h1, h2, h3, h4, h5⟩ := cm_rd hP e (Or.inr (Or.inl rfl))
          have hin := cm_iin_in hi
          exact W.lald hx hb h1 h2 h3 (cm_rin hin h4.1) (h5 _ (Nat.not_le.mp fun q => hin (Or.inr q))) rfl rfl hdec (k0 rfl)
        · cases hex
      · cases hex
    · cases hex
  case baload =>
    obtain rfl := hlen rfl
    simp only [cm_ex] at hex
    split at hex
    · split at hex
      · split at hex
        · rename_i i a r n e hi
          cases hex
          obtain ⟨scr, h1, h2, h3, h4, h5⟩ := cm_rd hP e (Or.inr (Or.inr (Or.inl rfl)))
          have hin := cm_iin_in hi.1
          exact W.bald hx hb h1 h2 h3 (cm_rin hin h4.1) (h5 _ (Nat.not_le.mp fun q => hin (Or.inr q))) rfl rfl hdec (k0 rfl)
        · cases hex
      · cases hex
    · cases hex
  case aaload =>
    obtain rfl := hlen rfl
    simp only [cm_ex] at hex
    split at hex
    · split at hex
      · split at hex
        · rename_i i a r C n e hi
          cases hex
          obtain ⟨scr, h1, h2, h3, h4, h5⟩ := cm_rd hP e (Or.inr (Or.inr (Or.inr ⟨_, rfl⟩)))
          have hin := cm_iin_in hi.1
          exact W.aald (ty := .object C) hx hb h1 h2 rfl h3 (cm_rin hin h4.1) (h5 _ (Nat.not_le.mp fun q => hin (Or.inr q))) rfl rfl hdec (k0 rfl)
        · cases hex
      · cases hex
    · cases hex
  case iastore =>
    obtain rfl := hlen rfl
    simp only [cm_ex] at hex
    split at hex
    · split at hex
      · split at hex
        · rename_i x i a r o n e hi
          cases hex
          obtain ⟨cA, h1, h2, h3⟩ := cm_arr hP e (cm_wo2 hi.2)
          have hin := cm_iin_in hi.1
          exact W.iast hx hb h1 (h2 n _) (fun q => by cases q) (by show ¬ (i < 0 ∨ (arrV _ _ _).slots.size ≤ _); rw [arrV_size]; exact hin) rfl rfl hdec fun H' e1 e2 e3 =>
            kk H' _ ls cells slots (hP.put (cm_wo2 hi.2) rfl rfl (fun b hb => cm_up_ne _ _ _ _ b hb) (fun _ _ => rfl) (fun _ _ => rfl) e3 e2 (cm_aput (cm_wo2 hi.2) e (by rw [e1]; show some ((vp_cell cA (n, .inl (w.2.1 a))).setSlot _ _) = some (vp_cell cA (n, .inl (cm_up w.2.1 a i.toNatClampNeg x a))); rw [cm_cell_i, cm_up_eq]) h2 h3)) (t_lc (free := fun q => N0 ≤ q) hL (by rw [cm_ad_ge (cm_wo2 hi.2)]; exact Nat.le_add_right _ _)) hl rfl rfl
        · cases hex
      · cases hex
    · cases hex
  case bastore =>
    obtain rfl := hlen rfl
    simp only [cm_ex] at hex
    split at hex
    · split at hex
      · split at hex
        · rename_i x i a r o n e hi
          cases hex
          obtain ⟨cA, h1, h2, h3⟩ := cm_arr hP e (cm_wo2 hi.2)
          have hin := cm_iin_in hi.1
          exact W.bast hx hb h1 (h2 n _) (fun q => by cases q) (by show ¬ (i < 0 ∨ (arrV _ _ _).slots.size ≤ _); rw [arrV_size]; exact hin) rfl rfl hdec fun H' e1 e2 e3 =>
            kk H' _ ls cells slots (hP.put (cm_wo2 hi.2) rfl rfl (fun b hb => cm_up_ne _ _ _ _ b hb) (fun _ _ => rfl) (fun _ _ => rfl) e3 e2 (cm_aput (cm_wo2 hi.2) e (by rw [e1]; show some ((vp_cell cA (n, .inl (w.2.1 a))).setSlot _ (.int (vp_nar .byte x))) = some (vp_cell cA (n, .inl (cm_up w.2.1 a i.toNatClampNeg (vp_nar .byte x) a))); rw [cm_cell_i, cm_up_eq]) h2 h3)) (t_lc (free := fun q => N0 ≤ q) hL (by rw [cm_ad_ge (cm_wo2 hi.2)]; exact Nat.le_add_right _ _)) hl rfl rfl
        · cases hex
      · cases hex
    · cases hex
  case lastore =>
    obtain rfl := hlen rfl
    simp only [cm_ex] at hex
    split at hex
    · split at hex
      · split at hex
        · rename_i x i a r o n e hi
          cases hex
          obtain ⟨cA, h1, h2, h3⟩ := cm_arr hP e (cm_wo2 hi.2)
          have hin := cm_iin_in hi.1
          exact W.last hx hb h1 (h2 n _) (fun q => by cases q) (by show ¬ (i < 0 ∨ (arrV _ _ _).slots.size ≤ _); rw [arrV_size]; exact hin) rfl rfl hdec fun H' e1 e2 e3 =>
            kk H' _ ls cells slots (hP.put (cm_wo2 hi.2) rfl rfl (fun _ _ => rfl) (fun b hb => cm_up_ne _ _ _ _ b hb) (fun _ _ => rfl) e3 e2 (cm_aput (cm_wo2 hi.2) e (by rw [e1]; show some ((vp_cell cA (n, .inr (.inl (w.2.2.1 a)))).setSlot _ _) = some (vp_cell cA (n, .inr (.inl (cm_up w.2.2.1 a i.toNatClampNeg x a)))); rw [cm_cell_l, cm_up_eq]) h2 h3)) (t_lc (free := fun q => N0 ≤ q) hL (by rw [cm_ad_ge (cm_wo2 hi.2)]; exact Nat.le_add_right _ _)) hl rfl rfl
        · cases hex
      · cases hex
    · cases hex
  case aastore =>
    obtain rfl := hlen rfl
    simp only [cm_ex] at hex
    split at hex
    · split at hex
      · split at hex
        · rename_i v i a r o1 o2 C n ci e ev hi
          cases hex
          obtain ⟨hi1, hio, hi3⟩ := hi
          have hi2 := cm_wo2 hio
          obtain ⟨cA, h1, h2, h3⟩ := cm_arr hP e hi2
          have hin := cm_iin_in hi1
          have hlt : i.toNatClampNeg < n := Nat.not_le.mp fun q => hin (Or.inr q)
          have h0 : ¬ i < 0 := fun q => hin (Or.inl q)
          obtain ⟨q, hq, hqC⟩ := Option.map_eq_some_iff.mp hi3
          subst hqC
          have hc := hP.2.2.2.1 v
          unfold cm_c at hc
          rw [ev] at hc
          obtain ⟨-, q', hq', cellV, g1, g2, g3, -⟩ := hc
          have hcls := (hK.1 ci q hq).2
          obtain ⟨kA, comp, k1, k2, k3, k4⟩ := h3
          have hcomp : comp = D.1 ci := Option.some.inj (k3.symm.trans hcls.1)
          subst hcomp
          obtain ⟨kC, hkC, -⟩ := hcls.2
          refine W.aast hx hb h1 (fun q h => by cases h) (fun h => by cases h) k1 k2 rfl hkC ⟨h0, by show _ < (arrV _ _ _).slots.size; rw [arrV_size]; exact hlt⟩ g1 (fun q h => by rw [g3] at h; cases h) (by rw [g2]; exact hkC) (by rw [g2]; exact va_assign hcls) rfl rfl hdec fun H' e1 e2 e3 => ?_
          refine kk H' _ ls cells slots (hP.put hi2 rfl rfl (fun _ _ => rfl) (fun _ _ => rfl) (fun b hb => cm_up_ne _ _ _ _ b hb) e3 e2 (cm_aput hi2 e ?_ h2 ⟨kA, _, k1, k2, k3, k4⟩)) (t_lc (free := fun q => N0 ≤ q) hL (by rw [cm_ad_ge hi2]; exact Nat.le_add_right _ _)) hl rfl rfl
          rw [e1]
          show some ((vp_cell cA (n, .inr (.inr (.inr (.inr (fun j => (w.2.2.2.1 a j).map (cm_ad N0 sa wa))))))).setSlot i.toNatClampNeg (.ref (cm_ad N0 sa wa v))) = some (vp_cell cA (n, .inr (.inr (.inr (.inr (fun j => (cm_up w.2.2.2.1 a i.toNatClampNeg (some v) a j).map (cm_ad N0 sa wa)))))))
          rw [cm_cell_q, cm_up_eq]
          congr 7
          funext j
          unfold va_up
          by_cases hj : j = i.toNatClampNeg <;> simp [hj]
        · cases hex
      · cases hex
    · cases hex
  case new idx =>
    obtain rfl := hlen rfl
    simp only [cm_ex] at hex
    split at hex
    · split at hex
      · rename_i ci o q hq
        cases hex
        obtain ⟨q', hq', g1, g2, g3⟩ := hwd ci rfl
        obtain rfl := Option.some.inj (hq'.symm.trans hq)
        obtain ⟨hu, hty, hnm, hwdty⟩ := hC ci _ hq
        have hKn := hK.1 ci _ hq
        have z1 : cm_sz (cm_mk w (.inl ci) q'.2.2) = cm_sz w + 1 := rfl
        have z2 : cm_ns (cm_mk w (.inl ci) q'.2.2) = cm_ns w + q'.2.2 := rfl
        dsimp only at hr
        rw [z1, z2] at hr
        have hsz : H.size = cm_ad N0 sa wa (cm_sz w) := by
          rw [cm_ad_ge hP.2.1.1]
          have := hP.1
          have := hP.2.1.1
          omega
        refine W.newcK hx hb hown (hts _ g1) (hts _ g2) (hts _ g3) rfl hdec (by omega) (by omega) hKn.2.1 hsz fun H1 kC hkC e1 e2 e3 => ?_
        refine kk H1 locs ls _ _ (hP.mk (fun j hj => e3 j (by rw [← hsz]; exact hj)) (by rw [e2, hsz]) ?_) hL hl (by dsimp only; rw [z1]; omega) (by dsimp only; rw [z2]; omega)
        unfold cm_c
        rw [show (cm_mk w (.inl ci) q'.2.2).1 (cm_sz w) = some (.inl ci) from if_pos rfl]
        refine ⟨hP.2.1.1, q', hq, ?_⟩
        refine (u_born (G.2.2.2.2 ci) hts hu hKn hkC e1 hty).to fun k hk => ?_
        have i0 : (cm_mk w (.inl ci) q'.2.2).2.1 (cm_sz w) k = 0 := if_pos rfl
        have l0 : (cm_mk w (.inl ci) q'.2.2).2.2.1 (cm_sz w) k = 0 := if_pos rfl
        have r0 : (cm_mk w (.inl ci) q'.2.2).2.2.2.1 (cm_sz w) k = none := if_pos rfl
        have ht := hty k hk
        have hz := (hwdty k hk)
        generalize G.2.2.2.2 ci k = ty at ht hz ⊢
        cases ty
        case long => show _ = Value.long _; rw [l0]; rfl
        case object C => show _ = cm_v _ (va_rf _); rw [r0]; rfl
        case array C => show _ = cm_v _ (va_rf _); rw [r0]; rfl
        case float => exact absurd rfl hz.1
        case double => exact absurd rfl hz.2
        all_goals (show _ = Value.int _; rw [i0]; rfl)
      · cases hex
    · cases hex
  case newarray t =>
    obtain rfl := hlen rfl
    simp only [cm_ex] at hex
    split at hex
    · split at hex
      · rename_i n r hn
        cases hex
        obtain ⟨n1, n2, n3⟩ := hn
        have z1 : cm_sz (cm_mk w (.inr (newarray.typeOf t, n.toNatClampNeg)) n.toNatClampNeg) = cm_sz w + 1 := rfl
        have z2 : cm_ns (cm_mk w (.inr (newarray.typeOf t, n.toNatClampNeg)) n.toNatClampNeg) = cm_ns w + n.toNatClampNeg := rfl
        dsimp only at hr
        rw [z1, z2] at hr
        have hsz : H.size = cm_ad N0 sa wa (cm_sz w) := by
          rw [cm_ad_ge hP.2.1.1]
          have := hP.1
          have := hP.2.1.1
          omega
        have hby : componentBytes (newarray.typeOf t) ≤ 8 := by rcases n3 with h | h | h <;> rw [h] <;> decide
        have hby2 : n.toNatClampNeg * componentBytes (newarray.typeOf t) ≤ 100000 * 8 := Nat.mul_le_mul n2 hby
        refine va_newaK hx hb (hts _ hwd) rfl hdec rfl n1 rfl (by omega) (by omega) (by omega) hsz fun H1 cA e1 e2 e3 hAr hNm => ?_
        refine kk H1 locs ls _ _ (hP.mk (fun j hj => e3 j (by rw [← hsz]; exact hj)) (by rw [e2, hsz]) ?_) hL hl (by dsimp only; rw [z1]; omega) (by dsimp only; rw [z2]; omega)
        refine cm_aput hP.2.1.1 (if_pos rfl) ?_ hAr (by rcases n3 with h | h | h <;> rw [h] at hNm ⊢ <;> exact hNm)
        rw [e1]
        have i0 : (cm_mk w (.inr (newarray.typeOf t, n.toNatClampNeg)) n.toNatClampNeg).2.1 (cm_sz w) = fun _ => 0 := by funext k; exact if_pos rfl
        have l0 : (cm_mk w (.inr (newarray.typeOf t, n.toNatClampNeg)) n.toNatClampNeg).2.2.1 (cm_sz w) = fun _ => 0 := by funext k; exact if_pos rfl
        generalize cm_mk w (.inr (newarray.typeOf t, n.toNatClampNeg)) n.toNatClampNeg = w1 at i0 l0
        rcases n3 with h | h | h <;> rw [h]
        · show _ = some (vp_cell cA (n.toNatClampNeg, .inl (w1.2.1 (cm_sz w)))); rw [i0]; rfl
        · show _ = some (vp_cell cA (n.toNatClampNeg, .inr (.inl (w1.2.2.1 (cm_sz w))))); rw [l0]; rfl
        · show _ = some (vp_cell cA (n.toNatClampNeg, .inl (w1.2.1 (cm_sz w)))); rw [i0]; rfl
      · cases hex
    · cases hex
  case anewarray idx =>
    obtain rfl := hlen rfl
    simp only [cm_ex] at hex
    split at hex
    · split at hex
      · split at hex
        · rename_i ci n r o q hq hn
          cases hex
          obtain ⟨n1, n2⟩ := hn
          obtain ⟨q', hq', g1, g2⟩ := hwd ci rfl
          obtain rfl := Option.some.inj (hq'.symm.trans hq)
          have z1 : cm_sz (cm_mk w (.inr (.object q'.1, n.toNatClampNeg)) n.toNatClampNeg) = cm_sz w + 1 := rfl
          have z2 : cm_ns (cm_mk w (.inr (.object q'.1, n.toNatClampNeg)) n.toNatClampNeg) = cm_ns w + n.toNatClampNeg := rfl
          dsimp only at hr
          rw [z1, z2] at hr
          have hsz : H.size = cm_ad N0 sa wa (cm_sz w) := by
            rw [cm_ad_ge hP.2.1.1]
            have := hP.1
            have := hP.2.1.1
            omega
          refine W.anew hx hb hown (hts _ g1) (hts _ g2) rfl hdec rfl n1 (by omega) (by omega) (by omega) fun cA kA comp f1 f2 f3 f4 => ?_
          rw [hsz]
          generalize hH1 : H.push ({ cls := cA, slots := Array.replicate n.toNatClampNeg .null, vm := .none } : Cell) = H1
          have e2 : H1.size = H.size + 1 := by rw [← hH1, Array.size_push]
          have e1 : H1[H.size]? = some (arrV cA n.toNatClampNeg (fun _ => .null)) := by rw [← hH1, Array.getElem?_push_size, ← arrV_new]
          have e3 : ∀ j : Nat, j < H.size → H1[j]? = H[j]? := fun j hj => by rw [← hH1, Array.getElem?_push, if_neg (Nat.ne_of_lt hj)]
          refine kk H1 locs ls _ _ (hP.mk e3 e2 ?_) hL hl (by dsimp only; rw [z1]; omega) (by dsimp only; rw [z2]; omega)
          refine cm_aput hP.2.1.1 (if_pos rfl) ?_ (fun N z => ⟨(fun k h => by cases h), kA, f2, comp, f3⟩) ⟨kA, comp, f2, f3, f4, f1⟩
          rw [← hsz, e1]
          have r0 : (cm_mk w (.inr (.object q'.1, n.toNatClampNeg)) n.toNatClampNeg).2.2.2.1 (cm_sz w) = fun _ => none := by funext k; exact if_pos rfl
          generalize cm_mk w (.inr (.object q'.1, n.toNatClampNeg)) n.toNatClampNeg = w1 at r0
          show _ = some (vp_cell cA (n.toNatClampNeg, .inr (.inr (.inr (.inr (fun j => (w1.2.2.2.1 (cm_sz w) j).map _))))))
          rw [r0]
          rfl
        · cases hex
      · cases hex
    · cases hex
  case iinc i n =>
    obtain rfl := hlen rfl
    simp only [cm_ex] at hex
    split at hex
    · rename_i x e
      cases hex
      have hm := cm_ld_mem e
      obtain ⟨k, hk⟩ := List.getElem?_of_mem hm
      exact lv_iinc (k := k) hx hb hdec hl (by unfold cm_lm; rw [List.getElem?_map, hk]; rfl) rfl hwd rfl fun ls' h => kk H locs ls' cells slots hP hL (by rw [cm_lm1]; exact h) rfl rfl
    · cases hex
  all_goals (simp only [cm_ex] at hex; cases hex)
end CMS
