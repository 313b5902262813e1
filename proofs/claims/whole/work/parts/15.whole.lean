section CMR
variable {p : Program} {l : Launch} {e : Env} {R : Room} {s : State} {m : MethodId} {args : Array Value} {below : List Frame} {meth : Method} {c : Code} {H : Heap} {locs : List Loc} {cells slots : Nat} {Q : State → Prop}
theorem cm_args (ad : Nat → Nat) : ∀ (k : Nat) (vs : List Value), lv_args k (vs.map (cm_v ad)) = cm_lm ad (lv_args k vs) := by
  intro k vs
  induction vs generalizing k with
  | nil => rfl
  | cons v t ih =>
    show (k, cm_v ad v) :: lv_args _ (t.map (cm_v ad)) = (k, cm_v ad v) :: cm_lm ad (lv_args _ t)
    rw [cm_cat, ih]
theorem cm_sl (ad : Nat → Nat) (vs : List Value) : (lg_sl (vs.map (cm_v ad))).length = (lg_sl vs).length := by
  unfold lg_sl
  induction vs with
  | nil => rfl
  | cons v t ih =>
    simp only [List.map_cons, List.flatMap_cons, List.length_append, ih, cm_cat]
    by_cases h : v.category = 2 <;> simp [h]
def cm_Q (G : cm_G) (D : va_G) (N0 sa wa : Nat) (r : Option Value × cm_W) : Array Value → State → Outcome → State → Prop := fun _ _ o t => o = .returned (r.1.map (cm_v (cm_ad N0 sa wa))) ∧ cm_P G D N0 sa wa t r.2 t.heap
theorem cm_goon {mc ms N0 : Nat} {g : JFrame} {rest : List Value} {Qa : State → Outcome → State → Prop} (hr : va_Run p l e R s m args below meth c H locs cells slots mc ms g rest Qa (fun q => N0 ≤ q)) (hL : ∀ q ∈ locs, N0 ≤ q.base)
    (kk : ∀ (v : Option Value) (st₀ t : State) (locs' : List Loc), Qa st₀ (.returned v) t → t.vm.Alike s.vm → (∀ q ∈ locs', N0 ≤ q.base) → W p l e R s m args below meth c t.heap locs' (cells + mc) (slots + ms) Q { g with pc := g.pc + 3, stack := v.toList ++ rest }) : W p l e R s m args below meth c H locs cells slots Q g := by
  intro T hT X
  obtain ⟨v, st₀, t, T', L, h0, X', hL', e1, e2, hq, st⟩ := hr T hT X
  obtain ⟨t2, a1, b1⟩ := kk v st₀ t (locs ++ L) hq (by rw [← e2]; exact X'.warmed.alike.symm) (t_lL hL hL') T' e1 X'
  exact ⟨t2, st t2 a1, b1⟩
end CMR
def cm_Pc (G : cm_G) (D : va_G) (Tn : List Jvm.Cond) (N0 sa wa : Nat) (w : cm_W) (av : List Value) : Array Value → State → Prop := fun v U => v = (av.map (cm_v (cm_ad N0 sa wa))).toArray ∧ va_K D G.2.2.2.1 [] U ∧ (∀ x ∈ Tn, va_Nw x U) ∧ cm_P G D N0 sa wa U w U.heap
/-- a method's contract, for one start that the clean machine brings to its end -/
def cm_C (G : cm_G) (D : va_G) (Ts Tn : List Jvm.Cond) (l : Launch) (N0 sa wa y : Nat) (av : List Value) (w : cm_W) (r : Option Value × cm_W) : Prop :=
  Met l (G.2.2.1 y).1 (Jvm.Cond.code (G.2.2.1 y).1 (G.2.2.1 y).2.1 (cm_ml G y) (cm_rt G y) :: Ts) { frames := (G.2.2.1 y).2.2.2.2.2.1, cells := cm_sz r.2 - cm_sz w, slots := cm_ns r.2 - cm_ns w, locals := (G.2.2.1 y).2.2.2.2.2.2.1 }
    (cm_Pc G D Tn N0 sa wa w av) (cm_Q G D N0 sa wa r) (cm_sz r.2 - cm_sz w) (cm_ns r.2 - cm_ns w) (fun q => N0 ≤ q)
theorem cm_blind {G : cm_G} {D : va_G} {Tn : List Jvm.Cond} {N0 sa wa : Nat} {w : cm_W} {av : List Value} (hn : ∀ x ∈ Tn, cm_sx x = true) : FrameBlind (cm_Pc G D Tn N0 sa wa w av) := by
  intro a U g mk h
  obtain ⟨h1, h2, h3, h4⟩ := h
  have e : (U.calling g mk a).vm = U.vm := rfl
  have hal : U.vm.Alike (U.calling g mk a).vm := by rw [e]; exact Vm.Alike.refl _
  refine ⟨h1, va_K.moved hal h2, fun x hx => ?_, h4.moved hal⟩
  have hs := hn x hx
  have h5 := h3 x hx
  unfold cm_sx at hs
  split at hs
  · exact va_AO.moved hal h5
  · exact va_Nw.same rfl e.symm h5
  · cases hs
theorem cm_pre {G : cm_G} {D : va_G} {Tn : List Jvm.Cond} {N0 sa wa : Nat} {w : cm_W} {av : List Value} {s U : State} {H : Heap} (hn : ∀ x ∈ Tn, cm_sx x = true) (hK : va_K D G.2.2.2.1 [] s) (hN : ∀ x ∈ Tn, va_Nw x s) (hP : cm_P G D N0 sa wa s w H) (hU : U.heap = H) (hW : s.WarmedH U.vm) :
    cm_Pc G D Tn N0 sa wa w av (av.map (cm_v (cm_ad N0 sa wa))).toArray U :=
  ⟨rfl, va_K.moved hW.alike hK, fun x hx => cm_sx_warm (hn x hx) hW (hN x hx), by rw [hU]; exact hP.moved hW.alike⟩
section CMW
variable {p : Program} {l : Launch} {e : Env} {R : Room} {s : State} {m : MethodId} {args : Array Value} {below : List Frame} {meth : Method} {c : Code} {H : Heap} {locs : List Loc} {cells slots : Nat} {Q : State → Prop}
variable {G : cm_G} {D : va_G} {Ts Tg Tn : List Jvm.Cond} {N0 sa wa y pc : Nat} {ls : Array Slot} {lv : cm_lv} {st : List Value} {w : cm_W}
theorem cm_cb {y' na mc ms : Nat} {own : String} {index : Nat} (hts : ∀ w ∈ Tg ++ Tn, w.before args s = true) (hg : GoodIn Tg Tg) (hn : ∀ x ∈ Tn, cm_sx x = true) (hm : cm_wm G (Tg ++ Tn) y y' na) (hfr : (G.2.2.1 y).2.2.2.2.2.1 ≤ R.frames) (hlo : (G.2.2.1 y).2.2.2.2.2.2.1 ≤ R.locals)
    (hl : (Jvm.Cond.methodLink own index (G.2.2.1 y').1).before args s = true) : CallB R s args own index (G.2.2.1 y').1 (G.2.2.1 y').2.1 (cm_ml G y') (cm_rt G y') (Jvm.Cond.code (G.2.2.1 y').1 (G.2.2.1 y').2.1 (cm_ml G y') (cm_rt G y') :: Tg) { frames := (G.2.2.1 y').2.2.2.2.2.1, cells := mc, slots := ms, locals := (G.2.2.1 y').2.2.2.2.2.2.1 } mc ms na := by
  obtain ⟨⟨h1, h2⟩, h3, ⟨h4, h5⟩, h6, h7⟩ := hm
  have hcg : Jvm.Cond.code (G.2.2.1 y').1 (G.2.2.1 y').2.1 (cm_ml G y') (cm_rt G y') ∈ Tg := by
    rcases List.mem_append.mp h1 with h | h
    · exact h
    · have := hn _ h
      cases this
  refine callB_of (Ts := Tg) na (fun w h => hts w (List.mem_append_left _ h)) (fun w h => ?_) rfl rfl rfl (hts _ h2) hl h3 ⟨Nat.le_trans h4 hfr, Nat.le_trans h5 hlo⟩
  rcases List.mem_cons.mp h with rfl | h
  · exact hg _ hcg
  · exact hg _ h
/-- the room that a method has, and what it knows -/
def cm_Xs (G : cm_G) (D : va_G) (Tg Tn : List Jvm.Cond) (p : Program) (R : Room) (s : State) (m : MethodId) (args : Array Value) (meth : Method) (c : Code) (y : Nat) : Prop :=
  cm_X G D (Tg ++ Tn) p R s m args meth c y ∧ ∀ x ∈ Tn, va_Nw x s
abbrev cm_Ret (G : cm_G) (D : va_G) (N0 sa wa : Nat) (p : Program) (l : Launch) (e : Env) (R : Room) (s : State) (m : MethodId) (args : Array Value) (below : List Frame) (meth : Method) (c : Code) (cells slots : Nat) (Q : State → Prop) (y : Nat) (w : cm_W) (r : Option Value × cm_W) : Prop :=
  ∀ (pc' : Nat) (ls' : Array Slot) (H' : Heap) (locs' : List Loc) (cells' slots' : Nat) (i : Instr), cm_P G D N0 sa wa s r.2 H' → (∀ q ∈ locs', N0 ≤ q.base) → cells' + cm_sz w = cells + cm_sz r.2 → slots' + cm_ns w = slots + cm_ns r.2 → decode (G.2.2.1 y).2.1 pc' = .ok (i, 1) → cm_re G y i r.1.toList = some r.1 →
    W p l e R s m args below meth c H' locs' cells' slots' Q (F0 m pc' ls' (r.1.toList.map (cm_v (cm_ad N0 sa wa))))
def cm_Snd (G : cm_G) (D : va_G) (Tg Tn : List Jvm.Cond) (l : Launch) (N0 sa wa n : Nat) : Prop :=
  ∀ (y pc : Nat) (lv : cm_lv) (st : List Value) (w : cm_W) (r : Option Value × cm_W), cm_run G n y pc lv st w = some r →
    ∀ {p : Program} {e : Env} {R : Room} {s : State} {m : MethodId} {args : Array Value} {below : List Frame} {meth : Method} {c : Code} {H : Heap} {locs : List Loc} {cells slots : Nat} {Q : State → Prop} {ls : Array Slot},
      cm_Xs G D Tg Tn p R s m args meth c y → cm_P G D N0 sa wa s w H → (∀ q ∈ locs, N0 ≤ q.base) → lv_has ls (cm_ml G y) (cm_lm (cm_ad N0 sa wa) lv) → cells + cm_sz r.2 ≤ R.cells + cm_sz w → slots + cm_ns r.2 ≤ R.slots + cm_ns w →
      cm_Ret G D N0 sa wa p l e R s m args below meth c cells slots Q y w r →
      W p l e R s m args below meth c H locs cells slots Q (F0 m pc ls (st.map (cm_v (cm_ad N0 sa wa))))
/-- a run that ends gives the method's contract -/
theorem cm_met {n y : Nat} {av : List Value} {w : cm_W} {r : Option Value × cm_W} (hA : cm_All G Tg Tn) (ih : cm_Snd G D Tg Tn l N0 sa wa n) (hr : cm_run G n y 0 (lv_args 0 av) [] w = some r) (hpl : plainName (G.2.2.1 y).1.cls = true) (how : cm_ow G y = (G.2.2.1 y).1.cls) (hlen : cm_ok G y av = true) :
    cm_C G D Tg Tn l N0 sa wa y av w r := by
  unfold cm_C
  refine Met.ofW (cc := (G.2.2.1 y).2.1) (maxL := cm_ml G y) (ret := cm_rt G y) hpl rfl ?_
  intro p e s m args below meth c s₁ B hml hv
  obtain ⟨rfl, hK, hN, hP⟩ := hv
  have hx := B.exec
  have hb := B.bytes
  have hre := B.returns
  have hts0 := atoms_spec (ws := Jvm.Cond.code (G.2.2.1 y).1 (G.2.2.1 y).2.1 (cm_ml G y) (cm_rt G y) :: Tg) B.pre
  have hts : ∀ w ∈ Tg ++ Tn, w.before (av.map (cm_v (cm_ad N0 sa wa))).toArray s = true := by
    intro w hw
    rcases List.mem_append.mp hw with h | h
    · exact hts0 _ (List.mem_cons_of_mem _ h)
    · exact cm_sx_use (hA.2.2.2.2 _ h) (hN _ h)
  have hown : s.vm.findClass (cm_ow G y) = some m.cls := by rw [how]; exact findClass_of_methodNamed B.named
  have hlocks := B.notSynchronized
  have hin : meth.name = (G.2.2.1 y).1.name := (name_of_methodNamed B.named B.method).1
  have hle : (lg_sl (av.map (cm_v (cm_ad N0 sa wa)))).length ≤ cm_ml G y := by rw [cm_sl]; exact of_decide_eq_true hlen
  have hl := lv_entry (av.map (cm_v (cm_ad N0 sa wa))) (n := cm_ml G y) hle
  rw [lg_entry_eq]
  generalize (lg_sl (av.map (cm_v (cm_ad N0 sa wa))) ++ List.replicate (cm_ml G y - (lg_sl (av.map (cm_v (cm_ad N0 sa wa)))).length) Slot.unset).toArray = ls at hl ⊢
  rw [cm_args] at hl
  have hmo := cm_mono _ _ _ _ _ _ _ hr
  refine ih y 0 (lv_args 0 av) [] w r hr (R := (headSpec _ _).room) ⟨⟨hx, hb, hml, hown, hts, hK, fun h => hin.trans h, Nat.le_refl _, Nat.le_refl _⟩, hN⟩ hP t_nil hl (by show 0 + _ ≤ (cm_sz r.2 - cm_sz w) + _; omega) (by show 0 + _ ≤ (cm_ns r.2 - cm_ns w) + _; omega) ?_
  intro pc' ls' H' locs' cells' slots' i hP' hL' hc hs hdec hre'
  have ec : cells' = cm_sz r.2 - cm_sz w := by omega
  have es : slots' = cm_ns r.2 - cm_ns w := by omega
  subst ec
  subst es
  obtain ⟨rv, rw'⟩ := r
  dsimp only at hre' hP' ⊢
  unfold cm_re at hre'
  have hend : ∀ (t : State), t.heap = H' → s.WarmedH t.vm → cm_P G D N0 sa wa t rw' t.heap := fun t ht hW => by rw [ht]; exact hP'.moved hW.alike
  split at hre'
  · split at hre'
    · rename_i hrt
      obtain rfl : rv = none := (Option.some.inj hre').symm
      exact W.vret hx hb (by rw [hre]; exact hrt) (fun t ht hW => ⟨rfl, hend t ht hW⟩) hL' hdec
    · cases hre'
  · rename_i x hxe
    split at hre'
    · rename_i hrt
      obtain rfl : rv = some (.int x) := (Option.some.inj hre').symm
      rcases hrt with hrt | ⟨hrt, hx01⟩
      · exact W.zret (ty := .int) hx hb (by rw [hre]; exact hrt) rfl (fun t ht hW => ⟨rfl, hend t ht hW⟩) hL' hdec
      · exact W.zret (ty := .boolean) hx hb (by rw [hre]; exact hrt) (by rcases hx01 with rfl | rfl <;> decide) (fun t ht hW => ⟨rfl, hend t ht hW⟩) hL' hdec
    · cases hre'
  · rename_i x hxe
    split at hre'
    · rename_i hrt
      obtain rfl : rv = some (.long x) := (Option.some.inj hre').symm
      exact W.lret hx hb (by rw [hre]; exact hrt) (fun t ht hW => ⟨rfl, hend t ht hW⟩) hL' hdec
    · cases hre'
  · cases hre'
theorem cm_sp_inv {ops : List Nat} {q : Nat × List Value × List Value} (h : cm_sp G ops st w = some q) : ∃ kind na ci tl, ops = kind :: q.1 :: na :: ci :: tl ∧ (q.2.2.map fun v => v.category).sum ≤ 8 ∧
    ((kind = 1 ∧ q.2.1.length = na ∧ st = q.2.1.reverse ++ q.2.2) ∨ (kind ≠ 1 ∧ ∃ b as, q.2.1 = .ref b :: as ∧ as.length = na ∧ st = as.reverse ++ .ref b :: q.2.2 ∧ w.1 b = some (.inl ci))) := by
  unfold cm_sp at h
  split at h
  · rename_i kind y' na ci tl
    split at h
    · split at h
      · rename_i hh
        cases h
        refine ⟨1, na, ci, tl, rfl, hh.2, Or.inl ⟨rfl, by simp; omega, by simp⟩⟩
      · cases h
    · rename_i hk
      split at h
      · rename_i b rest hst
        split at h
        · rename_i hh
          cases h
          have hlen : na < st.length := by
            rcases Nat.lt_or_ge na st.length with h | h
            · exact h
            · rw [List.drop_eq_nil_of_le h] at hst; cases hst
          refine ⟨kind, na, ci, tl, rfl, hh.2, Or.inr ⟨fun q => hk q, b, (st.take na).reverse, rfl, by simp; omega, ?_, hh.1⟩⟩
          rw [List.reverse_reverse]
          dsimp only
          rw [← hst, List.take_append_drop]
        · cases h
      · cases h
  · cases h
/-- a call that the clean machine brings to its end -/
theorem cm_invoke {n : Nat} {d : cm_D} {q : Nat × List Value × List Value} {r1 : Option Value × cm_W} (hA : cm_All G Tg Tn) (ih : cm_Snd G D Tg Tn l N0 sa wa n) (hXs : cm_Xs G D Tg Tn p R s m args meth c y) (hdec : decode (G.2.2.1 y).2.1 pc = .ok (d.1, 3)) (hisc : cm_isc d.1 = true) (hwc : cm_wc G (Tg ++ Tn) y d.1 d.2.2.1)
    (hq : cm_sp G d.2.2.1 st w = some q) (hok : cm_ok G q.1 q.2.1 = true) (h1 : cm_run G n q.1 0 (lv_args 0 q.2.1) [] w = some r1) (hP : cm_P G D N0 sa wa s w H) (hl : lv_has ls (cm_ml G y) (cm_lm (cm_ad N0 sa wa) lv)) (hc : cells + (cm_sz r1.2 - cm_sz w) ≤ R.cells ∧ slots + (cm_ns r1.2 - cm_ns w) ≤ R.slots) :
    va_Run p l e R s m args below meth c H locs cells slots (cm_sz r1.2 - cm_sz w) (cm_ns r1.2 - cm_ns w) (F0 m pc ls (st.map (cm_v (cm_ad N0 sa wa)))) (q.2.2.map (cm_v (cm_ad N0 sa wa))) (cm_Q G D N0 sa wa r1 (q.2.1.map (cm_v (cm_ad N0 sa wa))).toArray) (fun q => N0 ≤ q) := by
  obtain ⟨⟨hx, hb, hml, hown, hts, hK, hinit, hfr, hlo⟩, hN⟩ := hXs
  obtain ⟨hC, hI, hKo, hg, hn⟩ := hA
  obtain ⟨i, len, ops, kv⟩ := d
  obtain ⟨y', av, rest⟩ := q
  obtain ⟨kind, na, ci, tl, rfl, hsum, hst⟩ := cm_sp_inv hq
  dsimp only at hst hsum hok h1 hwc hisc hdec ⊢
  have hsum' : ((rest.map (cm_v (cm_ad N0 sa wa))).map fun v => v.category).sum ≤ 8 := by rw [cm_cats]; exact hsum
  cases i <;> (try (cases hisc; done))
  case invokevirtual idx =>
    rcases hst with ⟨rfl, hal, rfl⟩ | ⟨hk, b, as, rfl, hal, rfl, hb1⟩
    · exact False.elim hwc
    · unfold cm_wc at hwc
      dsimp only at hwc
      split at hwc
      · rename_i e
        cases e
        obtain ⟨hm, k1, k2, k3, k4⟩ := hwc
        have hM := cm_met ⟨hC, hI, hKo, hg, hn⟩ ih h1 hm.2.2.2.1 hm.2.2.2.2 hok
        unfold cm_C at hM
        obtain ⟨q, hqc, hqn⟩ := Option.map_eq_some_iff.mp k4
        have hcc := hP.2.2.2.1 b
        unfold cm_c at hcc
        rw [hb1] at hcc
        obtain ⟨-, q', hq', cellB, g1, g2, g3, -⟩ := hcc
        exact va_runV (As := as.map (cm_v (cm_ad N0 sa wa))) ⟨hx, hb, hml, hown, hts⟩ hM ⟨cm_cb hts hg hn hm hfr hlo (hts _ k1), hts _ k2, hts _ k3⟩ ⟨cm_blind hn, ⟨cellB, g1, by rw [g3]; rfl, by rw [g2, ← hqn]; exact (hK.1 ci q hqc).2.1⟩, fun U hU hW => cm_pre hn hK hN hP hU hW⟩ rfl (by rw [List.length_map]; exact hal) hl.1 (by show List.map _ _ = _; rw [List.map_append, List.map_reverse]; rfl) (lv_room hsum') hdec hc
      · exact False.elim hwc
  case invokestatic idx =>
    rcases hst with ⟨rfl, hal, rfl⟩ | ⟨hk, b, as, rfl, hal, rfl, hb1⟩
    · unfold cm_wc at hwc
      dsimp only at hwc
      split at hwc
      · rename_i e; cases e
      · rename_i e; cases e
      · rename_i e; cases e
      · rename_i e
        cases e
        obtain ⟨hm, k1, k2⟩ := hwc
        have hM := cm_met ⟨hC, hI, hKo, hg, hn⟩ ih h1 hm.2.2.2.1 hm.2.2.2.2 hok
        unfold cm_C at hM
        exact va_runS (As := av.map (cm_v (cm_ad N0 sa wa))) ⟨hx, hb, hml, hown, hts⟩ hM ⟨cm_cb hts hg hn hm hfr hlo (hts _ k1), hts _ k2⟩ ⟨cm_blind hn, fun U hU hW => cm_pre hn hK hN hP hU hW⟩ rfl (by rw [List.length_map]; exact hal) hl.1 (by show List.map _ _ = _; rw [List.map_append, List.map_reverse]) (lv_room hsum') hdec hc
      · exact False.elim hwc
    · unfold cm_wc at hwc
      dsimp only at hwc
      split at hwc
      · rename_i e; cases e
      · rename_i e; cases e
      · rename_i e; cases e
      · rename_i e; cases e; exact absurd rfl hk
      · exact False.elim hwc
  case invokespecial idx =>
    rcases hst with ⟨rfl, hal, rfl⟩ | ⟨hk, b, as, rfl, hal, rfl, hb1⟩
    · exact False.elim hwc
    · unfold cm_wc at hwc
      dsimp only at hwc
      split at hwc
      · rename_i e; cases e
      · rename_i e
        cases e
        obtain ⟨hm, k1, k2, k3, k4⟩ := hwc
        have hM := cm_met ⟨hC, hI, hKo, hg, hn⟩ ih h1 hm.2.2.2.1 hm.2.2.2.2 hok
        unfold cm_C at hM
        have cb := cm_cb (R := R) (mc := cm_sz r1.2 - cm_sz w) (ms := cm_ns r1.2 - cm_ns w) hts hg hn hm hfr hlo (hts _ k1)
        rw [k4] at hM cb
        exact va_runI (As := as.map (cm_v (cm_ad N0 sa wa))) ⟨hx, hb, hml, hown, hts⟩ hM ⟨cb, k3, hts _ k2⟩ ⟨cm_blind hn, fun U hU hW => cm_pre hn hK hN hP hU hW⟩ rfl (by rw [List.length_map]; exact hal) hl.1 (by show List.map _ _ = _; rw [List.map_append, List.map_reverse]; rfl) (lv_room hsum') hdec hc
      · rename_i e
        cases e
        obtain ⟨hm, k1, k2, k3, k4⟩ := hwc
        have hM := cm_met ⟨hC, hI, hKo, hg, hn⟩ ih h1 hm.2.2.2.1 hm.2.2.2.2 hok
        unfold cm_C at hM
        rw [k4] at hM
        obtain ⟨⟨m1, m2⟩, m3, ⟨m4, m5⟩, -⟩ := hm
        have hcg : Jvm.Cond.code (G.2.2.1 y').1 (G.2.2.1 y').2.1 (cm_ml G y') (cm_rt G y') ∈ Tg := by
          rcases List.mem_append.mp m1 with h | h
          · exact h
          · have := hn _ h
            cases this
        rw [k4] at hcg
        exact va_runIN (As := as.map (cm_v (cm_ad N0 sa wa))) ⟨hx, hb, hml, hown, hts⟩ hM ⟨va_cnB (Ts := Tg) na (fun w h => hts w (List.mem_append_left _ h)) (fun w h => by
          rcases List.mem_cons.mp h with rfl | h
          · exact hg _ hcg
          · exact hg _ h) rfl rfl rfl (va_Nw.of rfl (hts _ k1)) (hts _ m2) m3 ⟨Nat.le_trans m4 hfr, Nat.le_trans m5 hlo⟩, k3, hts _ k2⟩ ⟨cm_blind hn, fun U hU hW => cm_pre hn hK hN hP hU hW⟩ rfl (by rw [List.length_map]; exact hal) hl.1 (by show List.map _ _ = _; rw [List.map_append, List.map_reverse]; rfl) (lv_room hsum') hdec hc
      · exact False.elim hwc
set_option maxHeartbeats 1000000 in
theorem cm_sound (hA : cm_All G Tg Tn) : ∀ n : Nat, cm_Snd G D Tg Tn l N0 sa wa n := by
  intro n
  induction n with
  | zero => intro y pc lv st w r h; cases h
  | succ n ih =>
    intro y pc lv st w r h p e R s m args below meth c H locs cells slots Q ls hXs hP hL hl hc hs hret
    have hXs0 := hXs
    obtain ⟨hX, hN⟩ := hXs
    unfold cm_run at h
    split at h
    · cases h
    · rename_i d hd
      obtain ⟨hdec, hlen, hwd⟩ := hA.2.1 y pc d hd
      split at h
      · rename_i rv hrv
        obtain rfl := Option.some.inj h
        obtain ⟨e1, e2, e3⟩ := cm_re_inv hrv
        rw [e1]
        rw [e1] at hrv
        rw [hlen e2, e3] at hdec
        exact hret pc ls H locs cells slots d.1 hP hL rfl rfl hdec hrv
      · split at h
        · rename_i hisc
          have hsw : cm_sw d.1 = false ∧ cm_ln d.1 = 3 := by
            revert hisc
            unfold cm_isc
            split <;> intro q
            · rename_i he; rw [he]; exact ⟨rfl, rfl⟩
            · rename_i he; rw [he]; exact ⟨rfl, rfl⟩
            · rename_i he; rw [he]; exact ⟨rfl, rfl⟩
            · cases q
          rw [hlen hsw.1, hsw.2] at hdec
          have hwc := hA.2.2.1 y pc d hd
          split at h
          · rename_i q hq
            obtain ⟨e1, e2⟩ := cm_at_sz hq
            have hm := cm_mono _ _ _ _ _ _ _ h
            exact cm_st_at hX hdec hisc hwc hq hP hL hl (by omega) (by omega) fun H' locs' hP' hL' => ih y (pc + 3) _ _ _ r h hXs0 hP' hL' (cm_kp_has _ hl) (by omega) (by omega) (fun pc' ls' H'' l'' c'' s'' i k1 k2 k3 k4 => hret pc' ls' H'' l'' c'' s'' i k1 k2 (by omega) (by omega))
          · split at h
            · cases h
            · rename_i q hq
              split at h
              · rename_i hok
                split at h
                · cases h
                · rename_i r1 h1
                  have hm1 := cm_mono _ _ _ _ _ _ _ h1
                  have hm2 := cm_mono _ _ _ _ _ _ _ h
                  refine cm_goon (cm_invoke hA ih hXs0 hdec hisc hwc hq hok h1 hP hl ⟨by omega, by omega⟩) hL fun v st₀ t locs' hQ hal hL' => ?_
                  obtain ⟨hv, hP'⟩ := hQ
                  obtain rfl := Outcome.returned.inj hv
                  refine W.eq (g2 := F0 m (pc + 3) ls ((r1.1.toList ++ q.2.2).map (cm_v (cm_ad N0 sa wa)))) ?_ (ih y (pc + 3) _ _ _ r h hXs0 (hP'.moved hal) hL' (cm_kp_has _ hl) (by omega) (by omega) (fun pc' ls' H'' l'' c'' s'' i k1 k2 k3 k4 => hret pc' ls' H'' l'' c'' s'' i k1 k2 (by omega) (by omega)))
                  cases r1.1 <;> rfl
              · cases h
        · split at h
          · cases h
          · rename_i z hz
            have hm := cm_mono _ _ _ _ _ _ _ h
            have hm2 := cm_ex_mono hz
            exact cm_step hX hA.1 hA.2.1 hd hz hP hL hl ⟨by omega, by omega⟩ fun H' locs' ls' cells' slots' k1 k2 k3 k4 k5 => ih y z.1 _ _ _ r h hXs0 k1 k2 (cm_kp_has _ k3) (by omega) (by omega) (fun pc' ls' H'' l'' c'' s'' i j1 j2 j3 j4 => hret pc' ls' H'' l'' c'' s'' i j1 j2 (by omega) (by omega))
end CMW
