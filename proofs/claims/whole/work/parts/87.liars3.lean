/-! liars: the call -/
def liD (M : Mk) (T k t : Nat) : Nat := if exf T (liM M T k) t = true then 0 else M.D t
section LIARS3
variable {v c u n m l p q d : Nat} {w w' : cm_W} {s s' : St} {M : Mk}
theorem liars_end (O : M.Ok) (T0 : M.top M.n ≠ 0) : ∃ N, N ≤ 7 ∧ M.lst (exf (M.top M.n) (liM M (M.top M.n) N)) M.n = 0 ∧ ∀ k, k < N → M.lst (exf (M.top M.n) (liM M (M.top M.n) k)) M.n ≠ 0 := by
  have hn := O.2.2.1
  have tl := top_le (M := M) M.n
  rcases top_sp (M := M) M.n with ⟨h, -⟩ | ⟨-, t1, t2⟩
  · exact absurd h T0
  have n8 : nz M.D M.n ≤ 1 * M.n := sgm_bd (f := fun t => if 0 < M.D t then 1 else 0) 1 M.n (fun k _ => by
    show (if 0 < M.D k then 1 else 0) ≤ 1
    split <;> omega)
  have n7 : nz (liD M (M.top M.n) 0) M.n < nz M.D M.n := nz_lt (t := M.top M.n - 1) M.n (fun k _ => by unfold liD; split <;> omega) (by omega) (by omega) (by
    unfold liD exf
    rw [decide_eq_true (show M.top M.n - 1 + 1 = M.top M.n by omega)]; rfl)
  have dn : ∀ h, (∀ j, j < h → M.lst (exf (M.top M.n) (liM M (M.top M.n) j)) M.n ≠ 0) → nz (liD M (M.top M.n) h) M.n + h ≤ nz (liD M (M.top M.n) 0) M.n := by
    intro h
    induction h with
    | zero => intro _; exact Nat.le_refl _
    | succ h ih =>
      intro hh
      have i0 := ih (fun j hj => hh j (by omega))
      have r := hh h (by omega)
      have ll := lst_le (M := M) (ex := exf (M.top M.n) (liM M (M.top M.n) h)) M.n
      rcases lst_sp (M := M) (ex := exf (M.top M.n) (liM M (M.top M.n) h)) M.n with ⟨z, -⟩ | ⟨-, a1, a2, -⟩
      · exact absurd z r
      have stp : ∀ t, t < 8 → exf (M.top M.n) (liM M (M.top M.n) (h + 1)) t = (exf (M.top M.n) (liM M (M.top M.n) h) t || decide (t = M.lst (exf (M.top M.n) (liM M (M.top M.n) h)) M.n - 1)) := fun t ht => by
        show (_ || bit (_ ||| _) t) = ((_ || bit _ t) || _)
        rw [bit_or (by omega) ht, Bool.or_assoc]
      have := nz_lt (D := liD M (M.top M.n) h) (E := liD M (M.top M.n) (h + 1)) (t := M.lst (exf (M.top M.n) (liM M (M.top M.n) h)) M.n - 1) M.n (fun k hk => by
        unfold liD
        rw [stp k (by omega)]
        cases exf (M.top M.n) (liM M (M.top M.n) h) k
        · rw [Bool.false_or]
          split
          · exact Nat.zero_le _
          · exact Nat.le_refl _
        · exact Nat.le_refl _) (by omega) (by unfold liD; rw [a2, if_neg (by decide)]; omega) (by
          unfold liD
          rw [stp _ (by omega), decide_eq_true rfl, Bool.or_true]; rfl)
      omega
  have exN : ∃ N, M.lst (exf (M.top M.n) (liM M (M.top M.n) N)) M.n = 0 := by
    apply Classical.byContradiction
    intro h
    have := dn 8 (fun j _ z => h ⟨j, z⟩)
    omega
  obtain ⟨N, h1, h2⟩ := pk_least (fun N => M.lst (exf (M.top M.n) (liM M (M.top M.n) N)) M.n = 0) exN
  refine ⟨N, ?_, h1, h2⟩
  have := dn N h2
  omega
theorem c93 (L : Lay v c w) (K : SayC w M) (O : M.Ok) (hD : ∀ t, M.D t ≤ 99) (T0 : M.top M.n ≠ 0) {N : Nat} (N7 : N ≤ 7) (N0 : M.lst (exf (M.top M.n) (liM M (M.top M.n) N)) M.n = 0) (N1 : ∀ k, k < N → M.lst (exf (M.top M.n) (liM M (M.top M.n) k)) M.n ≠ 0) : fn_93 w 55 (nI d) = some (liP M (M.top M.n) d (N + 1)) := by
  have hn := O.2.2.1
  refine up_0 (fun n k (a : Int32 × Int32) => fn_93_7 w n 55 (nI d) a.1 a.2 (nI k)) N (fun k a => a = (liM M (M.top M.n) k, liP M (M.top M.n) d k)) (fun o => o = _) ((0 : Int32), (-1 : Int32)) (by omega) rfl (fun n k a hk ha => Or.inr ⟨_, rfl, ?_⟩) (fun n a ha => ?_)
  · subst ha
    dsimp only
    have k8 : ¬ 8 ≤ k := by omega
    have r := N1 k hk
    have ll := lst_le (M := M) (ex := exf (M.top M.n) (liM M (M.top M.n) k)) M.n
    have e89 := c89 L K O hD (liM M (M.top M.n) k)
    have e92 := c92 (d := d) L K O hD T0 (liM M (M.top M.n) k)
    have e1 : enc (M.lst (exf (M.top M.n) (liM M (M.top M.n) k)) M.n) = nI (M.lst (exf (M.top M.n) (liM M (M.top M.n) k)) M.n - 1) := if_neg r
    rw [e1] at e89
    have s1 : liM M (M.top M.n) (k + 1) = liM M (M.top M.n) k ||| ((1 : Int32) <<< (nI (M.lst (exf (M.top M.n) (liM M (M.top M.n) k)) M.n - 1) &&& 31)) := rfl
    have s2 : liP M (M.top M.n) d (k + 1) = if liC M (M.top M.n) d (liM M (M.top M.n) k) then liM M (M.top M.n) k else liP M (M.top M.n) d k := rfl
    rw [s1, s2]
    cases z : liC M (M.top M.n) d (liM M (M.top M.n) k) <;> rw [z] at e92 <;> simp (disch := omega) only [fn_93_7, fn_93_25, fn_93_41, k8, LC L, e92, e89, eq_self, Nat.le_refl, Nat.lt_irrefl, some_if, Option.bind_some, Option.bind_none, Option.some.injEq, ↓reduceIte, reduceCtorEq, Bool.false_eq_true, Bool.true_eq_false, not_true_eq_false, not_false_eq_true, cmb0, cmb1, Nat.reduceAdd, Nat.reduceMul, Nat.reduceSub, Nat.add_zero, Bool.not_eq_true, Bool.not_eq_false, Nat.reduceEqDiff, Nat.reduceLeDiff, Nat.reduceLT, Int32.reduceLT, Int32.reduceLE, iin_nI, iin_lit, iin_m1, tn_nI, tn_lit, nI_lm, nI_ml, nI_al, nI_la, nI_add, pk_mul, nI_le_l, nI_l_le, nI_lt_l, nI_l_lt, nI_eq_l, nI_l_eq, nI_eqP, nI_leP, nI_ltP, nI_m1, m1_nI, nI_ll, m1_l, l_m1]
  · subst ha
    dsimp only
    have k8 : ¬ 8 ≤ N := by omega
    have e89 := c89 L K O hD (liM M (M.top M.n) N)
    have e92 := c92 (d := d) L K O hD T0 (liM M (M.top M.n) N)
    rw [N0, enc_0] at e89
    have s2 : liP M (M.top M.n) d (N + 1) = if liC M (M.top M.n) d (liM M (M.top M.n) N) then liM M (M.top M.n) N else liP M (M.top M.n) d N := rfl
    rw [s2]
    cases z : liC M (M.top M.n) d (liM M (M.top M.n) N) <;> rw [z] at e92 <;> simp (disch := omega) only [fn_93_7, fn_93_25, k8, LC L, e92, e89, eq_self, Nat.le_refl, Nat.lt_irrefl, some_if, Option.bind_some, Option.bind_none, Option.some.injEq, ↓reduceIte, reduceCtorEq, Bool.false_eq_true, Bool.true_eq_false, not_true_eq_false, not_false_eq_true, cmb0, cmb1, Nat.reduceAdd, Nat.reduceMul, Nat.reduceSub, Nat.add_zero, Bool.not_eq_true, Bool.not_eq_false, Nat.reduceEqDiff, Nat.reduceLeDiff, Nat.reduceLT, Int32.reduceLT, Int32.reduceLE, iin_nI, iin_lit, iin_m1, tn_nI, tn_lit, nI_lm, nI_ml, nI_al, nI_la, nI_add, pk_mul, nI_le_l, nI_l_le, nI_lt_l, nI_l_lt, nI_eq_l, nI_l_eq, nI_eqP, nI_leP, nI_ltP, nI_m1, m1_nI, nI_ll, m1_l, l_m1]
theorem m289 (L : Lay v c w) (R : RelM w s) (I : InvV s) (hp : p < nP s) (hm : m < 6) (T0 : (mko s p m).top (nT s) ≠ 0) {N : Nat} (N7 : N ≤ 7) (N0 : (mko s p m).lst (exf ((mko s p m).top (nT s)) (liM (mko s p m) ((mko s p m).top (nT s)) N)) (nT s) = 0) (N1 : ∀ k, k < N → (mko s p m).lst (exf ((mko s p m).top (nT s)) (liM (mko s p m) ((mko s p m).top (nT s)) k)) (nT s) ≠ 0) : fn_289_35 w 96 (nI p) (nI m) (nI d) = some (liP (mko s p m) ((mko s p m).top (nT s)) d (N + 1)) := by
  have hT := I.1
  have tl : (mko s p m).top (nT s) ≤ nT s := top_le (M := mko s p m) (nT s)
  have e86 := m286 L R I hp hm
  have e88 := fun x => m288 (d := d) L R I hp hm T0 x
  have e87 := fun x => m287 L R I hp hm (T := (mko s p m).top (nT s)) (by omega) x
  have s0 : liM (mko s p m) ((mko s p m).top (nT s)) 0 = 0 := rfl
  have p1 : liP (mko s p m) ((mko s p m).top (nT s)) d (0 + 1) = if liC (mko s p m) ((mko s p m).top (nT s)) d 0 then 0 else -1 := rfl
  have e0 : fn_289_35 w 96 (nI p) (nI m) (nI d) = fn_289_77 w cm_N 96 (nI p) (nI m) (nI d) (enc ((mko s p m).top (nT s))) (liP (mko s p m) ((mko s p m).top (nT s)) d (0 + 1)) 0 (enc ((mko s p m).lst (exf ((mko s p m).top (nT s)) 0) (nT s))) := by
    rw [p1]
    have e8 := e88 0
    have e7 := e87 0
    cases z : liC (mko s p m) ((mko s p m).top (nT s)) d 0 <;> rw [z] at e8 <;> simp (disch := omega) only [fn_289_35, fn_289_60, LM L, e86, e8, e7, eq_self, Nat.le_refl, Nat.lt_irrefl, some_if, Option.bind_some, Option.bind_none, Option.some.injEq, ↓reduceIte, reduceCtorEq, Bool.false_eq_true, Bool.true_eq_false, not_true_eq_false, not_false_eq_true, cmb0, cmb1, Nat.reduceAdd, Nat.reduceMul, Nat.reduceSub, Nat.add_zero, Bool.not_eq_true, Bool.not_eq_false, Nat.reduceEqDiff, Nat.reduceLeDiff, Nat.reduceLT, Int32.reduceLT, Int32.reduceLE, iin_nI, iin_lit, iin_m1, tn_nI, tn_lit, nI_lm, nI_ml, nI_al, nI_la, nI_add, pk_mul, nI_le_l, nI_l_le, nI_lt_l, nI_l_lt, nI_eq_l, nI_l_eq, nI_eqP, nI_leP, nI_ltP, nI_m1, m1_nI, nI_ll, m1_l, l_m1]
  rw [e0]
  generalize hTT : (mko s p m).top (nT s) = T at *
  generalize hM : mko s p m = M at *
  have Mn : M.n = nT s := by rw [← hM]; rfl
  refine up_0 (fun n (_ : Nat) (a : Int32 × Int32 × Int32) => fn_289_77 w n 96 (nI p) (nI m) (nI d) (enc T) a.1 a.2.1 a.2.2) N (fun k a => a = (liP M T d (k + 1), liM M T k, enc (M.lst (exf T (liM M T k)) (nT s)))) (fun o => o = _) (_, _, _) (by omega) rfl (fun n k a hk ha => Or.inr ⟨_, rfl, ?_⟩) (fun n a ha => ?_)
  · subst ha
    dsimp only
    have r := N1 k hk
    have ll := lst_le (M := M) (ex := exf T (liM M T k)) (nT s)
    have e1 : enc (M.lst (exf T (liM M T k)) (nT s)) = nI (M.lst (exf T (liM M T k)) (nT s) - 1) := if_neg r
    have s1 : liM M T (k + 1) = liM M T k ||| ((1 : Int32) <<< (nI (M.lst (exf T (liM M T k)) (nT s) - 1) &&& 31)) := by
      show _ ||| ((1 : Int32) <<< (nI (M.lst _ M.n - 1) &&& 31)) = _
      rw [Mn]
    have s2 : liP M T d (k + 1 + 1) = if liC M T d (liM M T (k + 1)) then liM M T (k + 1) else liP M T d (k + 1) := rfl
    have e8 := e88 (liM M T (k + 1))
    have e7 := e87 (liM M T (k + 1))
    rw [e1, s2]
    cases z : liC M T d (liM M T (k + 1)) <;> rw [z] at e8 <;> rw [s1] at e8 e7 ⊢ <;> simp (disch := omega) only [fn_289_77, fn_289_110, LM L, e8, e7, eq_self, Nat.le_refl, Nat.lt_irrefl, some_if, Option.bind_some, Option.bind_none, Option.some.injEq, ↓reduceIte, reduceCtorEq, Bool.false_eq_true, Bool.true_eq_false, not_true_eq_false, not_false_eq_true, cmb0, cmb1, Nat.reduceAdd, Nat.reduceMul, Nat.reduceSub, Nat.add_zero, Bool.not_eq_true, Bool.not_eq_false, Nat.reduceEqDiff, Nat.reduceLeDiff, Nat.reduceLT, Int32.reduceLT, Int32.reduceLE, iin_nI, iin_lit, iin_m1, tn_nI, tn_lit, nI_lm, nI_ml, nI_al, nI_la, nI_add, pk_mul, nI_le_l, nI_l_le, nI_lt_l, nI_l_lt, nI_eq_l, nI_l_eq, nI_eqP, nI_leP, nI_ltP, nI_m1, m1_nI, nI_ll, m1_l, l_m1]
  · subst ha
    dsimp only
    rw [N0, enc_0]
    simp (disch := omega) only [fn_289_77, eq_self, Nat.le_refl, Nat.lt_irrefl, some_if, Option.bind_some, Option.bind_none, Option.some.injEq, ↓reduceIte, reduceCtorEq, Bool.false_eq_true, Bool.true_eq_false, not_true_eq_false, not_false_eq_true, cmb0, cmb1, Nat.reduceAdd, Nat.reduceMul, Nat.reduceSub, Nat.add_zero, Bool.not_eq_true, Bool.not_eq_false, Nat.reduceEqDiff, Nat.reduceLeDiff, Nat.reduceLT, Int32.reduceLT, Int32.reduceLE, iin_nI, iin_lit, iin_m1, tn_nI, tn_lit, nI_lm, nI_ml, nI_al, nI_la, nI_add, pk_mul, nI_le_l, nI_l_le, nI_lt_l, nI_l_lt, nI_eq_l, nI_l_eq, nI_eqP, nI_leP, nI_ltP, nI_m1, m1_nI, nI_ll, m1_l, l_m1]
theorem w_liars (g : GG v c w s) (i1 i2 i3 : Int32) : OKW (fn_183 2 i1 i2 i3) (fun x => (fn_289 x 96 i1 i2 i3).map (fun r => (r, x))) w := by
  obtain ⟨L, M, C, Z, I⟩ := id g
  have hv := L.1
  have V := C.2.1
  have hT := I.1.1
  have hP := I.1.2.1
  have e01 : ∀ x, fn_194 x i3 (0 : Int32) (999 : Int32) = some (cm_iin i3 1000) := fun x => isIn_lit x i3 999 (by decide)
  rcases iin_cs i1 (n := nP s) (by omega) with h | ⟨p, hp, rfl⟩
  · refine ok_bad g ?_ (fun x L1 M1 => ?_)
    · simp (disch := omega) only [fn_183, fn_177, ↓LCb L, LC L, LV L hv, c10o L hv V I.1 h, eq_self, Nat.le_refl, Nat.lt_irrefl, some_if, Option.bind_some, Option.bind_none, Option.some.injEq, ↓reduceIte, reduceCtorEq, Bool.false_eq_true, Bool.true_eq_false, not_true_eq_false, not_false_eq_true, cmb0, cmb1, Nat.reduceAdd, Nat.reduceMul, Nat.reduceSub, Nat.add_zero, Bool.not_eq_true, Bool.not_eq_false, Nat.reduceEqDiff, Nat.reduceLeDiff, Nat.reduceLT, Int32.reduceLT, Int32.reduceLE, iin_nI, iin_lit, iin_m1, tn_nI, tn_lit, nI_lm, nI_ml, nI_al, nI_la, nI_add, pk_mul, nI_le_l, nI_l_le, nI_lt_l, nI_l_lt, nI_eq_l, nI_l_eq, nI_eqP, nI_leP, nI_ltP, nI_m1, m1_nI, nI_ll, m1_l, l_m1]
    · simp (disch := omega) only [fn_289, LM L1, mWho L1 M1 I.1, h, Option.map_some, eq_self, Nat.le_refl, Nat.lt_irrefl, some_if, Option.bind_some, Option.bind_none, Option.some.injEq, ↓reduceIte, reduceCtorEq, Bool.false_eq_true, Bool.true_eq_false, not_true_eq_false, not_false_eq_true, cmb0, cmb1, Nat.reduceAdd, Nat.reduceMul, Nat.reduceSub, Nat.add_zero, Bool.not_eq_true, Bool.not_eq_false, Nat.reduceEqDiff, Nat.reduceLeDiff, Nat.reduceLT, Int32.reduceLT, Int32.reduceLE, iin_nI, iin_lit, iin_m1, tn_nI, tn_lit, nI_lm, nI_ml, nI_al, nI_la, nI_add, pk_mul, nI_le_l, nI_l_le, nI_lt_l, nI_l_lt, nI_eq_l, nI_l_eq, nI_eqP, nI_leP, nI_ltP, nI_m1, m1_nI, nI_ll, m1_l, l_m1]
  obtain ⟨es, hs, hs2⟩ := shs_n I.1 hp
  have e10 := (c10 L hv V I.1 hp).trans (congrArg some es)
  by_cases t0 : nT s = 0
  · have z : tn (shs s p) = 0 := by
      rw [shs_sg (m := 0) I.1 hp]
      show sgm _ (nT s) = 0
      rw [t0]; rfl
    refine ok_bad g ?_ (fun x L1 M1 => ?_)
    · simp (disch := omega) only [fn_183, fn_177, ↓LCb L, LC L, LV L hv, e10, z, eq_self, Nat.le_refl, Nat.lt_irrefl, some_if, Option.bind_some, Option.bind_none, Option.some.injEq, ↓reduceIte, reduceCtorEq, Bool.false_eq_true, Bool.true_eq_false, not_true_eq_false, not_false_eq_true, cmb0, cmb1, Nat.reduceAdd, Nat.reduceMul, Nat.reduceSub, Nat.add_zero, Bool.not_eq_true, Bool.not_eq_false, Nat.reduceEqDiff, Nat.reduceLeDiff, Nat.reduceLT, Int32.reduceLT, Int32.reduceLE, iin_nI, iin_lit, iin_m1, tn_nI, tn_lit, nI_lm, nI_ml, nI_al, nI_la, nI_add, pk_mul, nI_le_l, nI_l_le, nI_lt_l, nI_l_lt, nI_eq_l, nI_l_eq, nI_eqP, nI_leP, nI_ltP, nI_m1, m1_nI, nI_ll, m1_l, l_m1]
    · cases h2 : cm_iin i2 6 <;> cases h3 : cm_iin i3 1000 <;> simp (disch := omega) only [fn_289, LM L1, RM M1, hT.1, mWho L1 M1 I.1, mmon (a := 0) _ L1, e01, h2, h3, t0, Option.map_some, eq_self, Nat.le_refl, Nat.lt_irrefl, some_if, Option.bind_some, Option.bind_none, Option.some.injEq, ↓reduceIte, reduceCtorEq, Bool.false_eq_true, Bool.true_eq_false, not_true_eq_false, not_false_eq_true, cmb0, cmb1, Nat.reduceAdd, Nat.reduceMul, Nat.reduceSub, Nat.add_zero, Bool.not_eq_true, Bool.not_eq_false, Nat.reduceEqDiff, Nat.reduceLeDiff, Nat.reduceLT, Int32.reduceLT, Int32.reduceLE, iin_nI, iin_lit, iin_m1, tn_nI, tn_lit, nI_lm, nI_ml, nI_al, nI_la, nI_add, pk_mul, nI_le_l, nI_l_le, nI_lt_l, nI_l_lt, nI_eq_l, nI_l_eq, nI_eqP, nI_leP, nI_ltP, nI_m1, m1_nI, nI_ll, m1_l, l_m1]
  have hs2 := hs2 (by omega)
  have z : ¬ tn (shs s p) ≤ 0 := by omega
  rcases iin_cs i2 (n := 6) (by omega) with h | ⟨m, hm, rfl⟩
  · refine ok_bad g ?_ (fun x L1 M1 => ?_)
    · simp (disch := omega) only [fn_183, fn_177, bmon, ↓LCb L, LC L, LV L hv, e10, z, h, eq_self, Nat.le_refl, Nat.lt_irrefl, some_if, Option.bind_some, Option.bind_none, Option.some.injEq, ↓reduceIte, reduceCtorEq, Bool.false_eq_true, Bool.true_eq_false, not_true_eq_false, not_false_eq_true, cmb0, cmb1, Nat.reduceAdd, Nat.reduceMul, Nat.reduceSub, Nat.add_zero, Bool.not_eq_true, Bool.not_eq_false, Nat.reduceEqDiff, Nat.reduceLeDiff, Nat.reduceLT, Int32.reduceLT, Int32.reduceLE, iin_nI, iin_lit, iin_m1, tn_nI, tn_lit, nI_lm, nI_ml, nI_al, nI_la, nI_add, pk_mul, nI_le_l, nI_l_le, nI_lt_l, nI_l_lt, nI_eq_l, nI_l_eq, nI_eqP, nI_leP, nI_ltP, nI_m1, m1_nI, nI_ll, m1_l, l_m1]
    · simp (disch := omega) only [fn_289, LM L1, mWho L1 M1 I.1, mmon (a := 0) _ L1, h, Option.map_some, eq_self, Nat.le_refl, Nat.lt_irrefl, some_if, Option.bind_some, Option.bind_none, Option.some.injEq, ↓reduceIte, reduceCtorEq, Bool.false_eq_true, Bool.true_eq_false, not_true_eq_false, not_false_eq_true, cmb0, cmb1, Nat.reduceAdd, Nat.reduceMul, Nat.reduceSub, Nat.add_zero, Bool.not_eq_true, Bool.not_eq_false, Nat.reduceEqDiff, Nat.reduceLeDiff, Nat.reduceLT, Int32.reduceLT, Int32.reduceLE, iin_nI, iin_lit, iin_m1, tn_nI, tn_lit, nI_lm, nI_ml, nI_al, nI_la, nI_add, pk_mul, nI_le_l, nI_l_le, nI_lt_l, nI_l_lt, nI_eq_l, nI_l_eq, nI_eqP, nI_leP, nI_ltP, nI_m1, m1_nI, nI_ll, m1_l, l_m1]
  rcases iin_cs i3 (n := 1000) (by omega) with h | ⟨d, hd, rfl⟩
  · refine ok_bad g ?_ (fun x L1 M1 => ?_)
    · simp (disch := omega) only [fn_183, fn_177, bmon, cpri, ↓LCb L, LC L, LV L hv, e10, z, h, eq_self, Nat.le_refl, Nat.lt_irrefl, some_if, Option.bind_some, Option.bind_none, Option.some.injEq, ↓reduceIte, reduceCtorEq, Bool.false_eq_true, Bool.true_eq_false, not_true_eq_false, not_false_eq_true, cmb0, cmb1, Nat.reduceAdd, Nat.reduceMul, Nat.reduceSub, Nat.add_zero, Bool.not_eq_true, Bool.not_eq_false, Nat.reduceEqDiff, Nat.reduceLeDiff, Nat.reduceLT, Int32.reduceLT, Int32.reduceLE, iin_nI, iin_lit, iin_m1, tn_nI, tn_lit, nI_lm, nI_ml, nI_al, nI_la, nI_add, pk_mul, nI_le_l, nI_l_le, nI_lt_l, nI_l_lt, nI_eq_l, nI_l_eq, nI_eqP, nI_leP, nI_ltP, nI_m1, m1_nI, nI_ll, m1_l, l_m1]
    · simp (disch := omega) only [fn_289, LM L1, mWho L1 M1 I.1, mmon (a := 0) _ L1, e01, h, Option.map_some, eq_self, Nat.le_refl, Nat.lt_irrefl, some_if, Option.bind_some, Option.bind_none, Option.some.injEq, ↓reduceIte, reduceCtorEq, Bool.false_eq_true, Bool.true_eq_false, not_true_eq_false, not_false_eq_true, cmb0, cmb1, Nat.reduceAdd, Nat.reduceMul, Nat.reduceSub, Nat.add_zero, Bool.not_eq_true, Bool.not_eq_false, Nat.reduceEqDiff, Nat.reduceLeDiff, Nat.reduceLT, Int32.reduceLT, Int32.reduceLE, iin_nI, iin_lit, iin_m1, tn_nI, tn_lit, nI_lm, nI_ml, nI_al, nI_la, nI_add, pk_mul, nI_le_l, nI_l_le, nI_lt_l, nI_l_lt, nI_eq_l, nI_l_eq, nI_eqP, nI_leP, nI_ltP, nI_m1, m1_nI, nI_ll, m1_l, l_m1]
  obtain ⟨y, y1, F, K⟩ := c88 L hv V I.1 hp hm
  have O := mko_ok I.1 hp hm
  have T0 := top_pos (m := m) I.1 hp (by omega)
  obtain ⟨N, N7, N0, N1⟩ := liars_end O T0
  have e93 := c93 (d := d) F.1 K O (mko_D I.1 hp) T0 N7 N0 N1
  refine ok_ro (c' := c) (r := liP (mko s p m) ((mko s p m).top (nT s)) d (N + 1)) g ⟨y, ?_, F⟩ (fun x L1 M1 _ => ⟨x, ?_, FM.rf L1 M1⟩)
  · simp (disch := omega) only [fn_183, fn_183_24, fn_177, bmon, cpri, ↓LCb L, LC L, LV L hv, e10, z, y1, ↓LCb F.1, LC F.1, e93, eq_self, Nat.le_refl, Nat.lt_irrefl, some_if, Option.bind_some, Option.bind_none, Option.some.injEq, ↓reduceIte, reduceCtorEq, Bool.false_eq_true, Bool.true_eq_false, not_true_eq_false, not_false_eq_true, cmb0, cmb1, Nat.reduceAdd, Nat.reduceMul, Nat.reduceSub, Nat.add_zero, Bool.not_eq_true, Bool.not_eq_false, Nat.reduceEqDiff, Nat.reduceLeDiff, Nat.reduceLT, Int32.reduceLT, Int32.reduceLE, iin_nI, iin_lit, iin_m1, tn_nI, tn_lit, nI_lm, nI_ml, nI_al, nI_la, nI_add, pk_mul, nI_le_l, nI_l_le, nI_lt_l, nI_l_lt, nI_eq_l, nI_l_eq, nI_eqP, nI_leP, nI_ltP, nI_m1, m1_nI, nI_ll, m1_l, l_m1]
    rfl
  · have e := m289 (d := d) L1 M1 I.1 hp hm T0 N7 N0 N1
    have nT0 : ¬ nT s = 0 := t0
    simp (disch := omega) only [fn_289, LM L1, RM M1, hT.1, mWho L1 M1 I.1, mmon (a := 0) _ L1, e01, nT0, e, Option.map_some, eq_self, Nat.le_refl, Nat.lt_irrefl, some_if, Option.bind_some, Option.bind_none, Option.some.injEq, ↓reduceIte, reduceCtorEq, Bool.false_eq_true, Bool.true_eq_false, not_true_eq_false, not_false_eq_true, cmb0, cmb1, Nat.reduceAdd, Nat.reduceMul, Nat.reduceSub, Nat.add_zero, Bool.not_eq_true, Bool.not_eq_false, Nat.reduceEqDiff, Nat.reduceLeDiff, Nat.reduceLT, Int32.reduceLT, Int32.reduceLE, iin_nI, iin_lit, iin_m1, tn_nI, tn_lit, nI_lm, nI_ml, nI_al, nI_la, nI_add, pk_mul, nI_le_l, nI_l_le, nI_lt_l, nI_l_lt, nI_eq_l, nI_l_eq, nI_eqP, nI_leP, nI_ltP, nI_m1, m1_nI, nI_ll, m1_l, l_m1]
end LIARS3
