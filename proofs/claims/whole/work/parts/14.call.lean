section CMC
variable {p : Program} {l : Launch} {e : Env} {R : Room} {s : State} {m : MethodId} {args : Array Value} {below : List Frame} {meth : Method} {c : Code} {H : Heap} {locs : List Loc} {cells slots : Nat} {Q : State → Prop}
variable {G : cm_G} {D : va_G} {Ts : List Jvm.Cond} {N0 sa wa y pc : Nat} {ls : Array Slot} {lv : cm_lv} {st : List Value} {w : cm_W} {d : cm_D}
theorem cm_cp_ne {α : Type} (f : Nat → Nat → α) (a0 sp a dp n b : Nat) (hb : b ≠ a) : cm_cp f a0 sp a dp n b = f b := by funext j; simp [cm_cp, hb]
theorem cm_cp_eq {α : Type} (f : Nat → Nat → α) (a0 sp a dp n : Nat) : cm_cp f a0 sp a dp n a = va_cpy (f a0) (f a) sp dp n := by
  funext j
  unfold cm_cp va_cpy
  simp
theorem cm_nn {z : Int32} (hz : ¬ z < 0) : z.toInt = (z.toNatClampNeg : Int) := by
  have hz0 : (0 : Int) ≤ z.toInt := by
    have := Int32.not_lt.mp hz
    simpa using Int32.le_iff_toInt_le.mp this
  show z.toInt = ((z.toInt.toNat : Nat) : Int)
  omega
/-- System.arraycopy between two arrays of ints, or of longs -/
theorem cm_st_copy {α : Type} (mk : α → Value) {idx a0 a n0 n1 : Nat} {ty : FieldType} {c0 c1 : ClassId} {f g : Nat → α} {sp dp n : Int32} {r : List Value} (hX : cm_X G D Ts p R s m args meth c y) (hdec : decode (G.2.2.1 y).2.1 pc = .ok (.invokestatic idx, 3)) (hwd : cm_wc G Ts y (.invokestatic idx) [11])
    (h0 : H[cm_ad N0 sa wa a0]? = some (arrV c0 n0 (fun j => mk (f j)))) (h1 : H[cm_ad N0 sa wa a]? = some (arrV c1 n1 (fun j => mk (g j)))) (hA0 : ArrOfT s c0 ty) (hA1 : ArrOfT s c1 ty) (hprim : refKind ty = false) (hfit : ∀ x, fits ty (mk x) = true) (htk : ∀ (T : State) (comp : ClassId) x, T.takes comp (mk x))
    (g1 : ¬ sp < 0) (g2 : ¬ dp < 0) (g3 : ¬ n < 0) (g4 : sp.toNatClampNeg + n.toNatClampNeg ≤ n0) (g5 : dp.toNatClampNeg + n.toNatClampNeg ≤ n1) (ha : 2 ≤ a) (hsum : (r.map fun v => v.category).sum ≤ 8) (hl : lv_has ls (cm_ml G y) (cm_lm (cm_ad N0 sa wa) lv)) (hL : ∀ q ∈ locs, N0 ≤ q.base)
    (kk : ∀ (H' : Heap) (locs' : List Loc), H'[cm_ad N0 sa wa a]? = some (arrV c1 n1 (fun j => mk (va_cpy f g sp.toNatClampNeg dp.toNatClampNeg n.toNatClampNeg j))) → H'.size = H.size → (∀ q, q ≠ cm_ad N0 sa wa a → H'[q]? = H[q]?) → (∀ q ∈ locs', N0 ≤ q.base) → W p l e R s m args below meth c H' locs' cells slots Q (F0 m (pc + 3) ls (r.map (cm_v (cm_ad N0 sa wa))))) :
    W p l e R s m args below meth c H locs cells slots Q (F0 m pc ls ((.int n :: .int dp :: .ref a :: .int sp :: .ref a0 :: r).map (cm_v (cm_ad N0 sa wa)))) := by
  obtain ⟨hx, hb, hml, hown, hts, hK, hinit, hfr, hlo⟩ := hX
  obtain ⟨w1, w2, w3, w4, w5, w6⟩ := hwd
  intro T hT X
  obtain ⟨-, k0, hk0, cm0, hkk0⟩ := hA0 n0 (fun j => mk (f j))
  obtain ⟨-, k1, hk1, cm1, hkk1⟩ := hA1 n1 (fun j => mk (g j))
  have z0 : (arrV c0 n0 (fun j => mk (f j))).slots.size = n0 := arrV_size _ _ _
  have z1 : (arrV c1 n1 (fun j => mk (g j))).slots.size = n1 := arrV_size _ _ _
  obtain ⟨vm', X', step⟩ := X.arraycopy hx hown (hts _ w1) (hts _ w2) (hts _ w3) (hts _ w4) (src := cm_ad N0 sa wa a0) (dst := cm_ad N0 sa wa a) (srcPos := sp) (destPos := dp) (n := n) (by rw [hT]; exact h0) (by rw [hT]; exact h1)
    (fun _ h => by cases h) (fun _ h => by cases h) (fun h => by cases h) (fun h => by cases h) hk0 hk1 hkk0 hkk1 (by simp [hprim]) g1 g2 g3
    (by rw [cm_nn g1, cm_nn g3, z0]; omega) (by rw [cm_nn g2, cm_nn g3, z1]; omega)
    (fun vm₁ _ i hi => by
      have e : (arrV c0 n0 (fun j => mk (f j))).slots.getD (sp.toNatClampNeg + i) .null = mk (f (sp.toNatClampNeg + i)) := by
        rw [Array.getD_eq_getD_getElem?, arrV_read _ _ (by omega)]
        rfl
      refine ⟨?_, ?_⟩
      · rw [e]
        exact hfit _
      · rw [e]
        exact htk _ _ _)
    (g := F0 m pc ls (.int n :: .int dp :: .ref (cm_ad N0 sa wa a) :: .int sp :: .ref (cm_ad N0 sa wa a0) :: r.map (cm_v (cm_ad N0 sa wa)))) rfl (by rw [hml]; exact hl.1) (rest := r.map (cm_v (cm_ad N0 sa wa))) rfl (by rw [hb]; exact hdec) (Nat.le_trans w5 hfr) (by show 2 * 0 + _ + _ ≤ _; rw [cm_cats]; omega)
  have e1 : copied (arrV c0 n0 (fun j => mk (f j))) (arrV c1 n1 (fun j => mk (g j))) sp dp n = arrV c1 n1 (fun j => mk (va_cpy f g sp.toNatClampNeg dp.toNatClampNeg n.toNatClampNeg j)) := va_copied mk c0 c1 f g g4
  rw [e1] at X' step
  have hlt : cm_ad N0 sa wa a < H.size := (Array.getElem?_eq_some_iff.mp h1).1
  have hheap : ((T.setVm vm').setCell (cm_ad N0 sa wa a) (arrV c1 n1 (fun j => mk (va_cpy f g sp.toNatClampNeg dp.toNatClampNeg n.toNatClampNeg j)))).heap = H.setIfInBounds (cm_ad N0 sa wa a) (arrV c1 n1 (fun j => mk (va_cpy f g sp.toNatClampNeg dp.toNatClampNeg n.toNatClampNeg j))) := by rw [← hT]; rfl
  obtain ⟨t, a1, b1⟩ := kk (H.setIfInBounds (cm_ad N0 sa wa a) (arrV c1 n1 (fun j => mk (va_cpy f g sp.toNatClampNeg dp.toNatClampNeg n.toNatClampNeg j)))) _ (by simp [Array.getElem?_setIfInBounds, hlt]) (by simp) (fun q hq => by simp [Array.getElem?_setIfInBounds, Ne.symm hq]) (fun q hq => by
      rcases List.mem_append.mp hq with h | h
      · exact hL q h
      · obtain ⟨z, -, hz⟩ := List.mem_map.mp h
        rw [← hz]
        show N0 ≤ cm_ad N0 sa wa a
        rw [cm_ad_ge ha]
        exact Nat.le_add_right _ _) _ hheap X'
  exact ⟨t, step t a1, b1⟩
set_option maxHeartbeats 1000000 in
theorem cm_st_at {i : Instr} {ops : List Nat} {q : List Value × cm_W} (hX : cm_X G D Ts p R s m args meth c y) (hdec : decode (G.2.2.1 y).2.1 pc = .ok (i, 3)) (hisc : cm_isc i = true) (hwd : cm_wc G Ts y i ops) (hat : cm_at G y ops st w = some q)
    (hP : cm_P G D N0 sa wa s w H) (hL : ∀ q ∈ locs, N0 ≤ q.base) (hl : lv_has ls (cm_ml G y) (cm_lm (cm_ad N0 sa wa) lv)) (hc1 : cells ≤ R.cells) (hc2 : slots ≤ R.slots)
    (kk : ∀ (H' : Heap) (locs' : List Loc), cm_P G D N0 sa wa s q.2 H' → (∀ q ∈ locs', N0 ≤ q.base) → W p l e R s m args below meth c H' locs' cells slots Q (F0 m (pc + 3) ls (q.1.map (cm_v (cm_ad N0 sa wa))))) :
    W p l e R s m args below meth c H locs cells slots Q (F0 m pc ls (st.map (cm_v (cm_ad N0 sa wa)))) := by
  have hX0 := hX
  obtain ⟨hx, hb, hml, hown, hts, hK, hinit, hfr, hlo⟩ := hX
  unfold cm_at at hat
  split at hat
  · split at hat
    · rename_i b r hsum
      cases hat
      cases i <;> (try (cases hisc; done))
      case invokevirtual idx => exact False.elim hwd
      case invokestatic idx => exact False.elim hwd
      case invokespecial idx =>
        obtain ⟨w1, w2, w3, w4, w5⟩ := hwd
        exact W.objInit hx hb hown (hts _ w1) (hts _ w2) (hts _ w3) rfl (by rw [hml]; exact hl.1) rfl hdec (Nat.le_trans w4 hfr) (by show 2 * 0 + _ + _ ≤ _; rw [cm_cats]; omega) (kk H locs hP hL)
    · cases hat
  · split at hat
    · split at hat
      · rename_i n dp a sp a0 r o1 o2 n0 n1 e0 e1 hh
        cases hat
        obtain ⟨g1, g2, g3, g4, g5, hao, ha0, hsum⟩ := hh
        have ha := cm_wo2 hao
        obtain ⟨c0, q0, p0, p0'⟩ := cm_arr hP e0 ha0
        obtain ⟨c1, q1, p1, p1'⟩ := cm_arr hP e1 ha
        cases i <;> (try (cases hisc; done))
        case invokevirtual idx => exact False.elim hwd
        case invokespecial idx => exact False.elim hwd
        case invokestatic idx =>
          refine cm_st_copy (fun x : Int32 => Value.int x) hX0 hdec hwd q0 q1 p0 p1 rfl (fun _ => rfl) (fun _ _ _ => trivial) g1 g2 g3 g4 g5 ha hsum hl hL fun H' locs' k1 k2 k3 k4 => ?_
          refine kk H' locs' (hP.put ha rfl rfl (fun b hb => cm_cp_ne _ _ _ _ _ _ b hb) (fun _ _ => rfl) (fun _ _ => rfl) k3 k2 (cm_aput ha e1 ?_ p1 p1')) k4
          rw [k1]
          show _ = some (vp_cell c1 (n1, .inl (cm_cp w.2.1 a0 sp.toNatClampNeg a dp.toNatClampNeg n.toNatClampNeg a)))
          rw [cm_cp_eq]
          rfl
      · cases hat
    · split at hat
      · rename_i n dp a sp a0 r o1 o2 n0 n1 e0 e1 hh
        cases hat
        obtain ⟨g1, g2, g3, g4, g5, hao, ha0, hsum⟩ := hh
        have ha := cm_wo2 hao
        obtain ⟨c0, q0, p0, p0'⟩ := cm_arr hP e0 ha0
        obtain ⟨c1, q1, p1, p1'⟩ := cm_arr hP e1 ha
        cases i <;> (try (cases hisc; done))
        case invokevirtual idx => exact False.elim hwd
        case invokespecial idx => exact False.elim hwd
        case invokestatic idx =>
          refine cm_st_copy (fun x : Int64 => Value.long x) hX0 hdec hwd q0 q1 p0 p1 rfl (fun _ => rfl) (fun _ _ _ => trivial) g1 g2 g3 g4 g5 ha hsum hl hL fun H' locs' k1 k2 k3 k4 => ?_
          refine kk H' locs' (hP.put ha rfl rfl (fun _ _ => rfl) (fun b hb => cm_cp_ne _ _ _ _ _ _ b hb) (fun _ _ => rfl) k3 k2 (cm_aput ha e1 ?_ p1 p1')) k4
          rw [k1]
          show _ = some (vp_cell c1 (n1, .inr (.inl (cm_cp w.2.2.1 a0 sp.toNatClampNeg a dp.toNatClampNeg n.toNatClampNeg a))))
          rw [cm_cp_eq]
          rfl
      · cases hat
    · cases hat
  · split at hat
    · rename_i z x r hsum
      cases hat
      cases i <;> (try (cases hisc; done))
      case invokevirtual idx => exact False.elim hwd
      case invokespecial idx => exact False.elim hwd
      case invokestatic idx =>
        obtain ⟨w1, w2, w3, w4, w5, w6⟩ := hwd
        exact va_mmax hx hb (by rw [hml]; exact hl.1.symm) hown (hts _ w1) (hts _ w2) (hts _ w3) (hts _ w4) (Nat.le_trans w5 hfr) (by rw [cm_cats]; omega) hc1 hc2 hdec (kk H locs hP hL)
    · cases hat
  · split at hat
    · rename_i z x r hsum
      cases hat
      cases i <;> (try (cases hisc; done))
      case invokevirtual idx => exact False.elim hwd
      case invokespecial idx => exact False.elim hwd
      case invokestatic idx =>
        obtain ⟨w1, w2, w3, w4, w5, w6⟩ := hwd
        exact va_mmin hx hb (by rw [hml]; exact hl.1.symm) hown (hts _ w1) (hts _ w2) (hts _ w3) (hts _ w4) (Nat.le_trans w5 hfr) (by rw [cm_cats]; omega) hc1 hc2 hdec (kk H locs hP hL)
    · cases hat
  · cases hat
end CMC
