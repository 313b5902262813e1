theorem cm_rb_b : (List.range 301).all (fun y => (cm_cks.getD y []).all (fun ch => ch.all (fun q => cm_rb cm_g y q.2 && (!cm_isc q.2.1 || (decide (q.2.2.2.1.length = 4) || decide (q.2.2.2.1.length = 1)))))) = true := by decide +kernel
theorem cm_cks_n : cm_cks.length = 301 := by decide +kernel
theorem cm_rb_all : ∀ (y pc : Nat) (d : cm_D), cm_g.1 y pc = some d → cm_rb cm_g y d = true ∧ (cm_isc d.1 = true → d.2.2.1.length = 4 ∨ d.2.2.1.length = 1) := by
  intro y pc d h
  obtain ⟨ck, h1, h2⟩ := Option.bind_eq_some_iff.mp (show (cm_cks[y]?).bind (fun ck => cm_lk ck pc) = some d from h)
  have hy : y < 301 := by rw [← cm_cks_n]; exact (List.getElem?_eq_some_iff.mp h1).1
  obtain ⟨ch, h3, h4⟩ := cm_lk_mem h2
  have hb := List.all_eq_true.mp cm_rb_b y (List.mem_range.mpr hy)
  rw [List.getD_eq_getElem?_getD, h1] at hb
  have hr := List.all_eq_true.mp (List.all_eq_true.mp hb ch h3) (pc, d) h4
  simp only [Bool.and_eq_true, Bool.or_eq_true, decide_eq_true_eq, Bool.not_eq_true'] at hr
  refine ⟨hr.1, fun hi => ?_⟩
  rcases hr.2 with q | q
  · rw [hi] at q; cases q
  · exact q
/-- what a method leaves as it was, from its function -/
theorem cm_leaves {y : Nat} {av : List Value} {w : cm_W} {o : Option (Option Value × cm_W)} {r : Option Value × cm_W} (h : cm_ca cm_g y av w o) (ho : o = some r) {lo hi : Nat} (hr : ((cm_mf y).2.2.2.2.2.2.2.1, (cm_mf y).2.2.2.2.2.2.2.2) = (lo, hi)) : cm_fw lo hi (decide (lo = 2) && decide (hi = 143)) w r.2 := by
  obtain ⟨n, hn⟩ := h.2 r ho
  have := cm_frame cm_rb_all n y 0 _ _ w r hn
  cases hr
  exact this
