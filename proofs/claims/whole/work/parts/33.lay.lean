/-! where all lies once both objects are made (printed by wip/gen/emit5.py) -/
def ly_s (a : Nat) : Option cm_S := match a with
  | 2 => some (.inl 10)
  | 3 => some (.inr (.byte, 900))
  | 4 => some (.inl 4)
  | 5 => some (.inr (.int, 901))
  | 6 => some (.inr (.int, 901))
  | 7 => some (.inr (.int, 901))
  | 8 => some (.inr (.long, 901))
  | 9 => some (.inr (.int, 901))
  | 10 => some (.inl 9)
  | 11 => some (.inr (.long, 8))
  | 12 => some (.inl 7)
  | 13 => some (.inr (.int, 32))
  | 14 => some (.inr (.long, 12))
  | 15 => some (.inl 7)
  | 16 => some (.inr (.int, 36))
  | 17 => some (.inr (.int, 96))
  | 18 => some (.inl 7)
  | 19 => some (.inr (.int, 18))
  | 20 => some (.inl 9)
  | 21 => some (.inr (.long, 8))
  | 22 => some (.inl 7)
  | 23 => some (.inr (.int, 32))
  | 24 => some (.inr (.long, 12))
  | 25 => some (.inl 7)
  | 26 => some (.inr (.int, 36))
  | 27 => some (.inr (.int, 96))
  | 28 => some (.inl 7)
  | 29 => some (.inr (.int, 18))
  | 30 => some (.inl 6)
  | 31 => some (.inl 7)
  | 32 => some (.inr (.int, 240))
  | 33 => some (.inl 7)
  | 34 => some (.inr (.int, 2100))
  | 35 => some (.inl 7)
  | 36 => some (.inr (.int, 120))
  | 37 => some (.inl 7)
  | 38 => some (.inr (.int, 160))
  | 39 => some (.inr (.int, 480))
  | 40 => some (.inr (.int, 12))
  | 41 => some (.inr (.object "NailedBoxes$State", 3))
  | 42 => some (.inr (.int, 3))
  | 43 => some (.inl 8)
  | 44 => some (.inr (.long, 8))
  | 45 => some (.inr (.int, 12))
  | 46 => some (.inl 2)
  | 47 => some (.inr (.int, 8))
  | 48 => some (.inl 0)
  | 49 => some (.inr (.int, 40))
  | 50 => some (.inr (.int, 12))
  | 51 => some (.inl 3)
  | 52 => some (.inr (.long, 8))
  | 53 => some (.inr (.int, 8))
  | 54 => some (.inr (.int, 8))
  | 55 => some (.inl 5)
  | 56 => some (.inr (.int, 8))
  | 57 => some (.inr (.int, 8))
  | 58 => some (.inl 1)
  | 59 => some (.inr (.int, 8))
  | 60 => some (.inr (.int, 8))
  | 61 => some (.inr (.long, 1000))
  | 62 => some (.inr (.long, 1000))
  | 63 => some (.inl 6)
  | 64 => some (.inl 7)
  | 65 => some (.inr (.int, 240))
  | 66 => some (.inl 7)
  | 67 => some (.inr (.int, 2100))
  | 68 => some (.inl 7)
  | 69 => some (.inr (.int, 120))
  | 70 => some (.inl 7)
  | 71 => some (.inr (.int, 160))
  | 72 => some (.inr (.int, 480))
  | 73 => some (.inr (.int, 12))
  | 74 => some (.inl 6)
  | 75 => some (.inl 7)
  | 76 => some (.inr (.int, 240))
  | 77 => some (.inl 7)
  | 78 => some (.inr (.int, 2100))
  | 79 => some (.inl 7)
  | 80 => some (.inr (.int, 120))
  | 81 => some (.inl 7)
  | 82 => some (.inr (.int, 160))
  | 83 => some (.inr (.int, 480))
  | 84 => some (.inr (.int, 12))
  | 85 => some (.inl 6)
  | 86 => some (.inl 7)
  | 87 => some (.inr (.int, 240))
  | 88 => some (.inl 7)
  | 89 => some (.inr (.int, 2100))
  | 90 => some (.inl 7)
  | 91 => some (.inr (.int, 120))
  | 92 => some (.inl 7)
  | 93 => some (.inr (.int, 160))
  | 94 => some (.inr (.int, 480))
  | 95 => some (.inr (.int, 12))
  | 96 => some (.inl 11)
  | 97 => some (.inr (.int, 3))
  | 98 => some (.inr (.long, 16))
  | 99 => some (.inr (.long, 24))
  | 100 => some (.inr (.int, 16))
  | 101 => some (.inr (.int, 16))
  | 102 => some (.inr (.int, 16))
  | 103 => some (.inr (.int, 16))
  | 104 => some (.inr (.int, 24))
  | 105 => some (.inr (.int, 24))
  | 106 => some (.inr (.int, 24))
  | 107 => some (.inr (.int, 192))
  | 108 => some (.inr (.int, 12))
  | 109 => some (.inr (.int, 12))
  | 110 => some (.inr (.int, 12))
  | 111 => some (.inr (.int, 12))
  | 112 => some (.inr (.byte, 900))
  | 113 => some (.inr (.byte, 900))
  | 114 => some (.inr (.int, 40))
  | 115 => some (.inr (.int, 40))
  | 116 => some (.inr (.int, 40))
  | 117 => some (.inr (.int, 40))
  | 118 => some (.inr (.int, 40))
  | 119 => some (.inr (.int, 40))
  | 120 => some (.inr (.int, 40))
  | 121 => some (.inr (.int, 480))
  | 122 => some (.inr (.int, 2100))
  | 123 => some (.inr (.long, 8))
  | 124 => some (.inr (.int, 20))
  | 125 => some (.inr (.int, 20))
  | 126 => some (.inr (.int, 20))
  | 127 => some (.inr (.int, 20))
  | 128 => some (.inr (.int, 20))
  | 129 => some (.inr (.int, 20))
  | 130 => some (.inr (.int, 40))
  | 131 => some (.inr (.int, 40))
  | 132 => some (.inr (.int, 40))
  | 133 => some (.inr (.int, 40))
  | 134 => some (.inr (.int, 40))
  | 135 => some (.inr (.int, 12))
  | 136 => some (.inr (.long, 8))
  | 137 => some (.inr (.long, 1000))
  | 138 => some (.inr (.long, 1000))
  | 139 => some (.inr (.int, 8))
  | 140 => some (.inr (.int, 9600))
  | 141 => some (.inr (.int, 5))
  | 142 => some (.inr (.long, 3))
  | _ => none
def ly_r : List (Nat × Nat × Nat) := [(2, 0, 3), (2, 2, 4), (2, 3, 20), (2, 5, 30), (2, 6, 41), (2, 8, 42), (2, 9, 43), (2, 10, 46), (2, 11, 48), (2, 12, 51), (2, 13, 55), (2, 14, 58), (4, 0, 5), (4, 1, 6), (4, 2, 7), (4, 3, 8), (4, 4, 9), (4, 8, 10), (10, 0, 11), (10, 1, 12), (10, 2, 14), (10, 3, 15), (10, 4, 17), (10, 5, 18), (12, 1, 13), (15, 1, 16), (18, 1, 19), (20, 0, 21), (20, 1, 22), (20, 2, 24), (20, 3, 25), (20, 4, 27), (20, 5, 28), (22, 1, 23), (25, 1, 26), (28, 1, 29), (30, 0, 31), (30, 1, 33), (30, 2, 35), (30, 3, 37), (30, 4, 39), (30, 5, 40), (31, 1, 32), (33, 1, 34), (35, 1, 36), (37, 1, 38), (41, 0, 63), (41, 1, 74), (41, 2, 85), (43, 0, 44), (43, 1, 45), (46, 0, 47), (48, 0, 49), (48, 1, 50), (51, 0, 52), (51, 1, 53), (51, 2, 54), (55, 0, 56), (55, 1, 57), (58, 0, 59), (58, 1, 60), (58, 2, 61), (58, 3, 62), (63, 0, 64), (63, 1, 66), (63, 2, 68), (63, 3, 70), (63, 4, 72), (63, 5, 73), (64, 1, 65), (66, 1, 67), (68, 1, 69), (70, 1, 71), (74, 0, 75), (74, 1, 77), (74, 2, 79), (74, 3, 81), (74, 4, 83), (74, 5, 84), (75, 1, 76), (77, 1, 78), (79, 1, 80), (81, 1, 82), (85, 0, 86), (85, 1, 88), (85, 2, 90), (85, 3, 92), (85, 4, 94), (85, 5, 95), (86, 1, 87), (88, 1, 89), (90, 1, 91), (92, 1, 93), (96, 0, 97), (96, 20, 98), (96, 21, 99), (96, 22, 100), (96, 23, 101), (96, 24, 102), (96, 25, 103), (96, 26, 104), (96, 27, 105), (96, 28, 106), (96, 29, 107), (96, 30, 108), (96, 31, 109), (96, 32, 110), (96, 33, 111), (96, 34, 112), (96, 35, 113), (96, 40, 114), (96, 41, 115), (96, 42, 116), (96, 43, 117), (96, 44, 118), (96, 45, 119), (96, 46, 120), (96, 47, 121), (96, 48, 122), (96, 49, 123), (96, 52, 124), (96, 53, 125), (96, 54, 126), (96, 55, 127), (96, 56, 128), (96, 57, 129), (96, 59, 130), (96, 60, 131), (96, 61, 132), (96, 62, 133), (96, 63, 134), (96, 64, 135), (96, 65, 136), (96, 69, 137), (96, 70, 138), (96, 72, 139), (96, 75, 140), (96, 76, 141), (96, 77, 142)]
/-- the ints that are not 0 -/
def ly_i : List (Nat × Nat × Int32) := [(2, 4, -1), (4, 7, -1), (10, 6, 8), (10, 7, 8), (10, 8, 6), (12, 0, 4), (15, 0, 3), (18, 0, 3), (20, 6, 8), (20, 7, 8), (20, 8, 6), (22, 0, 4), (25, 0, 3), (28, 0, 3), (31, 0, 6), (33, 0, 7), (35, 0, 6), (37, 0, 4), (48, 2, -1), (48, 3, -1), (55, 2, -1), (64, 0, 6), (66, 0, 7), (68, 0, 6), (70, 0, 4), (75, 0, 6), (77, 0, 7), (79, 0, 6), (81, 0, 4), (86, 0, 6), (88, 0, 7), (90, 0, 6), (92, 0, 4), (96, 5, 8), (96, 6, 8), (96, 7, 6), (96, 12, -1)]
def ly_l : List (Nat × Nat × Int64) := [(30, 7, 1), (63, 7, 1), (74, 7, 1), (85, 7, 1), (96, 71, 1)]
def ly_n (a : Nat) : Nat := match ly_s a with
  | some (.inl ci) => (vwCl[ci]?).elim 0 (fun q => q.2.2)
  | some (.inr (_, n)) => min n 16
  | none => 0
/-- an empty world -/
def ly_z : cm_W := (fun _ => none, fun _ _ => 0, fun _ _ => 0, fun _ _ => none, 2, 0)
def ly_run (w : cm_W) : Option cm_W := (cm_run cm_g 3000 137 0 [(0, .ref 2)] [] (cm_mk w (.inl 10) 15)).bind (fun r => if r.1 = none ∧ cm_sz r.2 = 96 then (cm_run cm_g 3000 193 0 [(0, .ref 96)] [] (cm_mk r.2 (.inl 11) 78)).bind (fun q => if q.1 = none then some q.2 else none) else none)
def ly_iv (a k : Nat) : Int32 := ((ly_i.find? (fun q => q.1 == a && q.2.1 == k)).map (fun q => q.2.2)).getD 0
def ly_lv (a k : Nat) : Int64 := ((ly_l.find? (fun q => q.1 == a && q.2.1 == k)).map (fun q => q.2.2)).getD 0
def ly_c1 (w : cm_W) : Bool := (List.range 144).all (fun a => decide (w.1 a = ly_s a)) && decide (cm_sz w = 143 ∧ cm_ns w = 37680)
def ly_c2 (w : cm_W) : Bool := ly_r.all (fun q => decide (w.2.2.2.1 q.1 q.2.1 = some q.2.2))
def ly_c3 (w : cm_W) : Bool := (List.range 143).all (fun a => match ly_s a with
  | some (.inl _) => (List.range 78).all (fun k => decide (w.2.1 a k = ly_iv a k) && decide (w.2.2.1 a k = ly_lv a k))
  | _ => true) && (List.range 3).all (fun k => decide (w.2.1 42 k = 0) && decide (w.2.1 97 k = 0))
theorem ly_1 : (ly_run ly_z).map (fun w => ly_c1 w && (ly_c2 w && ly_c3 w)) = some true := by decide +kernel
/-- what holds of a world in which both objects have just been made -/
def ly_ok (w : cm_W) : Prop := (∀ a, 2 ≤ a → a < 143 → w.1 a = ly_s a) ∧ (cm_sz w = 143 ∧ cm_ns w = 37680) ∧ (∀ q ∈ ly_r, w.2.2.2.1 q.1 q.2.1 = some q.2.2) ∧ (∀ a ci k, 2 ≤ a → a < 143 → ly_s a = some (.inl ci) → k < 78 → w.2.1 a k = ly_iv a k ∧ w.2.2.1 a k = ly_lv a k) ∧ ∀ k, k < 3 → w.2.1 42 k = 0 ∧ w.2.1 97 k = 0
theorem ly_some : (List.range 143).all (fun a => decide (a < 2) || (ly_s a).isSome) = true := by decide +kernel
theorem ly_rb : ly_r.all (fun q => decide (2 ≤ q.1 ∧ q.1 < 143)) = true := by decide +kernel
theorem ly_two {w : cm_W} (hx : cm_xt ly_z w) : ∃ r1 r2, cm_run cm_g 3000 137 0 [(0, .ref 2)] [] (cm_mk w (.inl 10) 15) = some (none, r1) ∧ cm_run cm_g 3000 193 0 [(0, .ref 96)] [] (cm_mk r1 (.inl 11) 78) = some (none, r2) ∧ cm_sz r1 = 96 ∧ ly_ok r2 := by
  obtain ⟨v, hv, hc⟩ := Option.map_eq_some_iff.mp ly_1
  obtain ⟨q1, h1, h2⟩ := Option.bind_eq_some_iff.mp (show (cm_run cm_g 3000 137 0 [(0, .ref 2)] [] (cm_mk ly_z (.inl 10) 15)).bind _ = some v from hv)
  split at h2
  · rename_i e1
    obtain ⟨q2, h3, h4⟩ := Option.bind_eq_some_iff.mp h2
    split at h4
    · rename_i e2
      cases h4
      obtain ⟨v1, g1, x1⟩ := cm_run_xt _ _ _ _ _ _ _ _ (hx.mk (.inl 10) 15) h1
      obtain ⟨v2, g2, x2⟩ := cm_run_xt _ _ _ _ _ _ _ _ (x1.mk (.inl 11) 78) h3
      rw [e1.1] at g1
      rw [e2] at g2
      refine ⟨v1, v2, g1, g2, x1.1.trans e1.2, ?_⟩
      simp only [Bool.and_eq_true] at hc
      obtain ⟨c1, c2, c3⟩ := hc
      unfold ly_c1 at c1
      unfold ly_c2 at c2
      unfold ly_c3 at c3
      simp only [Bool.and_eq_true, decide_eq_true_eq] at c1 c3
      have hsh : ∀ a, 2 ≤ a → a < 143 → ∃ x, q2.2.1 a = some x ∧ ly_s a = some x := by
        intro a h2 h143
        have e := of_decide_eq_true (List.all_eq_true.mp c1.1 a (List.mem_range.mpr (by omega)))
        have s := List.all_eq_true.mp ly_some a (List.mem_range.mpr h143)
        simp only [Bool.or_eq_true, decide_eq_true_eq] at s
        rcases s with s | s
        · omega
        · obtain ⟨x, hx⟩ := Option.isSome_iff_exists.mp s
          exact ⟨x, by rw [e]; exact hx, hx⟩
      refine ⟨fun a h2 h143 => ?_, ⟨x2.1.trans c1.2.1, x2.2.1.trans c1.2.2⟩, fun q hq => ?_, fun a ci k h2 h143 hci hk => ?_, fun k hk => ?_⟩
      · obtain ⟨x, hx1, hx2⟩ := hsh a h2 h143
        rw [(x2.2.2 a x hx1).1, hx2]
      · have b := of_decide_eq_true (List.all_eq_true.mp ly_rb q hq)
        obtain ⟨x, hx1, -⟩ := hsh q.1 b.1 b.2
        rw [(x2.2.2 q.1 x hx1).2.2.2]
        exact of_decide_eq_true (List.all_eq_true.mp c2 q hq)
      · obtain ⟨x, hx1, -⟩ := hsh a h2 h143
        have t := List.all_eq_true.mp c3.1 a (List.mem_range.mpr h143)
        rw [hci] at t
        have t2 := List.all_eq_true.mp t k (List.mem_range.mpr hk)
        simp only [Bool.and_eq_true, decide_eq_true_eq] at t2
        rw [(x2.2.2 a x hx1).2.1, (x2.2.2 a x hx1).2.2.1]
        exact t2
      · have t2 := List.all_eq_true.mp c3.2 k (List.mem_range.mpr hk)
        simp only [Bool.and_eq_true, decide_eq_true_eq] at t2
        obtain ⟨x, hx1, -⟩ := hsh 42 (by omega) (by omega)
        obtain ⟨x', hx1', -⟩ := hsh 97 (by omega) (by omega)
        rw [(x2.2.2 42 x hx1).2.1, (x2.2.2 97 x' hx1').2.1]
        exact t2
    · cases h4
  · cases h2
