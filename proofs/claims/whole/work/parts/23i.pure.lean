/-! .. the waits, the ice and the minute -/
theorem m_wt_lt {n j : Nat} (w i : Nat → Int32) (h : j < n) : m_wt n w i j = (if i j = 0 then w j + 1 else w j) := by
  unfold m_wt
  rw [if_pos h, Int32.add_zero]
theorem m_wt_ge {n j : Nat} (w i : Nat → Int32) (h : n ≤ j) : m_wt n w i j = w j := by
  unfold m_wt
  rw [if_neg (by omega)]
theorem m_sum_wt {n : Nat} {o : MO} {a : MS} (hb : ∀ j, j < n → o.2 0 j = 0 ∨ o.2 0 j = 1) : ∀ (k : Nat), k ≤ n → m_sum (m_wt n (a.2 1) (a.2 0)) k = m_sum (a.2 1) k + (m_cnt o a 0 1 k + m_cnt o a 0 0 k)
  | 0, _ => rfl
  | k + 1, hk => by
    have ih := m_sum_wt (a := a) hb k (by omega)
    have k02 : ¬ (0 : Int32) = 2 := by decide
    have k12 : ¬ (1 : Int32) = 2 := by decide
    have k01 : ¬ (0 : Int32) = 1 := by decide
    have k10 : ¬ (1 : Int32) = 0 := by decide
    have e1 : ∀ p q r s : Int32, p + (q + r) + (s + 1) = p + s + (q + 1 + r) := by
      intro p q r s
      ac_rfl
    have e2 : ∀ p q r s : Int32, p + (q + r) + (s + 1) = p + s + (q + (r + 1)) := by
      intro p q r s
      ac_rfl
    have e3 : ∀ p q r s : Int32, p + (q + r) + s = p + s + (q + r) := by
      intro p q r s
      ac_rfl
    rw [m_sum, m_sum, m_cnt, m_cnt, ih, m_wt_lt _ _ (show k < n by omega)]
    by_cases c : a.2 0 k = 0
    · rw [if_pos c, if_pos c, if_pos c, if_neg k12, if_neg k02]
      rcases hb k (by omega) with q | q
      · rw [q, if_neg k01, if_pos rfl, Int32.add_zero]
        exact e2 _ _ _ _
      · rw [q, if_pos rfl, if_neg k10, Int32.add_zero]
        exact e1 _ _ _ _
    · rw [if_neg c, if_neg c, if_neg c, Int32.add_zero, Int32.add_zero]
      exact e3 _ _ _ _
theorem RelN.wait {n : Nat} {b : XBr} {o : MO} {a : MS} (h : RelN n b o a) (hm : (a.1 0).toInt < 2000000000) {v w : Nat → Int32} (v0 : v 0 = b.1 0 + 1) (v1 : v 1 = b.1 1) (v2 : v 2 = b.1 2) (v3 : v 3 = w 3) (v4 : v 4 = b.1 4) (v5 : v 5 = b.1 5 + (b.2.2.1 2 + b.2.2.1 3)) (v6 : v 6 = b.1 6) (v7 : v 7 = b.1 7) (v8 : v 8 = b.1 8) (w0 : w 0 = a.1 0 + 1) (w1 : w 1 = a.1 1) (w2 : w 2 = a.1 2) (w4 : w 4 = a.1 4) (w5 : w 5 = a.1 5) (w6 : w 6 = a.1 6) : RelN n (v, b.2) o (w, xa a.2 1 (m_wt n (a.2 1) (a.2 0))) := by
  obtain ⟨⟨n40, on, bn⟩, ⟨e0, e1, e2, e3, e4, e5, e6⟩, hc, har, hw, hl, ⟨cp, cb, cc, cf, cg, cs⟩, hin, hps, ⟨d1, d2, d3, d4, d5, d6, d7, d8⟩, hz⟩ := h
  obtain ⟨m1, m2⟩ := p1_m d6 hm
  have hcn : ∀ wh kind, m_cnt o (w, xa a.2 1 (m_wt n (a.2 1) (a.2 0))) wh kind n = m_cnt o a wh kind n := fun wh kind => m_cnt_c n (fun _ _ => ⟨Iff.rfl, rfl⟩)
  have hfn : ∀ kind, m_first o (w, xa a.2 1 (m_wt n (a.2 1) (a.2 0))) kind n 0 = m_first o a kind n 0 := fun kind => m_first_c n 0 (fun _ _ _ => ⟨Iff.rfl, rfl⟩)
  have g1 : (1 : Int32).toInt = 1 := by decide
  refine ⟨⟨n40, on, bn⟩, ⟨?_, ?_, ?_, v3, ?_, ?_, ?_⟩, hc, har, fun k hk => ?_, fun k hk => ?_, ⟨?_, ?_, ?_, ?_, ?_, ?_⟩, fun k hk => ?_, ?_, ⟨?_, ?_, ?_, ?_, ?_, ?_, ?_, ?_⟩, fun k h1 h2 => ?_⟩
  · show v 0 = w 0
    rw [v0, w0, e0]
  · show v 1 = w 1
    rw [v1, w1, e1]
  · show v 2 = w 2
    rw [v2, w2, e2]
  · show v 4 = w 4
    rw [v4, w4, e4]
  · show v 6 = w 5
    rw [v6, w5, e5]
  · show v 8 = w 6
    rw [v8, w6, e6]
  · show m_wt n (a.2 1) (a.2 0) k = (if a.2 0 k = 0 then w 0 else b.2.2.2 5 k) - o.2 2 k
    rw [m_wt_lt _ _ hk]
    have hwk := hw k hk
    by_cases c : a.2 0 k = 0
    · rw [if_pos c] at hwk
      rw [if_pos c, if_pos c, hwk, w0, Int32.sub_eq_add_neg, Int32.sub_eq_add_neg, Int32.add_assoc, Int32.add_assoc, Int32.add_comm 1]
    · rw [if_neg c] at hwk
      rw [if_neg c, if_neg c]
      exact hwk
  · show a.2 2 k = if nI k = w 5 then v 7 else 0
    rw [w5, v7]
    exact hl k hk
  · rw [hcn]
    exact cp
  · rw [hcn]
    exact cb
  · rw [hcn]
    exact cc
  · rw [hfn]
    exact cf
  · rw [hfn]
    exact cg
  · show v 5 = m_sum (m_wt n (a.2 1) (a.2 0)) n
    rw [m_sum_wt (fun j hj => (hin j hj).1) n (Nat.le_refl n), v5, cs, cb, cc]
  · obtain ⟨i1, i2, i3, i4, i5⟩ := hin k hk
    refine ⟨i1, i2, i3, ?_⟩
    show 0 ≤ (m_wt n (a.2 1) (a.2 0) k).toInt ∧ (m_wt n (a.2 1) (a.2 0) k).toInt ≤ (w 0).toInt
    rw [m_wt_lt _ _ hk, w0, m2]
    by_cases c : a.2 0 k = 0
    · rw [if_pos c, toInt_addS (by omega) (by omega), g1]
      omega
    · rw [if_neg c]
      omega
  · show w 5 = -1 ∨ ∃ j, j < n ∧ w 5 = nI j ∧ a.2 0 j = 1 ∧ 1 ≤ (v 7).toInt ∧ (v 7).toInt ≤ 6
    rw [w5, v7]
    exact hps
  · show 0 ≤ (w 1).toInt
    rw [w1]
    exact d1
  · show (w 1).toInt ≤ 60
    rw [w1]
    exact d2
  · show 0 ≤ (w 2).toInt
    rw [w2]
    exact d3
  · show (w 2).toInt ≤ 30
    rw [w2]
    exact d4
  · show w 6 = 0 ∨ w 6 = 1
    rw [w6]
    exact d5
  · show 0 ≤ (w 0).toInt
    rw [w0]
    exact m1
  · show 0 ≤ (w 4).toInt
    rw [w4]
    exact d7
  · show (w 4).toInt ≤ 4
    rw [w4]
    exact d8
  · obtain ⟨z0, z1, z2⟩ := hz k h1 h2
    refine ⟨z0, ?_, z2⟩
    show m_wt n (a.2 1) (a.2 0) k = 0
    rw [m_wt_ge _ _ h1]
    exact z1
def x_tail (b : XBr) : XBr := (xs (s_X0_freeze (xs b.1 5 ((b.1 5) + ((b.2.2.1 2) + (b.2.2.1 3))), b.2)).1 0 (((s_X0_freeze (xs b.1 5 ((b.1 5) + ((b.2.2.1 2) + (b.2.2.1 3))), b.2)).1 0) + (1 : Int32)), (s_X0_freeze (xs b.1 5 ((b.1 5) + ((b.2.2.1 2) + (b.2.2.1 3))), b.2)).2)
theorem fm_e {x : Int32} (h : mOk x) : r_J9_floorMod_7cf53 (x / (60 : Int32)) (8 : Int32) = (x / (60 : Int32)) - (x / (60 : Int32)) / (8 : Int32) * (8 : Int32) := by
  unfold r_J9_floorMod_7cf53
  rw [if_pos (xor8 (by rw [d60 h.1]; have := h.1; omega))]
theorem frz_y (b : XBr) (c : (b.1 0) - (b.1 0) / (60 : Int32) * (60 : Int32) = 0) : s_X0_freeze b = (xs b.1 3 (imx (0 : Int32) (imn (9 : Int32) ((b.1 3) + (b.2.1 (r_J9_floorMod_7cf53 ((b.1 0) / (60 : Int32)) (8 : Int32)).toNatClampNeg)))), b.2) := if_pos c
theorem frz_n0 (b : XBr) (c : ¬ (b.1 0) - (b.1 0) / (60 : Int32) * (60 : Int32) = 0) : s_X0_freeze b = b := if_neg c
theorem mtl_y (o : MO) (a : MS) (c : (a.1 0) - (a.1 0) / (60 : Int32) * (60 : Int32) = 0) : m_tail o a = (xs (xs a.1 3 (imx (0 : Int32) (imn (9 : Int32) ((a.1 3) + ((o.2 3) (((a.1 0) / (60 : Int32)) - ((a.1 0) / (60 : Int32)) / (8 : Int32) * (8 : Int32)).toNatClampNeg))))) 0 ((a.1 0) + (1 : Int32)), a.2) := if_pos c
theorem mtl_n0 (o : MO) (a : MS) (c : ¬ (a.1 0) - (a.1 0) / (60 : Int32) * (60 : Int32) = 0) : m_tail o a = (xs a.1 0 ((a.1 0) + (1 : Int32)), a.2) := if_neg c
theorem tail_e {n : Nat} {b : XBr} {o : MO} {a : MS} (h : RelN n b o a) (hm : (a.1 0).toInt < 2000000000) : RelN n (x_tail b) o (m_rest o a) := by
  have h' := h
  obtain ⟨⟨n40, on, bn⟩, ⟨e0, e1, e2, e3, e4, e5, e6⟩, hc, -, -, -, -, -, -, ⟨d1, d2, d3, d4, d5, d6, d7, d8⟩, -⟩ := h'
  have en : (o.1 1).toNatClampNeg = n := by rw [on, nI_clamp (by omega)]
  have hi := hr_in (x := a.1 0) ⟨d6, hm⟩
  have hi8 : (((a.1 0) / (60 : Int32)) - ((a.1 0) / (60 : Int32)) / (8 : Int32) * (8 : Int32)).toNatClampNeg < 8 := by
    refine Nat.lt_of_not_le (fun q => hi (Or.inr q))
  have hice : b.1 3 + b.2.1 (r_J9_floorMod_7cf53 ((b.1 0) / (60 : Int32)) (8 : Int32)).toNatClampNeg = a.1 3 + o.2 3 (((a.1 0) / (60 : Int32)) - ((a.1 0) / (60 : Int32)) / (8 : Int32) * (8 : Int32)).toNatClampNeg := by
    rw [e0, e3, fm_e ⟨d6, hm⟩]
    exact congrArg (fun z => a.1 3 + z) (hc _ hi8)
  have hice2 := congrArg (fun z => imx (0 : Int32) (imn (9 : Int32) z)) hice
  unfold m_rest
  rw [en]
  by_cases c : (b.1 0) - (b.1 0) / (60 : Int32) * (60 : Int32) = 0
  · have c' : (a.1 0) - (a.1 0) / (60 : Int32) * (60 : Int32) = 0 := by rw [← e0]; exact c
    have f := frz_y (xs b.1 5 ((b.1 5) + ((b.2.2.1 2) + (b.2.2.1 3))), b.2) c
    have g := mtl_y o (a.1, xa a.2 1 (m_wt n (a.2 1) (a.2 0))) c'
    rw [g]
    unfold x_tail
    rw [f]
    exact h.wait hm rfl rfl rfl hice2 rfl rfl rfl rfl rfl rfl rfl rfl rfl rfl rfl
  · have c' : ¬ (a.1 0) - (a.1 0) / (60 : Int32) * (60 : Int32) = 0 := by rw [← e0]; exact c
    have f := frz_n0 (xs b.1 5 ((b.1 5) + ((b.2.2.1 2) + (b.2.2.1 3))), b.2) c
    have g := mtl_n0 o (a.1, xa a.2 1 (m_wt n (a.2 1) (a.2 0))) c'
    rw [g]
    unfold x_tail
    rw [f]
    exact h.wait hm rfl rfl rfl e3 rfl rfl rfl rfl rfl rfl rfl rfl rfl rfl rfl
theorem pass_e (o : MO) (a : MS) : s_X3_pass o a = m_rest o (mB (mA o a)) := by
  unfold s_X3_pass mA mB
  by_cases c : r_X3_next o a = -1
  · rw [if_pos c, if_pos c]
    repeat' split
    all_goals rfl
  · rw [if_neg c, if_neg c]
    repeat' split
    all_goals rfl
theorem mA_m (o : MO) (a : MS) : (mA o a).1 0 = a.1 0 := by
  unfold mA
  by_cases c : r_X3_next o a = -1
  · rw [if_pos c]
  · rw [if_neg c]
    exact serveM_m o a _
theorem mB_m (a : MS) : (mB a).1 0 = a.1 0 := by
  unfold mB
  repeat' split
  all_goals rfl
theorem minute_e {n : Nat} {b : XBr} {o : MO} {a : MS} (h : RelN n b o a) (hm : (a.1 0).toInt < 2000000000) : RelN n (s_X0_goOneMinute b) o (s_X3_pass o a) := by
  rw [pass_e]
  have hr := tail_e (go_e (serve_e h)) (by rw [mB_m, mA_m]; exact hm)
  unfold s_X0_goOneMinute g3_X0_goOneMinute g2_X0_goOneMinute g1_X0_goOneMinute
  unfold x_tail at hr
  exact hr
