/-! one minute, a stage at a time: the served traveller -/
theorem dPos {x : Int32} (d : Int32) (n : Nat) (hd : d.toInt = n) (hd0 : ¬ d = -1) (h : 0 ≤ x.toInt) : (x / d).toInt = x.toInt / n := by
  rw [Int32.toInt_div_of_ne_right _ _ hd0, hd, Int.tdiv_eq_ediv_of_nonneg h]
theorem imx_b {x y : Int32} {lo hi : Int} (h1 : lo ≤ x.toInt) (h2 : x.toInt ≤ hi) (h3 : y.toInt ≤ hi) : lo ≤ (imx x y).toInt ∧ (imx x y).toInt ≤ hi := by
  unfold imx
  by_cases c : x < y
  · rw [if_pos c]
    rw [Int32.lt_iff_toInt_lt] at c
    omega
  · rw [if_neg c]
    omega
theorem imn_b {x y : Int32} {lo hi : Int} (h1 : lo ≤ x.toInt) (h2 : x.toInt ≤ hi) (h3 : lo ≤ y.toInt) : lo ≤ (imn x y).toInt ∧ (imn x y).toInt ≤ hi := by
  unfold imn
  by_cases c : y < x
  · rw [if_pos c]
    rw [Int32.lt_iff_toInt_lt] at c
    omega
  · rw [if_neg c]
    omega
theorem speed_b (o : MO) (a : MS) (up : Int32) (h1 : 0 ≤ (a.1 2).toInt) (h2 : (a.1 2).toInt ≤ 30) : 1 ≤ (r_X3_speed o a up).toInt ∧ (r_X3_speed o a up).toInt ≤ 6 := by
  have g1 : (1 : Int32).toInt = 1 := by decide
  have g6 : (6 : Int32).toInt = 6 := by decide
  have d6 := dPos (x := a.1 2) (6 : Int32) 6 (by decide) (by decide) h1
  have s1 : ((6 : Int32) - ((a.1 2) / (6 : Int32))).toInt = 6 - (a.1 2).toInt / 6 := by
    rw [toInt_subS (by omega) (by omega), d6, g6]
    rfl
  have s2 : ((1 : Int32) + ((a.1 2) / (6 : Int32))).toInt = 1 + (a.1 2).toInt / 6 := by
    rw [toInt_addS (by omega) (by omega), d6, g1]
    rfl
  have d1 := dPos (x := (6 : Int32) - ((a.1 2) / (6 : Int32))) (2 : Int32) 2 (by decide) (by decide) (by omega)
  have d2 := dPos (x := (1 : Int32) + ((a.1 2) / (6 : Int32))) (2 : Int32) 2 (by decide) (by decide) (by omega)
  have m1 := imx_b (x := (1 : Int32)) (y := ((6 : Int32) - ((a.1 2) / (6 : Int32))) / (2 : Int32)) (lo := 1) (hi := 6) (by omega) (by omega) (by omega)
  have m2 := imx_b (x := (1 : Int32)) (y := ((1 : Int32) + ((a.1 2) / (6 : Int32))) / (2 : Int32)) (lo := 1) (hi := 6) (by omega) (by omega) (by omega)
  unfold r_X3_speed
  by_cases c1 : up = 0
  · rw [if_pos c1]
    by_cases c2 : (5 : Int32) ≤ (a.1 3)
    · rw [if_pos c2]
      exact m1
    · rw [if_neg c2]
      omega
  · rw [if_neg c1]
    by_cases c2 : (5 : Int32) ≤ (a.1 3)
    · rw [if_pos c2]
      exact m2
    · rw [if_neg c2]
      omega
theorem first_at2 {n : Nat} {o : MO} {a : MS} (n40 : n ≤ 40) (on : o.1 1 = nI n) (kind : Int32) (h : ¬ r_X3_first o a kind = -1) : ∃ j, j < n ∧ r_X3_first o a kind = nI j ∧ a.2 0 j = 0 := by
  have e : (o.1 1).toNatClampNeg = n := by rw [on, nI_clamp (by omega)]
  unfold r_X3_first at h ⊢
  rw [e] at h ⊢
  rcases m_first_at o a kind n 0 with q | ⟨j, -, h2, h3, h4⟩
  · exact absurd q h
  · exact ⟨j, by omega, h3, h4⟩
theorem next_at {n : Nat} {o : MO} {a : MS} (n40 : n ≤ 40) (on : o.1 1 = nI n) (h : ¬ r_X3_next o a = -1) : a.1 5 = -1 ∧ ∃ j, j < n ∧ r_X3_next o a = nI j ∧ a.2 0 j = 0 := by
  have hf := first_at2 (a := a) n40 on
  unfold r_X3_next at h ⊢
  by_cases c : a.1 5 = -1
  · refine ⟨c, ?_⟩
    rw [if_pos c] at h ⊢
    revert h
    repeat' split
    all_goals first
      | exact fun h => absurd rfl h
      | exact fun h => hf _ h
  · rw [if_neg c] at h
    exact absurd rfl h
theorem has_nI {t : XT} {n j : Nat} (n40 : n ≤ 40) (hn : t.1 0 = nI n) (hj : j < n) : ¬ r_X1_has t (nI j) = 0 := by
  unfold r_X1_has
  have e := nI_toInt (n := j) (by omega)
  have g0 : (0 : Int32).toInt = 0 := by decide
  rw [if_neg (by rw [Int32.lt_iff_toInt_lt]; omega), hn, if_neg (by rw [Int32.le_iff_toInt_le, nI_toInt (by omega)]; omega)]
  decide
theorem has_m1 (t : XT) : r_X1_has t (-1) = 0 := by
  unfold r_X1_has
  rw [if_pos (by decide)]
theorem RelN.begin {n j : Nat} {b : XBr} {o : MO} {a : MS} (h : RelN n b o a) (hp : a.1 5 = -1) (hj : j < n) (hs : a.2 0 j = 1) {w bg : Int32} (hw9 : w = o.2 1 j) (hbg : bg = 0 ∨ bg = 1) : RelN n (xs (xs (xs b.1 6 (nI j)) 7 w) 8 bg, b.2) o (xs (xs a.1 5 (nI j)) 6 bg, xa a.2 2 (upd (a.2 2) j w)) := by
  obtain ⟨⟨n40, on, bn⟩, ⟨e0, e1, e2, e3, e4, e5, e6⟩, hc, har, hw, hl, ⟨cp, cb, cc, cf, cg, cs⟩, hin, hps, ⟨d1, d2, d3, d4, -, d5, d6, d7⟩, hz⟩ := h
  obtain ⟨-, w1, w6, -⟩ := hin j hj
  refine ⟨⟨n40, on, bn⟩, ⟨e0, e1, e2, e3, e4, rfl, rfl⟩, hc, har, hw, fun k hk => ?_, ⟨cp.trans (m_cnt_c (o := o) (o' := o) (a := a) (a' := (xs (xs a.1 5 (nI j)) 6 bg, xa a.2 2 (upd (a.2 2) j w))) n (fun _ _ => ⟨Iff.rfl, rfl⟩)).symm, cb.trans (m_cnt_c (o := o) (o' := o) (a := a) (a' := (xs (xs a.1 5 (nI j)) 6 bg, xa a.2 2 (upd (a.2 2) j w))) n (fun _ _ => ⟨Iff.rfl, rfl⟩)).symm, cc.trans (m_cnt_c (o := o) (o' := o) (a := a) (a' := (xs (xs a.1 5 (nI j)) 6 bg, xa a.2 2 (upd (a.2 2) j w))) n (fun _ _ => ⟨Iff.rfl, rfl⟩)).symm, cf.trans (m_first_c (o := o) (o' := o) (a := a) (a' := (xs (xs a.1 5 (nI j)) 6 bg, xa a.2 2 (upd (a.2 2) j w))) n 0 (fun _ _ _ => ⟨Iff.rfl, rfl⟩)).symm, cg.trans (m_first_c (o := o) (o' := o) (a := a) (a' := (xs (xs a.1 5 (nI j)) 6 bg, xa a.2 2 (upd (a.2 2) j w))) n 0 (fun _ _ _ => ⟨Iff.rfl, rfl⟩)).symm, cs⟩, hin, Or.inr ⟨j, hj, rfl, hs, ?_, ?_⟩, ⟨d1, d2, d3, d4, hbg, d5, d6, d7⟩, fun k h1 h2 => ?_⟩
  · show upd (a.2 2) j w k = if nI k = nI j then w else 0
    by_cases c : k = j
    · subst c
      rw [upd_at, if_pos rfl]
    · rw [upd_ne c, hl k hk, hp, if_neg (nI_nm (by omega)), if_neg (fun q => c (nI_inj (by omega) (by omega) q))]
  · show 1 ≤ w.toInt
    rw [hw9]
    exact w1
  · show w.toInt ≤ 6
    rw [hw9]
    exact w6
  · obtain ⟨z0, z1, z2⟩ := hz k h1 h2
    refine ⟨z0, z1, ?_⟩
    show upd (a.2 2) j w k = 0
    rw [upd_ne (by omega)]
    exact z2
def mA (o : MO) (a : MS) : MS := if r_X3_next o a = (-1 : Int32) then a else g1_X3_pass o a
theorem RelN.angle {n : Nat} {b : XBr} {o : MO} {a : MS} (h : RelN n b o a) {x y : Int32} (hxy : x = y) (h1 : 0 ≤ y.toInt) (h2 : y.toInt ≤ 60) : RelN n (xs b.1 1 x, b.2) o (xs a.1 1 y, a.2) := by
  have h' := h
  obtain ⟨-, ⟨e0, e1, e2, e3, e4, e5, e6⟩, -, -, -, -, -, -, -, ⟨d1, d2, d3, d4, -, -, d5, d6⟩, -⟩ := h'
  exact h.set rfl rfl rfl rfl rfl rfl rfl rfl rfl rfl hxy e2 e3 e4 rfl rfl h1 h2 d3 d4 d5 d6
theorem serve_e {n : Nat} {b : XBr} {o : MO} {a : MS} (h : RelN n b o a) : RelN n (s_X0_serve b (r_X0_servedNext b)) o (mA o a) := by
  have h' := h
  obtain ⟨⟨n40, on, bn⟩, ⟨e0, e1, e2, e3, e4, e5, e6⟩, -, har, -, -, -, hin, -, ⟨d1, d2, d3, d4, -⟩, -⟩ := h'
  rw [next_e ⟨n, h⟩]
  unfold mA
  by_cases c1 : r_X3_next o a = -1
  · rw [if_pos c1, c1]
    unfold s_X0_serve
    rw [if_pos (has_m1 _)]
    exact h
  · rw [if_neg c1]
    obtain ⟨hp, j, hj, hk, hs⟩ := next_at n40 on c1
    unfold g1_X3_pass s_X0_serve s_X3_serve
    have ej : (nI j).toNatClampNeg = j := nI_clamp (by omega)
    obtain ⟨g0, g1, -⟩ := har j hj
    obtain ⟨hb, -⟩ := hin j hj
    obtain ⟨s1, s2⟩ := speed_b o a 1 d3 d4
    obtain ⟨t1, t2⟩ := speed_b o a 0 d3 d4
    have k60 : (60 : Int32).toInt = 60 := by decide
    have k0 : (0 : Int32).toInt = 0 := by decide
    rw [hk, if_neg (has_nI n40 bn hj), ej, g0, speed_e (o := o) e2 e3, speed_e (o := o) e2 e3, e1]
    rcases hb with hb | hb
    · rw [hb, if_neg (show ¬ (0 : Int32) = 1 by decide), show (60 : Int32) * 0 = 0 by decide]
      by_cases c2 : a.1 1 = 0
      · rw [if_pos c2, if_pos c2]
        unfold g1_X0_serve
        have hr := (h.endWait hj hs (st := (1 : Int32)) (by decide) (by decide) (fun _ => rfl))
        rw [g1]
        exact RelN.begin hr hp hj (upd_at _ _ _) rfl (Or.inl rfl)
      · rw [if_neg c2, if_neg c2, if_pos (show (0 : Int32) ≤ a.1 1 by rw [Int32.le_iff_toInt_le]; omega)]
        have hs2 : (a.1 1 - r_X3_speed o a 0).toInt = (a.1 1).toInt - (r_X3_speed o a 0).toInt := toInt_subS (by omega) (by omega)
        obtain ⟨q1, q2⟩ := imx_b (x := (0 : Int32)) (y := a.1 1 - r_X3_speed o a 0) (lo := 0) (hi := 60) (by omega) (by omega) (by omega)
        exact h.angle rfl q1 q2
    · rw [hb, if_pos rfl, show (60 : Int32) * 1 = 60 by decide]
      by_cases c2 : a.1 1 = (60 : Int32)
      · rw [if_pos c2, if_pos c2]
        unfold g2_X0_serve
        have hr := (h.endWait hj hs (st := (1 : Int32)) (by decide) (by decide) (fun _ => rfl))
        rw [g1]
        exact RelN.begin hr hp hj (upd_at _ _ _) rfl (Or.inr rfl)
      · have c3 : ¬ (60 : Int32) ≤ a.1 1 := by
          rw [Int32.le_iff_toInt_le]
          intro q
          exact c2 (Int32.toInt_inj.mp (by omega))
        rw [if_neg c2, if_neg c2, if_neg c3]
        have hs2 : (a.1 1 + r_X3_speed o a 1).toInt = (a.1 1).toInt + (r_X3_speed o a 1).toInt := toInt_addS (by omega) (by omega)
        obtain ⟨q1, q2⟩ := imn_b (x := (60 : Int32)) (y := a.1 1 + r_X3_speed o a 1) (lo := 0) (hi := 60) (by omega) (by omega) (by omega)
        exact h.angle rfl q1 q2
