/-! come -/
theorem nI_inj {i j : Nat} (hi : i < 401) (hj : j < 401) (h : nI i = nI j) : i = j := by
  have h := congrArg Int32.toNatClampNeg h
  rw [nI_clamp (by omega), nI_clamp (by omega)] at h
  exact h
theorem RelN.add {n : Nat} {b : XBr} {o : MO} {a : MS} (h : RelN n b o a) (hn : n < 40) (bg mn : Int32) (hbg : bg = 0 ∨ bg = 1) (h1 : 1 ≤ mn.toInt) (h6 : mn.toInt ≤ 6) : RelN (n + 1) (b.1, b.2.1, s_X1_seeWhoWaits (xs b.2.2.1 0 ((b.2.2.1 0) + (1 : Int32)), xa (xa (xa (xa (xa b.2.2.2 0 (upd (b.2.2.2 0) n bg)) 1 (upd (b.2.2.2 1) n mn)) 2 (upd (b.2.2.2 2) n (0 : Int32))) 3 (upd (b.2.2.2 3) n (b.1 0))) 4 (upd (b.2.2.2 4) n (-1 : Int32)))) (xs (xs o.1 0 (0 : Int32)) 1 ((o.1 1) + (1 : Int32)), xa (xa (xa o.2 0 (upd (o.2 0) n bg)) 1 (upd (o.2 1) n mn)) 2 (upd (o.2 2) n (a.1 0))) (a.1, xa a.2 3 (upd (a.2 3) n (-1 : Int32))) := by
  obtain ⟨⟨n40, on, bn⟩, he, hc, har, hw, hl, ⟨cp, cb, cc, cf, cg, cs⟩, hin, hps, hbd, hz⟩ := h
  obtain ⟨z0, z1, z2⟩ := hz n (Nat.le_refl n) hn
  refine RelP.see ⟨⟨by omega, ?_, ?_⟩, he, hc, fun k hk => ?_, fun k hk => ?_, fun k hk => ?_, ⟨?_, ?_⟩, fun k hk => ?_, ?_, hbd, fun k h3 h4 => hz k (by omega) h4⟩
  · show (o.1 1) + (1 : Int32) = nI (n + 1)
    rw [on, nI_1]
  · show (b.2.2.1 0) + (1 : Int32) = nI (n + 1)
    rw [bn, nI_1]
  · show upd (b.2.2.2 0) n bg k = upd (o.2 0) n bg k ∧ upd (b.2.2.2 1) n mn k = upd (o.2 1) n mn k ∧ upd (b.2.2.2 2) n 0 k = a.2 0 k ∧ upd (b.2.2.2 3) n (b.1 0) k = upd (o.2 2) n (a.1 0) k ∧ upd (b.2.2.2 4) n (-1) k = upd (a.2 3) n (-1) k
    by_cases c : k = n
    · subst c
      exact ⟨by rw [upd_at, upd_at], by rw [upd_at, upd_at], by rw [upd_at, z0], by rw [upd_at, upd_at]; exact he.1, by rw [upd_at, upd_at]⟩
    · simp only [upd_ne c]
      exact har k (by omega)
  · show a.2 1 k = (if a.2 0 k = 0 then a.1 0 else b.2.2.2 5 k) - upd (o.2 2) n (a.1 0) k
    by_cases c : k = n
    · subst c
      rw [upd_at, if_pos z0, z1, Int32.sub_self]
    · rw [upd_ne c]
      exact hw k (by omega)
  · show a.2 2 k = if nI k = a.1 5 then b.1 7 else 0
    by_cases c : k = n
    · subst c
      rw [z2, if_neg]
      intro q
      rcases hps with p | ⟨j, hj, p, -⟩
      · exact nI_nm (by omega) (q.trans p)
      · have := nI_inj (by omega) (by omega) (q.trans p)
        omega
    · exact hl k (by omega)
  · show b.2.2.1 1 = m_cnt _ _ 2 2 (n + 1)
    rw [m_cnt]
    have e : m_cnt (xs (xs o.1 0 (0 : Int32)) 1 ((o.1 1) + (1 : Int32)), xa (xa (xa o.2 0 (upd (o.2 0) n bg)) 1 (upd (o.2 1) n mn)) 2 (upd (o.2 2) n (a.1 0))) (a.1, xa a.2 3 (upd (a.2 3) n (-1 : Int32))) 2 2 n = m_cnt o a 2 2 n := m_cnt_c n (fun j hj => ⟨Iff.rfl, upd_ne (by omega)⟩)
    rw [e, if_neg (show ¬ xa a.2 3 (upd (a.2 3) n (-1 : Int32)) 0 n = 2 by show ¬ a.2 0 n = 2; rw [z0]; decide), Int32.add_zero]
    exact cp
  · show b.1 5 = m_sum (a.2 1) (n + 1)
    rw [m_sum, z1, Int32.add_zero]
    exact cs
  · show (upd (o.2 0) n bg k = 0 ∨ upd (o.2 0) n bg k = 1) ∧ 1 ≤ (upd (o.2 1) n mn k).toInt ∧ (upd (o.2 1) n mn k).toInt ≤ 6 ∧ 0 ≤ (a.2 1 k).toInt ∧ (a.2 1 k).toInt ≤ (a.1 0).toInt
    by_cases c : k = n
    · subst c
      simp only [upd_at]
      have g0 : (0 : Int32).toInt = 0 := by decide
      obtain ⟨-, -, -, -, -, hm, -⟩ := hbd
      exact ⟨hbg, h1, h6, by rw [z1]; omega, by rw [z1]; omega⟩
    · simp only [upd_ne c]
      exact hin k (by omega)
  · rcases hps with p | ⟨j, hj, p⟩
    · exact Or.inl p
    · exact Or.inr ⟨j, by omega, p⟩
theorem ag_come {b : XBr} {o : MO} {a : MS} (h : Rel b o a) (hm : (b.1 0).toInt < 1000000) (bg mn : Int32) (hbg : bg = 0 ∨ bg = 1) : Agree b (x_X2_come b bg mn) (r_X2_come b bg mn) (r_X4_come o a bg mn) (s_X2_come b bg mn) (s_X4_come o a bg mn).1 (s_X4_come o a bg mn).2 := by
  unfold x_X2_come r_X2_come s_X2_come r_X4_come s_X4_come
  have g1 : (1 : Int32).toInt = 1 := by decide
  have g6 : (6 : Int32).toInt = 6 := by decide
  have g40 : (40 : Int32).toInt = 40 := by decide
  by_cases c1 : mn < (1 : Int32)
  · have e := isIn_0 (v := mn) (lo := (1 : Int32)) (hi := (6 : Int32)) (Or.inl c1)
    simp only [if_pos c1, if_pos e]
    exact ⟨rfl, fun q => absurd q (by decide), h.thrNo 1, le240⟩
  · by_cases c2 : mn ≤ (6 : Int32)
    · have e := isIn_cases c1 c2
      have c0 := i_nlt c1
      rw [Int32.le_iff_toInt_le] at c0
      have c2' := c2
      rw [Int32.le_iff_toInt_le] at c2'
      obtain ⟨n, hn⟩ := h
      have h' := hn
      obtain ⟨⟨n40, on, bn⟩, -⟩ := h'
      by_cases c3 : n < 40
      · have f1 : (b.2.2.1 0) < (40 : Int32) := by
          rw [bn, Int32.lt_iff_toInt_lt, nI_toInt (by omega), g40]
          omega
        have f2 : ¬ (o.1 1) = (40 : Int32) := by
          rw [on]
          intro q
          have q := congrArg Int32.toInt q
          rw [nI_toInt (by omega), g40] at q
          omega
        simp only [if_neg c1, if_pos c2, if_neg e, if_pos f1, if_neg f2]
        have hr := hn.add c3 bg mn hbg (by omega) (by omega)
        have eb : (b.2.2.1 0).toNatClampNeg = n := by rw [bn, nI_clamp (by omega)]
        have eo : (o.1 1).toNatClampNeg = n := by rw [on, nI_clamp (by omega)]
        unfold r_X1_add g1_X2_come s_X1_add g1_X1_add g2_X1_add
        rw [eb, eo, Int32.add_sub_cancel]
        rcases hbg with q | q
        · rw [if_pos q, if_pos q, if_pos q, if_pos q]
          rw [q] at hr
          exact ⟨rfl, fun _ => by rw [bn, on], ⟨n + 1, hr⟩, le240⟩
        · have q0 : ¬ bg = 0 := by rw [q]; decide
          rw [if_neg q0, if_neg q0, if_neg q0, if_neg q0]
          rw [q] at hr
          exact ⟨rfl, fun _ => by rw [bn, on], ⟨n + 1, hr⟩, le240⟩
      · have c4 : n = 40 := by omega
        have f1 : ¬ (b.2.2.1 0) < (40 : Int32) := by
          rw [bn, Int32.lt_iff_toInt_lt, nI_toInt (by omega), g40]
          omega
        have f2 : (o.1 1) = (40 : Int32) := by
          rw [on, c4]
          decide
        simp only [if_neg c1, if_pos c2, if_neg e, if_neg f1, if_pos f2]
        exact ⟨rfl, fun q => absurd q (by decide), (Rel.thrNo ⟨n, hn⟩ 2), le240⟩
    · have e := isIn_0 (v := mn) (lo := (1 : Int32)) (hi := (6 : Int32)) (Or.inr (i_nle c2))
      simp only [if_neg c1, if_neg c2, if_pos e]
      exact ⟨rfl, fun q => absurd q (by decide), h.thrNo 1, le240⟩
