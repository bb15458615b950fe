/-! .. the one that passes -/
def mB (a : MS) : MS :=
  if (a.1 5) = (-1 : Int32) then
    a
  else
    if ((upd (a.2 2) (a.1 5).toNatClampNeg (((a.2 2) (a.1 5).toNatClampNeg) - (1 : Int32))) (a.1 5).toNatClampNeg) = 0 then
      (xs a.1 5 (-1 : Int32), xa (xa (xa a.2 2 (upd (a.2 2) (a.1 5).toNatClampNeg (((a.2 2) (a.1 5).toNatClampNeg) - (1 : Int32)))) 0 (upd (a.2 0) (a.1 5).toNatClampNeg (2 : Int32))) 3 (upd (a.2 3) (a.1 5).toNatClampNeg (a.1 0)))
    else
      (a.1, xa a.2 2 (upd (a.2 2) (a.1 5).toNatClampNeg (((a.2 2) (a.1 5).toNatClampNeg) - (1 : Int32))))
theorem m_cnt_up {o : MO} {a a' : MS} {j : Nat} (h1 : ¬ a.2 0 j = 2) (h2 : a'.2 0 j = 2) (h3 : ∀ i, ¬ i = j → a'.2 0 i = a.2 0 i) : ∀ (k : Nat), m_cnt o a' 2 2 k = m_cnt o a 2 2 k + (if j < k then 1 else 0)
  | 0 => by
    rw [if_neg (Nat.not_lt_zero j)]
    rfl
  | k + 1 => by
    have ih := m_cnt_up (o := o) h1 h2 h3 k
    rw [m_cnt, m_cnt, ih]
    by_cases c : k = j
    · subst c
      rw [if_neg (Nat.lt_irrefl k), if_pos (show k < k + 1 by omega), if_pos h2, if_neg h1, if_pos rfl, Int32.add_zero]
    · rw [h3 k c]
      by_cases d : j < k
      · rw [if_pos d, if_pos (show j < k + 1 by omega), Int32.add_assoc, Int32.add_assoc, Int32.add_comm 1]
      · rw [if_neg d, if_neg (show ¬ j < k + 1 by omega), Int32.add_zero, Int32.add_zero]
theorem go_e {n : Nat} {b : XBr} {o : MO} {a : MS} (h : RelN n b o a) : RelN n (s_X0_goOnPassing b) o (mB a) := by
  have h' := h
  obtain ⟨⟨n40, on, bn⟩, ⟨e0, e1, e2, e3, e4, e5, e6⟩, hc, har, hw, hl, ⟨cp, cb, cc, cf, cg, cs⟩, hin, hps, hbd, hz⟩ := h'
  have g1 : (1 : Int32).toInt = 1 := by decide
  have g0 : (0 : Int32).toInt = 0 := by decide
  unfold s_X0_goOnPassing mB
  rw [e5]
  rcases hps with hp | ⟨j, hj, hp, hs, t1, t6⟩
  · rw [hp, if_pos (has_m1 _), if_pos rfl]
    exact h
  · have ej : (nI j).toNatClampNeg = j := nI_clamp (by omega)
    have hlj := hl j hj
    rw [hp, if_pos rfl] at hlj
    rw [hp, if_neg (has_nI n40 bn hj), if_neg (nI_nm (by omega)), ej, upd_at, hlj]
    have st : (b.1 7 - 1).toInt = (b.1 7).toInt - 1 := by rw [toInt_subS (by omega) (by omega), g1]
    by_cases c1 : 0 < b.1 7 - (1 : Int32)
    · have c2 : ¬ b.1 7 - (1 : Int32) = 0 := by
        intro q
        rw [q] at c1
        exact absurd c1 (by decide)
      rw [if_pos c1, if_neg c2]
      rw [Int32.lt_iff_toInt_lt] at c1
      refine ⟨⟨n40, on, bn⟩, ⟨e0, e1, e2, e3, e4, e5, e6⟩, hc, har, hw, fun k hk => ?_, ⟨cp.trans (m_cnt_c (o := o) (o' := o) (a := a) (a' := (a.1, xa a.2 2 (upd (a.2 2) j (b.1 7 - 1)))) n (fun _ _ => ⟨Iff.rfl, rfl⟩)).symm, cb.trans (m_cnt_c (o := o) (o' := o) (a := a) (a' := (a.1, xa a.2 2 (upd (a.2 2) j (b.1 7 - 1)))) n (fun _ _ => ⟨Iff.rfl, rfl⟩)).symm, cc.trans (m_cnt_c (o := o) (o' := o) (a := a) (a' := (a.1, xa a.2 2 (upd (a.2 2) j (b.1 7 - 1)))) n (fun _ _ => ⟨Iff.rfl, rfl⟩)).symm, cf.trans (m_first_c (o := o) (o' := o) (a := a) (a' := (a.1, xa a.2 2 (upd (a.2 2) j (b.1 7 - 1)))) n 0 (fun _ _ _ => ⟨Iff.rfl, rfl⟩)).symm, cg.trans (m_first_c (o := o) (o' := o) (a := a) (a' := (a.1, xa a.2 2 (upd (a.2 2) j (b.1 7 - 1)))) n 0 (fun _ _ _ => ⟨Iff.rfl, rfl⟩)).symm, cs⟩, hin, Or.inr ⟨j, hj, hp, hs, ?_, ?_⟩, hbd, fun k h1 h2 => ?_⟩
      · show upd (a.2 2) j (b.1 7 - 1) k = if nI k = a.1 5 then b.1 7 - 1 else 0
        by_cases c : k = j
        · subst c
          rw [upd_at, hp, if_pos rfl]
        · rw [upd_ne c, hl k hk, hp, if_neg (fun q => c (nI_inj (by omega) (by omega) q)), if_neg (fun q => c (nI_inj (by omega) (by omega) q))]
      · show 1 ≤ (b.1 7 - 1).toInt
        omega
      · show (b.1 7 - 1).toInt ≤ 6
        omega
      · obtain ⟨z0, z1, z2⟩ := hz k h1 h2
        refine ⟨z0, z1, ?_⟩
        show upd (a.2 2) j _ k = 0
        rw [upd_ne (by omega)]
        exact z2
    · have c2 : b.1 7 - (1 : Int32) = 0 := by
        rw [Int32.lt_iff_toInt_lt] at c1
        exact Int32.toInt_inj.mp (by omega)
      rw [if_neg c1, if_pos c2]
      unfold g1_X0_goOnPassing s_X1_endPassage
      rw [e5, hp, ej]
      have hst : ∀ i, (upd (a.2 0) j (2 : Int32) i = 0 ↔ a.2 0 i = 0) := by
        intro i
        by_cases c : i = j
        · subst c
          rw [upd_at, hs]
          exact ⟨fun q => absurd q (by decide), fun q => absurd q (by decide)⟩
        · rw [upd_ne c]
      refine ⟨⟨n40, on, ?_⟩, ⟨e0, e1, e2, e3, e4, rfl, e6⟩, hc, fun k hk => ?_, fun k hk => ?_, fun k hk => ?_, ⟨?_, cb.trans (m_cnt_c (o := o) (o' := o) (a := a) (a' := (xs a.1 5 (-1 : Int32), xa (xa (xa a.2 2 (upd (a.2 2) j (b.1 7 - 1))) 0 (upd (a.2 0) j (2 : Int32))) 3 (upd (a.2 3) j (a.1 0)))) n (fun i _ => ⟨hst i, rfl⟩)).symm, cc.trans (m_cnt_c (o := o) (o' := o) (a := a) (a' := (xs a.1 5 (-1 : Int32), xa (xa (xa a.2 2 (upd (a.2 2) j (b.1 7 - 1))) 0 (upd (a.2 0) j (2 : Int32))) 3 (upd (a.2 3) j (a.1 0)))) n (fun i _ => ⟨hst i, rfl⟩)).symm, cf.trans (m_first_c (o := o) (o' := o) (a := a) (a' := (xs a.1 5 (-1 : Int32), xa (xa (xa a.2 2 (upd (a.2 2) j (b.1 7 - 1))) 0 (upd (a.2 0) j (2 : Int32))) 3 (upd (a.2 3) j (a.1 0)))) n 0 (fun i _ _ => ⟨hst i, rfl⟩)).symm, cg.trans (m_first_c (o := o) (o' := o) (a := a) (a' := (xs a.1 5 (-1 : Int32), xa (xa (xa a.2 2 (upd (a.2 2) j (b.1 7 - 1))) 0 (upd (a.2 0) j (2 : Int32))) 3 (upd (a.2 3) j (a.1 0)))) n 0 (fun i _ _ => ⟨hst i, rfl⟩)).symm, cs⟩, hin, Or.inl rfl, hbd, fun k h1 h2 => ?_⟩
      · exact bn
      · obtain ⟨q0, q1, q2, q3, q4⟩ := har k hk
        refine ⟨q0, q1, ?_, q3, ?_⟩
        · show upd (b.2.2.2 2) j 2 k = upd (a.2 0) j 2 k
          by_cases c : k = j
          · subst c
            rw [upd_at, upd_at]
          · rw [upd_ne c, upd_ne c]
            exact q2
        · show upd (b.2.2.2 4) j (b.1 0) k = upd (a.2 3) j (a.1 0) k
          by_cases c : k = j
          · subst c
            rw [upd_at, upd_at]
            exact e0
          · rw [upd_ne c, upd_ne c]
            exact q4
      · show a.2 1 k = (if upd (a.2 0) j 2 k = 0 then a.1 0 else b.2.2.2 5 k) - o.2 2 k
        have hwk := hw k hk
        by_cases c : a.2 0 k = 0
        · rw [if_pos c] at hwk
          rw [if_pos ((hst k).mpr c)]
          exact hwk
        · rw [if_neg c] at hwk
          rw [if_neg (fun q => c ((hst k).mp q))]
          exact hwk
      · show upd (a.2 2) j (b.1 7 - 1) k = if nI k = -1 then b.1 7 - 1 else 0
        rw [if_neg (nI_nm (by omega))]
        by_cases c : k = j
        · subst c
          rw [upd_at]
          exact c2
        · rw [upd_ne c, hl k hk, hp, if_neg (fun q => c (nI_inj (by omega) (by omega) q))]
      · show b.2.2.1 1 + 1 = _
        rw [m_cnt_up (o := o) (a := a) (j := j) (by rw [hs]; decide) (upd_at _ _ _) (fun i hi => upd_ne hi) n, if_pos hj, cp]
      · obtain ⟨z0, z1, z2⟩ := hz k h1 h2
        refine ⟨?_, z1, ?_⟩
        · show upd (a.2 0) j 2 k = 0
          rw [upd_ne (by omega)]
          exact z0
        · show upd (a.2 2) j _ k = 0
          rw [upd_ne (by omega)]
          exact z2
