/-! what is there -/
theorem m_first_at (o : MO) (a : MS) (kind : Int32) : ∀ (r k : Nat), m_first o a kind r k = -1 ∨ ∃ j, k ≤ j ∧ j < k + r ∧ m_first o a kind r k = nI j ∧ a.2 0 j = 0
  | 0, k => Or.inl rfl
  | r + 1, k => by
    have ih : m_first o a kind r (k + 1) = -1 ∨ ∃ j, k ≤ j ∧ j < k + (r + 1) ∧ m_first o a kind r (k + 1) = nI j ∧ a.2 0 j = 0 := by
      rcases m_first_at o a kind r (k + 1) with h | ⟨j, h1, h2, h3, h4⟩
      · exact Or.inl h
      · exact Or.inr ⟨j, by omega, by omega, h3, h4⟩
    rw [m_first]
    by_cases c1 : a.2 0 k = 0
    · rw [if_pos c1]
      by_cases c2 : kind = 2
      · rw [if_pos c2]
        exact Or.inr ⟨k, by omega, by omega, rfl, c1⟩
      · rw [if_neg c2]
        by_cases c3 : o.2 0 k = kind
        · rw [if_pos c3]
          exact Or.inr ⟨k, by omega, by omega, rfl, c1⟩
        · rw [if_neg c3]
          exact ih
    · rw [if_neg c1]
      exact ih
theorem nI_nm {k : Nat} (h : k ≤ 40) : ¬ nI k = -1 := by
  intro q
  have h1 := congrArg Int32.toInt q
  rw [nI_toInt (by omega)] at h1
  have h2 : (-1 : Int32).toInt = -1 := by decide
  omega
theorem m_first_2 (o : MO) (a : MS) : ∀ (r k : Nat), k + r ≤ 40 → (∀ j, k ≤ j → j < k + r → o.2 0 j = 0 ∨ o.2 0 j = 1) → m_first o a 2 r k = (if m_first o a 1 r k = -1 then m_first o a 0 r k else if m_first o a 0 r k = -1 then m_first o a 1 r k else imn (m_first o a 1 r k) (m_first o a 0 r k))
  | 0, k, _, _ => rfl
  | r + 1, k, hk, hb => by
    have ih := m_first_2 o a r (k + 1) (by omega) (fun j h1 h2 => hb j (by omega) (by omega))
    have n1 : ¬ nI k = -1 := nI_nm (by omega)
    have k02 : ¬ (0 : Int32) = 2 := by decide
    have k12 : ¬ (1 : Int32) = 2 := by decide
    have k01 : ¬ (0 : Int32) = 1 := by decide
    have k10 : ¬ (1 : Int32) = 0 := by decide
    rw [m_first, m_first, m_first]
    by_cases c1 : a.2 0 k = 0
    · simp only [if_pos c1, if_neg k02, if_neg k12, if_true]
      rcases hb k (by omega) (by omega) with c2 | c2
      · rw [c2]
        simp only [if_neg k01, if_true, if_neg n1]
        rcases m_first_at o a 1 r (k + 1) with e | ⟨j, h1, h2, e, -⟩
        · rw [if_pos e]
        · have nj : ¬ nI j = -1 := nI_nm (by omega)
          rw [e, if_neg nj]
          show _ = (if nI k < nI j then nI k else nI j)
          rw [if_pos (nI_lt (by omega) (by omega))]
      · rw [c2]
        simp only [if_neg k10, if_true, if_neg n1]
        rcases m_first_at o a 0 r (k + 1) with e | ⟨j, h1, h2, e, -⟩
        · rw [if_pos e]
        · have nj : ¬ nI j = -1 := nI_nm (by omega)
          rw [e, if_neg nj]
          show _ = (if nI j < nI k then nI j else nI k)
          rw [if_neg (nI_nlt (by omega) (by omega))]
    · simp only [if_neg c1]
      exact ih
theorem five {x : Int32} (h1 : 0 ≤ x.toInt) (h2 : x.toInt ≤ 4) : x = 0 ∨ x = 1 ∨ x = 2 ∨ x = 3 ∨ x = 4 := by
  have h : x.toInt = 0 ∨ x.toInt = 1 ∨ x.toInt = 2 ∨ x.toInt = 3 ∨ x.toInt = 4 := by omega
  rcases h with h | h | h | h | h
  · exact Or.inl (Int32.toInt_inj.mp (by rw [h]; decide))
  · exact Or.inr (Or.inl (Int32.toInt_inj.mp (by rw [h]; decide)))
  · exact Or.inr (Or.inr (Or.inl (Int32.toInt_inj.mp (by rw [h]; decide))))
  · exact Or.inr (Or.inr (Or.inr (Or.inl (Int32.toInt_inj.mp (by rw [h]; decide)))))
  · exact Or.inr (Or.inr (Or.inr (Or.inr (Int32.toInt_inj.mp (by rw [h]; decide)))))
/-- who is served next -/
theorem next_e {b : XBr} {o : MO} {a : MS} (h : Rel b o a) : r_X0_servedNext b = r_X3_next o a := by
  obtain ⟨-, -, -, -, f1, f0, -⟩ := h.num
  have f2 : r_X1_firstOfAll b.2.2 = r_X3_first o a 2 := by
    unfold r_X1_firstOfAll
    rw [f1, f0]
    obtain ⟨n, ⟨n40, on, bn⟩, -, -, -, -, -, -, hin, -⟩ := h
    have e : (o.1 1).toNatClampNeg = n := by rw [on, nI_clamp (by omega)]
    unfold r_X3_first
    rw [e]
    exact (m_first_2 o a n 0 (by omega) (fun j _ hj => (hin j (by omega)).1)).symm
  have fb : r_X1_firstBargeElseCart b.2.2 = (if r_X3_first o a 1 = -1 then r_X3_first o a 0 else r_X3_first o a 1) := by
    unfold r_X1_firstBargeElseCart
    rw [f1, f0]
  have fc : r_X1_firstCartElseBarge b.2.2 = (if r_X3_first o a 0 = -1 then r_X3_first o a 1 else r_X3_first o a 0) := by
    unfold r_X1_firstCartElseBarge
    rw [f1, f0]
  obtain ⟨n, -, ⟨e0, e1, e2, e3, e4, e5, e6⟩, -, -, -, -, -, -, -, ⟨d1, d2, d3, d4, -, -, d5, d6⟩, -⟩ := h
  unfold r_X0_servedNext r_X3_next
  rw [e4, e5, e6, f2, fb, fc]
  rcases five d5 d6 with q | q | q | q | q
  · rw [q]; rfl
  · rw [q]; rfl
  · rw [q]; rfl
  · rw [q]; rfl
  · rw [q]; rfl
theorem total_e {b : XBr} {o : MO} {a : MS} (h : Rel b o a) (wh : Int32) : r_X0_total b wh = r_X3_counted o a wh := by
  have hn := next_e h
  obtain ⟨g0, g1, g2, g3, -, -, g6⟩ := h.num
  obtain ⟨n, -, ⟨e0, e1, e2, e3, e4, e5, e6⟩, -⟩ := h
  unfold r_X0_total r_X3_counted
  rw [hn, g0, g1, g2, g3, g6, e0, e1, e2, e3, e4, e5]
theorem seven {x : Int32} (h1 : 0 ≤ x.toInt) (h2 : x.toInt ≤ 6) : x = 0 ∨ x = 1 ∨ x = 2 ∨ x = 3 ∨ x = 4 ∨ x = 5 ∨ x = 6 := by
  by_cases h3 : x.toInt ≤ 4
  · rcases five h1 h3 with h | h | h | h | h
    · exact Or.inl h
    · exact Or.inr (Or.inl h)
    · exact Or.inr (Or.inr (Or.inl h))
    · exact Or.inr (Or.inr (Or.inr (Or.inl h)))
    · exact Or.inr (Or.inr (Or.inr (Or.inr (Or.inl h))))
  · have h : x.toInt = 5 ∨ x.toInt = 6 := by omega
    rcases h with h | h
    · exact Or.inr (Or.inr (Or.inr (Or.inr (Or.inr (Or.inl (Int32.toInt_inj.mp (by rw [h]; decide)))))))
    · exact Or.inr (Or.inr (Or.inr (Or.inr (Or.inr (Or.inr (Int32.toInt_inj.mp (by rw [h]; decide)))))))
theorem upd_at (f : Nat → Int32) (k : Nat) (x : Int32) : upd f k x k = x := by
  unfold upd
  rw [if_pos rfl]
theorem upd_ne {f : Nat → Int32} {k j : Nat} {x : Int32} (h : ¬ j = k) : upd f k x j = f j := by
  unfold upd
  rw [if_neg h]
theorem told_0 (o : MO) (a : MS) (k : Int32) : r_X4_told o a k (0 : Int32) = o.2 0 k.toNatClampNeg := by
  unfold r_X4_told
  rw [upd_ne (show ¬ (0 : Int32).toNatClampNeg = (6 : Int32).toNatClampNeg by decide), upd_ne (show ¬ (0 : Int32).toNatClampNeg = (5 : Int32).toNatClampNeg by decide), upd_ne (show ¬ (0 : Int32).toNatClampNeg = (4 : Int32).toNatClampNeg by decide), upd_ne (show ¬ (0 : Int32).toNatClampNeg = (3 : Int32).toNatClampNeg by decide), upd_ne (show ¬ (0 : Int32).toNatClampNeg = (2 : Int32).toNatClampNeg by decide), upd_ne (show ¬ (0 : Int32).toNatClampNeg = (1 : Int32).toNatClampNeg by decide), upd_at]
theorem told_1 (o : MO) (a : MS) (k : Int32) : r_X4_told o a k (1 : Int32) = o.2 1 k.toNatClampNeg := by
  unfold r_X4_told
  rw [upd_ne (show ¬ (1 : Int32).toNatClampNeg = (6 : Int32).toNatClampNeg by decide), upd_ne (show ¬ (1 : Int32).toNatClampNeg = (5 : Int32).toNatClampNeg by decide), upd_ne (show ¬ (1 : Int32).toNatClampNeg = (4 : Int32).toNatClampNeg by decide), upd_ne (show ¬ (1 : Int32).toNatClampNeg = (3 : Int32).toNatClampNeg by decide), upd_ne (show ¬ (1 : Int32).toNatClampNeg = (2 : Int32).toNatClampNeg by decide), upd_at]
theorem told_2 (o : MO) (a : MS) (k : Int32) : r_X4_told o a k (2 : Int32) = a.2 0 k.toNatClampNeg := by
  unfold r_X4_told
  rw [upd_ne (show ¬ (2 : Int32).toNatClampNeg = (6 : Int32).toNatClampNeg by decide), upd_ne (show ¬ (2 : Int32).toNatClampNeg = (5 : Int32).toNatClampNeg by decide), upd_ne (show ¬ (2 : Int32).toNatClampNeg = (4 : Int32).toNatClampNeg by decide), upd_ne (show ¬ (2 : Int32).toNatClampNeg = (3 : Int32).toNatClampNeg by decide), upd_at]
theorem told_3 (o : MO) (a : MS) (k : Int32) : r_X4_told o a k (3 : Int32) = o.2 2 k.toNatClampNeg := by
  unfold r_X4_told
  rw [upd_ne (show ¬ (3 : Int32).toNatClampNeg = (6 : Int32).toNatClampNeg by decide), upd_ne (show ¬ (3 : Int32).toNatClampNeg = (5 : Int32).toNatClampNeg by decide), upd_ne (show ¬ (3 : Int32).toNatClampNeg = (4 : Int32).toNatClampNeg by decide), upd_at]
theorem told_4 (o : MO) (a : MS) (k : Int32) : r_X4_told o a k (4 : Int32) = a.2 1 k.toNatClampNeg := by
  unfold r_X4_told
  rw [upd_ne (show ¬ (4 : Int32).toNatClampNeg = (6 : Int32).toNatClampNeg by decide), upd_ne (show ¬ (4 : Int32).toNatClampNeg = (5 : Int32).toNatClampNeg by decide), upd_at]
theorem told_5 (o : MO) (a : MS) (k : Int32) : r_X4_told o a k (5 : Int32) = a.2 2 k.toNatClampNeg := by
  unfold r_X4_told
  rw [upd_ne (show ¬ (5 : Int32).toNatClampNeg = (6 : Int32).toNatClampNeg by decide), upd_at]
theorem told_6 (o : MO) (a : MS) (k : Int32) : r_X4_told o a k (6 : Int32) = a.2 3 k.toNatClampNeg := by
  unfold r_X4_told
  rw [upd_at]
theorem fact_e {b : XBr} {o : MO} {a : MS} (h : Rel b o a) (k wh : Int32) (h1 : 0 ≤ k.toInt) (h2 : k.toInt < (o.1 1).toInt) (w1 : 0 ≤ wh.toInt) (w2 : wh.toInt ≤ 6) : r_X0_factOf b k wh = r_X4_told o a k wh := by
  obtain ⟨n, ⟨n40, on, bn⟩, ⟨e0, e1, e2, e3, e4, e5, e6⟩, hc, har, hw, hl, -⟩ := h
  rw [on, nI_toInt (by omega)] at h2
  have hj : k.toNatClampNeg < n := by rw [clampInt]; omega
  have hk : k = nI k.toNatClampNeg := Int32.toInt_inj.mp (by rw [nI_toInt (by omega), clampInt]; omega)
  obtain ⟨g0, g1, g2, g3, g4⟩ := har _ hj
  rcases seven w1 w2 with q | q | q | q | q | q | q
  · subst q
    rw [told_0]
    exact g0
  · subst q
    rw [told_1]
    exact g1
  · subst q
    rw [told_2]
    exact g2
  · subst q
    rw [told_3]
    exact g3
  · subst q
    rw [told_4, hw _ hj]
    show r_X1_waited b.2.2 k (b.1 0) = _
    unfold r_X1_waited
    rw [g2, g3, e0]
    by_cases c : a.2 0 k.toNatClampNeg = 0
    · rw [if_pos c, if_pos c]
    · rw [if_neg c, if_neg c]
  · subst q
    rw [told_5, hl _ hj, ← hk]
    show (if k = b.1 6 then b.1 7 else 0) = _
    rw [e5]
  · subst q
    rw [told_6]
    exact g4
theorem ag_traveller {b : XBr} {o : MO} {a : MS} (h : Rel b o a) (hm : (b.1 0).toInt < 1000000) (k wh : Int32) : Agree b (x_X2_traveller b k wh) (r_X2_traveller b k wh) (r_X4_traveller o a k wh) b (s_X4_traveller o a k wh) a := by
  have hh := has_e h k
  have h7 : (7 : Int32).toInt = (6 : Int32).toInt + 1 := by decide
  unfold x_X2_traveller r_X2_traveller r_X4_traveller s_X4_traveller
  rw [← hh]
  by_cases c1 : r_X1_has b.2.2 k = 0
  · simp only [if_pos c1]
    exact ⟨rfl, fun q => absurd q (by decide), h.thrNo 1, le240⟩
  · by_cases c2 : wh < 0
    · have e := isIn_0 (v := wh) (lo := (0 : Int32)) (hi := (6 : Int32)) (Or.inl c2)
      simp only [if_neg c1, if_pos c2, if_pos e]
      exact ⟨rfl, fun q => absurd q (by decide), h.thrNo 1, le240⟩
    · by_cases c3 : wh < (7 : Int32)
      · have e := isIn_cases c2 (i_lt_le c3 h7)
        simp only [if_neg c1, if_neg c2, if_pos c3, if_neg e]
        have hb := has_in h.nB c1
        rw [h.num.1] at hb
        have w0 := i_nlt c2
        rw [Int32.le_iff_toInt_le] at w0
        rw [Int32.lt_iff_toInt_lt] at c3
        have g7 : (7 : Int32).toInt = 7 := by decide
        have g0 : (0 : Int32).toInt = 0 := by decide
        exact ⟨rfl, fun _ => fact_e (h.thr0 0) k wh hb.1 hb.2 (by omega) (by omega), h.thr0 0, le240⟩
      · have e := isIn_0 (v := wh) (lo := (0 : Int32)) (hi := (6 : Int32)) (Or.inr (i_nlt_lt c3 h7))
        simp only [if_neg c1, if_neg c2, if_neg c3, if_pos e]
        exact ⟨rfl, fun q => absurd q (by decide), h.thrNo 1, le240⟩
theorem ag_count {b : XBr} {o : MO} {a : MS} (h : Rel b o a) (hm : (b.1 0).toInt < 1000000) (wh : Int32) : Agree b (x_X2_count b wh) (r_X2_count b wh) (r_X4_count o a wh) b (s_X4_count o a wh) a := by
  have h7 : (12 : Int32).toInt = (11 : Int32).toInt + 1 := by decide
  unfold x_X2_count r_X2_count r_X4_count s_X4_count
  by_cases c2 : wh < 0
  · have e := isIn_0 (v := wh) (lo := (0 : Int32)) (hi := (11 : Int32)) (Or.inl c2)
    simp only [if_pos c2, if_pos e]
    exact ⟨rfl, fun q => absurd q (by decide), h.thrNo 1, le240⟩
  · by_cases c3 : wh < (12 : Int32)
    · have e := isIn_cases c2 (i_lt_le c3 h7)
      simp only [if_neg c2, if_pos c3, if_neg e]
      exact ⟨rfl, fun _ => total_e (h.thr0 0) wh, h.thr0 0, le240⟩
    · have e := isIn_0 (v := wh) (lo := (0 : Int32)) (hi := (11 : Int32)) (Or.inr (i_nlt_lt c3 h7))
      simp only [if_neg c2, if_neg c3, if_pos e]
      exact ⟨rfl, fun q => absurd q (by decide), h.thrNo 1, le240⟩
theorem d1_e {b : XBr} {o : MO} {a : MS} (h : Rel b o a) : ∀ k : Nat, x_d1 b k = m_d1 o a k
  | 0 => rfl
  | k + 1 => by rw [x_d1, m_d1, d1_e h k, total_e h]
theorem d2_e {f g : Nat → Int32} (d : Int64) : ∀ k : Nat, (∀ j, j < k → f j = g j) → m_d2 f d k = m_d2 g d k
  | 0, _ => rfl
  | k + 1, h => by rw [m_d2, m_d2, d2_e d k (fun j hj => h j (by omega)), h k (by omega)]
theorem d3i_e {b : XBr} {o : MO} {a : MS} (h : Rel b o a) {k : Nat} (hk : k < 40) (h2 : (k : Int) < (o.1 1).toInt) (d : Int64) : ∀ j : Nat, j ≤ 7 → x_d3i b k d j = m_d3i o a k d j
  | 0, _ => rfl
  | j + 1, hj => by
    rw [x_d3i, m_d3i, d3i_e h hk h2 d j (by omega), fact_e h (nI k) (nI j) (by rw [nI_toInt (by omega)]; omega) (by rw [nI_toInt (by omega)]; exact h2) (by rw [nI_toInt (by omega)]; omega) (by rw [nI_toInt (by omega)]; omega)]
theorem d3_e {b : XBr} {o : MO} {a : MS} (h : Rel b o a) (d : Int64) : ∀ k : Nat, k ≤ 40 → (k : Int) ≤ (o.1 1).toInt → x_d3 b d k = m_d3 o a d k
  | 0, _, _ => rfl
  | k + 1, hk, h2 => by
    rw [x_d3, m_d3, d3_e h d k (by omega) (by omega), d3i_e h (by omega) (by omega) _ 7 (by omega)]
theorem ag_digest {b : XBr} {o : MO} {a : MS} (h : Rel b o a) : r_X2_digest b = r_X4_digest o a ∧ Rel b (s_X4_digest o a) a := by
  refine ⟨?_, h.thr0 0⟩
  have h0 := h.thr0 0
  unfold r_X2_digest r_X4_digest m_dig
  rw [h0.num.1]
  have hn := h0.nO
  have hn1 := hn.1
  have hn2 := hn.2
  rw [d3_e h0 _ _ (nOk_le hn) (by rw [clampInt]; omega), d1_e h0]
  obtain ⟨n, -, -, hc, -⟩ := h0
  rw [d2_e _ 8 hc]
