/-! WHAT THE LAW LOOKS AT, minute by minute -/
theorem goOn1 (b : XBr) : s_X0_goOn b 1 = s_X0_goOneMinute b := by
  unfold s_X0_goOn
  rw [show (1 : Int32).toNatClampNeg = 1 by decide]
  rfl
theorem span_n {m : Nat} (h1 : 1 ≤ m) (h2 : m ≤ 240) : ¬ r_X2_isSpan (nI m) = 0 := by
  unfold r_X2_isSpan
  have e := nI_toInt (n := m) (by omega)
  have e240 : (240 : Int32).toInt = 240 := by decide
  rw [if_neg (by rw [ilt, i1]; omega), if_neg (by rw [ilt]; omega)]
  decide
theorem span_1 : ¬ r_X2_isSpan 1 = 0 := by decide
/-- the state k stays while it is 3 -/
theorem stay3 {n k : Nat} {b : XBr} (h : Iv n b) (hm : (b.1 0).toInt < 1000000) (hk : k < n) (h3 : b.2.2.2 2 k = 3) : (s_X0_goOneMinute b).2.2.2 2 k = 3 := by
  obtain ⟨⟨-, hM⟩, -⟩ := min_mn h hm
  rcases hM with ⟨-, -, q, -⟩ | ⟨j, had, hj, -, -, -, hw, q, -⟩
  · rw [q]
    exact h3
  · rw [q, upd_ne (fun e => ?_)]
    · exact h3
    · subst e
      rw [h3] at hw
      rcases hw with ⟨-, -, -, w⟩ | ⟨-, -, -, w⟩
      · exact absurd w (by decide)
      · exact absurd w (by decide)
theorem iv_min {n : Nat} {b : XBr} (h : Iv n b) (hm : (b.1 0).toInt < 1000000) : Iv n (s_X0_goOneMinute b) ∧ ((s_X0_goOneMinute b).1 0).toInt = (b.1 0).toInt + 1 ∧ (s_X0_goOneMinute b).2.1 = b.2.1 := by
  obtain ⟨⟨⟨q1, q2, -⟩, -⟩, h2⟩ := min_mn h hm
  have := h.m0
  exact ⟨h2, by rw [q2, toInt_addS (by rw [i1]; omega) (by rw [i1]; omega), i1], q1⟩
theorem iv_it {n : Nat} : ∀ (r : Nat) {b : XBr}, Iv n b → (b.1 0).toInt + r < 1000000 → Iv n (xit r b) ∧ ((xit r b).1 0).toInt = (b.1 0).toInt + r ∧ (xit r b).2.1 = b.2.1
  | 0, b, h, _ => ⟨h, by show (b.1 0).toInt = _; omega, rfl⟩
  | r + 1, b, h, hm => by
    obtain ⟨h1, h2, h3⟩ := iv_min h (by omega)
    obtain ⟨g1, g2, g3⟩ := iv_it r h1 (by rw [h2]; omega)
    exact ⟨g1, by show ((xit r (s_X0_goOneMinute b)).1 0).toInt = _; rw [g2, h2]; omega, g3.trans h3⟩
theorem iv_pass {n m : Nat} {b : XBr} (h : Iv n b) (h1 : 1 ≤ m) (h2 : m ≤ 240) (hm : (b.1 0).toInt < 100000) :
    x_X2_pass b (nI m) = 0 ∧ Iv n (s_X2_pass b (nI m)) ∧ ((s_X2_pass b (nI m)).1 0).toInt = (b.1 0).toInt + m ∧ (s_X2_pass b (nI m)).2.1 = b.2.1 := by
  have hs := span_n h1 h2
  refine ⟨by unfold x_X2_pass; rw [if_neg hs], ?_⟩
  unfold s_X2_pass g1_X2_pass s_X0_goOn
  rw [if_neg hs, cl40 (show m < 1000 by omega)]
  exact iv_it m h (by omega)
theorem pass_1 (b : XBr) : x_X2_pass b 1 = 0 ∧ r_X2_pass b 1 = (s_X0_goOneMinute b).2.2.1 1 - b.2.2.1 1 ∧ s_X2_pass b 1 = s_X0_goOneMinute b := by
  unfold x_X2_pass r_X2_pass s_X2_pass g1_X2_pass
  rw [if_neg span_1, if_neg span_1, if_neg span_1, goOn1]
  exact ⟨rfl, rfl, rfl⟩
/-- what is foreseen of the next minute -/
def fo (b : XBr) (w : Nat) : Int32 := if w = 0 then (s_X0_goOneMinute b).2.2.1 1 - b.2.2.1 1 else if w = 1 then (s_X0_goOneMinute b).1 5 - b.1 5 else if w = 2 then (s_X0_goOneMinute b).1 1 else (s_X0_goOneMinute b).1 3
theorem fo_e (b : XBr) {w : Nat} (hw : w < 4) : x_X2_foresee b 1 (nI w) = 0 ∧ r_X2_foresee b 1 (nI w) = fo b w := by
  unfold x_X2_foresee r_X2_foresee g1_X2_foresee fo
  rw [if_neg span_1, if_neg span_1, goOn1]
  rcases (show w = 0 ∨ w = 1 ∨ w = 2 ∨ w = 3 by omega) with rfl | rfl | rfl | rfl
  · exact ⟨rfl, rfl⟩
  · exact ⟨rfl, rfl⟩
  · exact ⟨rfl, rfl⟩
  · exact ⟨rfl, rfl⟩
/-! when -/
theorem whl_s (k : Int32) (r j : Nat) (z : XBr) : x_whl k (r + 1) j z = if z.2.2.2 2 k.toNatClampNeg = 2 then nI j else x_whl k r (j + 1) (s_X0_goOneMinute z) := rfl
theorem whl_or (k : Int32) : ∀ (r j : Nat) (z : XBr), x_whl k r j z = -1 ∨ ∃ i, j ≤ i ∧ i < j + r ∧ x_whl k r j z = nI i
  | 0, _, _ => Or.inl rfl
  | r + 1, j, z => by
    rw [whl_s]
    split
    · exact Or.inr ⟨j, Nat.le_refl j, by omega, rfl⟩
    · rcases whl_or k r (j + 1) (s_X0_goOneMinute z) with q | ⟨i, h1, h2, h3⟩
      · exact Or.inl q
      · exact Or.inr ⟨i, by omega, by omega, h3⟩
theorem whl_3 {n k : Nat} (hk : k < n) : ∀ (r j : Nat) {z : XBr}, Iv n z → (z.1 0).toInt + r < 1000000 → z.2.2.2 2 k = 3 → x_whl (nI k) r j z = -1
  | 0, _, _, _, _, _ => rfl
  | r + 1, j, z, h, hm, h3 => by
    have n40 := h.1.1
    rw [whl_s, cl40 (show k < 1000 by omega), h3, if_neg (by decide)]
    obtain ⟨h1, h2, -⟩ := iv_min h (by omega)
    exact whl_3 hk r (j + 1) h1 (by rw [h2]; omega) (stay3 h (by omega) hk h3)
theorem when_f {n k : Nat} {b : XBr} (h : Iv n b) (hk : k < n) (hm : (b.1 0).toInt < 100000) :
    x_X2_when b (nI k) = 0 ∧ (r_X2_when b (nI k) = 0 ↔ fc b k 2 = 2) ∧ (¬ r_X2_when b (nI k) < 0 → ¬ fc b k 2 = 3) ∧ (¬ r_X2_when b (nI k) ≤ 0 → (r_X2_when b (nI k) = 1 ↔ fc (s_X0_goOneMinute b) k 2 = 2)) := by
  have n40 := h.1.1
  have hh := has_ne n40 h.1.2 hk
  have g2 : fc b k 2 = b.2.2.2 2 k := rfl
  have g2' : fc (s_X0_goOneMinute b) k 2 = (s_X0_goOneMinute b).2.2.2 2 k := rfl
  refine ⟨by unfold x_X2_when; rw [if_neg hh], ?_⟩
  unfold r_X2_when
  rw [if_neg hh, g2, g2']
  have e1 := whl_s (nI k) 400 0 b
  rw [cl40 (show k < 1000 by omega)] at e1
  refine ⟨?_, ?_, ?_⟩
  · rw [e1]
    by_cases c : b.2.2.2 2 k = 2
    · rw [if_pos c]
      exact ⟨fun _ => c, fun _ => rfl⟩
    · rw [if_neg c]
      refine ⟨fun q => ?_, fun q => absurd q c⟩
      rcases whl_or (nI k) 400 1 (s_X0_goOneMinute b) with w | ⟨i, h1, h2, h3⟩
      · rw [w] at q
        exact absurd q (by decide)
      · rw [h3] at q
        have := nI_inj (i := i) (j := 0) (by omega) (by omega) q
        omega
  · intro q w
    rw [whl_3 hk 401 0 h (by omega) w] at q
    exact q (by decide)
  · intro q
    rw [e1] at q ⊢
    by_cases c : b.2.2.2 2 k = 2
    · rw [if_pos c] at q
      exact absurd (by decide) q
    · rw [if_neg c] at q ⊢
      have e2 := whl_s (nI k) 399 1 (s_X0_goOneMinute b)
      rw [cl40 (show k < 1000 by omega)] at e2
      rw [e2]
      by_cases d : (s_X0_goOneMinute b).2.2.2 2 k = 2
      · rw [if_pos d]
        exact ⟨fun _ => d, fun _ => rfl⟩
      · rw [if_neg d]
        refine ⟨fun q => ?_, fun q => absurd q d⟩
        rcases whl_or (nI k) 399 2 (s_X0_goOneMinute (s_X0_goOneMinute b)) with w | ⟨i, h1, h2, h3⟩
        · have e3 : (-1 : Int32) = 1 := by
            rw [← w]
            exact q
          exact absurd e3 (by decide)
        · have e3 : nI i = 1 := by
            rw [← h3]
            exact q
          have := nI_inj (i := i) (j := 1) (by omega) (by omega) e3
          omega
/-! the best -/
theorem bc_or (b : XBr) (mi : Int32) : ∀ (r k : Nat) (bs f : Int32), x_bc b mi r k bs f = bs ∨ ∃ j, k ≤ j ∧ j < k + r ∧ x_bc b mi r k bs f = nI j
  | 0, _, _, _ => Or.inl rfl
  | r + 1, k, bs, f => by
    rw [show x_bc b mi (r + 1) k bs f = if f ≤ r_X2_waitWith b (nI k) (b.1 2) mi then x_bc b mi r (k + 1) bs f else x_bc b mi r (k + 1) (nI k) (r_X2_waitWith b (nI k) (b.1 2) mi) from rfl]
    split
    · rcases bc_or b mi r (k + 1) bs f with q | ⟨j, h1, h2, h3⟩
      · exact Or.inl q
      · exact Or.inr ⟨j, by omega, by omega, h3⟩
    · rcases bc_or b mi r (k + 1) (nI k) (r_X2_waitWith b (nI k) (b.1 2) mi) with q | ⟨j, h1, h2, h3⟩
      · exact Or.inr ⟨k, by omega, by omega, q⟩
      · exact Or.inr ⟨j, by omega, by omega, h3⟩
theorem bp_or (b : XBr) (mi : Int32) : ∀ (r k : Nat) (bs f : Int32), x_bp b mi r k bs f = bs ∨ ∃ j, k ≤ j ∧ j < k + r ∧ x_bp b mi r k bs f = nI j
  | 0, _, _, _ => Or.inl rfl
  | r + 1, k, bs, f => by
    rw [show x_bp b mi (r + 1) k bs f = if f ≤ r_X2_waitWith b (b.1 4) (nI k) mi then x_bp b mi r (k + 1) bs f else x_bp b mi r (k + 1) (nI k) (r_X2_waitWith b (b.1 4) (nI k) mi) from rfl]
    split
    · rcases bp_or b mi r (k + 1) bs f with q | ⟨j, h1, h2, h3⟩
      · exact Or.inl q
      · exact Or.inr ⟨j, by omega, by omega, h3⟩
    · rcases bp_or b mi r (k + 1) (nI k) (r_X2_waitWith b (b.1 4) (nI k) mi) with q | ⟨j, h1, h2, h3⟩
      · exact Or.inr ⟨k, by omega, by omega, q⟩
      · exact Or.inr ⟨j, by omega, by omega, h3⟩
theorem bc_b (b : XBr) {m : Nat} (h1 : 1 ≤ m) (h2 : m ≤ 240) : x_X2_bestCode b (nI m) = 0 ∧ ∃ j, j < 4 ∧ r_X2_bestCode b (nI m) = nI j := by
  have hs := span_n h1 h2
  unfold x_X2_bestCode r_X2_bestCode
  rw [if_neg hs, if_neg hs]
  refine ⟨rfl, ?_⟩
  rcases bc_or b (nI m) 3 1 0 (r_X2_waitWith b 0 (b.1 2) (nI m)) with q | ⟨j, g1, g2, g3⟩
  · exact ⟨0, by omega, q⟩
  · exact ⟨j, by omega, g3⟩
theorem bp_b (b : XBr) {m : Nat} (h1 : 1 ≤ m) (h2 : m ≤ 240) : x_X2_bestPoise b (nI m) = 0 ∧ ∃ j, j < 31 ∧ r_X2_bestPoise b (nI m) = nI j := by
  have hs := span_n h1 h2
  unfold x_X2_bestPoise r_X2_bestPoise
  rw [if_neg hs, if_neg hs]
  refine ⟨rfl, ?_⟩
  rcases bp_or b (nI m) 30 1 0 (r_X2_waitWith b (b.1 4) 0 (nI m)) with q | ⟨j, g1, g2, g3⟩
  · exact ⟨0, by omega, q⟩
  · exact ⟨j, by omega, g3⟩
theorem nI_lt0 {j : Nat} (h : j < 1000) : ¬ nI j < 0 := nI_pos (by omega)
theorem nI_gt {j a : Nat} (h : j ≤ a) (ha : a < 1000) : ¬ nI a < nI j := nI_nlt h (by omega)
theorem one_nI (j : Nat) : (1 : Int32) + nI j = nI (1 + j) := by
  rw [Int32.add_comm, Nat.add_comm]
  exact (nI_succ j).symm
/-! the next one, and whether it begins -/
theorem no_both {n : Nat} {b : XBr} (h : Iv n b) (h6 : ¬ b.1 6 < 0) : ¬ 0 ≤ r_X0_servedNext b := by
  rcases next_iv h with q | ⟨q, -⟩
  · rw [q]
    decide
  · rw [q] at h6
    exact absurd (by decide) h6
theorem nx_some {n : Nat} {b : XBr} {nx : Int32} (h : Iv n b) (e : nx = r_X0_servedNext b) (h0 : ¬ nx < 0) : ∃ j, j < n ∧ nx = nI j ∧ fc b j 2 = 0 := by
  rcases next_iv h with q | ⟨-, j, hj, hk, hs⟩
  · rw [e, q] at h0
    exact absurd (by decide) h0
  · exact ⟨j, hj, e.trans hk, hs⟩
/-- begins -/
def bgI (b : XBr) : Int32 := if r_X0_servedNext b < 0 then 0 else if b.1 1 = 60 * fc b (r_X0_servedNext b).toNatClampNeg 0 then 1 else 0
theorem bg_n {b : XBr} {nx : Int32} (e : nx = r_X0_servedNext b) (c : nx < 0) : (0 : Int32) = bgI b := by
  unfold bgI
  rw [← e, if_pos c]
theorem bg_y {b : XBr} {j : Nat} (hj : j < 1000) (e : nI j = r_X0_servedNext b) (c : b.1 1 = 60 * fc b j 0) : (1 : Int32) = bgI b := by
  unfold bgI
  rw [← e, if_neg (nI_lt0 hj), cl40 hj, if_pos c]
theorem bg_z {b : XBr} {j : Nat} (hj : j < 1000) (e : nI j = r_X0_servedNext b) (c : ¬ b.1 1 = 60 * fc b j 0) : (0 : Int32) = bgI b := by
  unfold bgI
  rw [← e, if_neg (nI_lt0 hj), cl40 hj, if_neg c]
theorem due_n {n : Nat} {b b' : XBr} {nx : Int32} (hM : Mn n b b') (e : nx = r_X0_servedNext b) (n40 : n ≤ 40) (c : nx < 0) : b.1 1 = b'.1 1 := by
  obtain ⟨-, hM⟩ := hM
  rcases hM with ⟨-, -, -, ⟨-, q⟩ | ⟨j, hj, hk, -⟩⟩ | ⟨j, had, hj, -, -, q, -⟩
  · exact q.symm
  · rw [e, hk] at c
    exact absurd c (nI_lt0 (by omega))
  · exact q.symm
theorem due_bg {n : Nat} {b b' : XBr} (hM : Mn n b b') (n40 : n ≤ 40) (c : ¬ bgI b = 0) : b.1 1 = b'.1 1 := by
  obtain ⟨-, hM⟩ := hM
  rcases hM with ⟨-, -, -, ⟨-, q⟩ | ⟨j, hj, hk, -, hne, -⟩⟩ | ⟨j, had, hj, -, -, q, -⟩
  · exact q.symm
  · exact absurd (bg_z (by omega) hk.symm hne).symm c
  · exact q.symm
theorem due_m {n : Nat} {b b' : XBr} {j : Nat} (hM : Mn n b b') (hj : j < n) (n40 : n ≤ 40) (e : nI j = r_X0_servedNext b) (c : bgI b = 0) : dueOf b (fc b j 0) = b'.1 1 := by
  obtain ⟨-, hM⟩ := hM
  rcases hM with ⟨-, -, -, ⟨q, -⟩ | ⟨i, hi, hk, -, hne, q⟩⟩ | ⟨i, had, hi, -, hang, q, hw, -⟩
  · rw [q] at e
    exact absurd e (nI_nm (by omega))
  · rw [← e] at hk
    have := nI_inj (by omega) (by omega) hk
    subst this
    exact q.symm
  · rcases hw with ⟨-, w, -⟩ | ⟨-, w, -⟩
    · rw [w] at e
      exact absurd e (nI_nm (by omega))
    · rw [← e] at w
      have := nI_inj (by omega) (by omega) w
      subst this
      rw [← bg_y (by omega) e hang] at c
      exact absurd c (by decide)
theorem due_y {n : Nat} {b b' : XBr} {j : Nat} (hM : Mn n b b') (hj : j < n) (n40 : n ≤ 40) (e : nI j = r_X0_servedNext b) (c : bgI b = 0) (d : fc b j 0 = 1) : imn (60 : Int32) ((b.1 1) + (r_X2_speed b 1)) = b'.1 1 := by
  have h := due_m hM hj n40 e c
  unfold dueOf at h
  rw [if_pos d] at h
  exact h
theorem due_z {n : Nat} {b b' : XBr} {j : Nat} (hM : Mn n b b') (hj : j < n) (n40 : n ≤ 40) (e : nI j = r_X0_servedNext b) (c : bgI b = 0) (d : ¬ fc b j 0 = 1) : imx (0 : Int32) ((b.1 1) - (r_X2_speed b 0)) = b'.1 1 := by
  have h := due_m hM hj n40 e c
  unfold dueOf at h
  rw [if_neg d] at h
  exact h
/-! ice -/
theorem clip9 (x : Int32) : imn 9 (imx 0 x) = imx 0 (imn 9 x) := by
  have e9 : (9 : Int32).toInt = 9 := by decide
  unfold imn imx
  apply ieq
  repeat' split
  all_goals simp only [ilt, i0, e9] at *
  all_goals omega
theorem flm8 {m : Int32} (h : 0 ≤ m.toInt) : r_J9_floorMod_7cf53 (m / 60) 8 = m / 60 - m / 60 / 8 * 8 := by
  unfold r_J9_floorMod_7cf53
  rw [if_pos (xor8 (by rw [d60 h]; omega))]
theorem frost_y {n : Nat} {b b' : XBr} {cf : Nat → Int32} (h : Iv n b) (hm : (b.1 0).toInt < 1000000) (hM : Mn n b b') (hcf : ∀ j, j < 8 → cf j = b.2.1 j) (c : b.1 0 - b.1 0 / 60 * 60 = 0) : imn 9 (imx 0 (b.1 3 + cf (b.1 0 / 60 - b.1 0 / 60 / 8 * 8).toNatClampNeg)) = b'.1 3 := by
  obtain ⟨⟨-, -, -, -, -, q⟩, -⟩ := hM
  rw [q]
  unfold fst3
  rw [if_pos c, flm8 h.m0, clip9, hcf]
  have := h.m0
  have h8 := hr_in (x := b.1 0) ⟨this, by omega⟩
  exact Nat.not_le.mp fun q => h8 (Or.inr q)
theorem frost_n {n : Nat} {b b' : XBr} (hM : Mn n b b') (c : ¬ b.1 0 - b.1 0 / 60 * 60 = 0) : b.1 3 = b'.1 3 := by
  obtain ⟨⟨-, -, -, -, -, q⟩, -⟩ := hM
  rw [q]
  unfold fst3
  rw [if_neg c]
theorem hr8 {n : Nat} {b : XBr} (h : Iv n b) (hm : (b.1 0).toInt < 1000000) : vp_in (b.1 0 / 60 - b.1 0 / 60 / 8 * 8) 8 := hr_in ⟨h.m0, by omega⟩
theorem sp_f {n : Nat} {b : XBr} (h : Iv n b) : (¬ r_X2_speed b 1 < 1 ∧ ¬ 6 < r_X2_speed b 1) ∧ (¬ r_X2_speed b 0 < 1 ∧ ¬ 6 < r_X2_speed b 0) ∧ (r_X2_speed b 1 + r_X2_speed b 0 ≤ 6 ↔ 5 ≤ b.1 3) := by
  obtain ⟨-, ⟨-, -, -, s3, s4, -⟩, -⟩ := h
  obtain ⟨p1, p2, p3⟩ := speeds s3 s4
  have g6 : (6 : Int32).toInt = 6 := by decide
  have g5 : (5 : Int32).toInt = 5 := by decide
  unfold r_X2_speed
  refine ⟨⟨by rw [ilt, i1]; omega, by rw [ilt]; omega⟩, ⟨by rw [ilt, i1]; omega, by rw [ilt]; omega⟩, ?_⟩
  rw [ilt, ilt] at p3
  rw [ile, ile]
  omega
/-! passed in a minute: one at most -/
theorem add1_sub (x : Int32) : x + 1 - x = 1 := by
  rw [Int32.sub_eq_add_neg, Int32.add_comm x 1, Int32.add_assoc, ← Int32.sub_eq_add_neg, Int32.sub_self]
  rfl
theorem done_1 {n : Nat} {b b' : XBr} (hM : Mn n b b') : b'.2.2.1 1 - b.2.2.1 1 ≤ 1 := by
  obtain ⟨-, hM⟩ := hM
  rcases hM with ⟨-, -, q, -⟩ | ⟨j, had, -, -, -, -, -, -, -, -, -, -, -, q⟩
  · rw [q, Int32.sub_self]
    decide
  · rw [q]
    by_cases c : had = 1
    · rw [if_pos c, add1_sub]
      decide
    · rw [if_neg c, Int32.sub_self]
      decide
/-! traveller by traveller -/
def gsI (b : XBr) (i : Nat) : Int32 := if nI i = b.1 6 then 1 else if bgI b = 0 then 0 else if nI i = r_X0_servedNext b then 1 else 0
def hdI (b : XBr) (i : Nat) : Int32 := if nI i = b.1 6 then fc b i 5 else fc b i 1
theorem same_f {n i : Nat} {b b' : XBr} (hM : Mn n b b') : fc b' i 0 = fc b i 0 ∧ fc b' i 1 = fc b i 1 ∧ fc b' i 3 = fc b i 3 := by
  obtain ⟨⟨-, -, q0, q1, q3, -⟩, -⟩ := hM
  refine ⟨?_, ?_, ?_⟩
  · show b'.2.2.2 0 i = b.2.2.2 0 i
    rw [q0]
  · show b'.2.2.2 1 i = b.2.2.2 1 i
    rw [q1]
  · show b'.2.2.2 3 i = b.2.2.2 3 i
    rw [q3]
theorem sub_comm1 (m c : Int32) : m + 1 - c = m - c + 1 := by
  rw [Int32.sub_eq_add_neg, Int32.sub_eq_add_neg, Int32.add_assoc, Int32.add_comm 1, ← Int32.add_assoc]
theorem wait_f {n i : Nat} {b b' : XBr} (h : Iv n b) (hM : Mn n b b') (hi : i < n) : fc b' i 4 = fc b i 4 + (if fc b' i 2 = 0 then 1 else 0) := by
  obtain ⟨⟨-, q0, -, -, q3, -⟩, hM⟩ := hM
  show wt b' i = wt b i + (if b'.2.2.2 2 i = 0 then 1 else 0)
  unfold wt
  rw [q3, q0]
  rcases hM with ⟨-, -, q, -⟩ | ⟨j, had, hj, -, -, -, hw, q2, -, q5, q5j, -⟩
  · rw [q]
    by_cases c : b.2.2.2 2 i = 0
    · rw [if_pos c, if_pos c, if_pos c, sub_comm1]
    · rw [if_neg c, if_neg c, if_neg c, Int32.add_zero]
  · rw [q2]
    by_cases d : i = j
    · subst d
      rw [upd_at, q5j]
      have hn : ¬ (if had = 1 then (2 : Int32) else 1) = 0 := by
        split
        · decide
        · decide
      rw [if_neg hn, if_neg hn, Int32.add_zero]
    · rw [upd_ne d, q5 i d]
      by_cases c : b.2.2.2 2 i = 0
      · rw [if_pos c, if_pos c, if_pos c, sub_comm1]
      · rw [if_neg c, if_neg c, if_neg c, Int32.add_zero]
theorem lf_ne {b : XBr} {i : Nat} (h : ¬ nI i = b.1 6) : lf b i = 0 := if_neg h
theorem lf_eq {b : XBr} {i : Nat} (h : nI i = b.1 6) : lf b i = b.1 7 := if_pos h
theorem gs_f {n i : Nat} {b b' : XBr} (h : Iv n b) (hM : Mn n b b') (hi : i < n) :
    (¬ gsI b i = 0 → fc b' i 2 = (if hdI b i = 1 then 2 else 1) ∧ fc b' i 5 = hdI b i - 1 ∧ fc b' i 6 = (if hdI b i = 1 then b.1 0 else -1) ∧ b'.1 1 = 60 * fc b i 0) ∧
    (gsI b i = 0 → fc b' i 2 = fc b i 2 ∧ fc b' i 5 = 0 ∧ fc b' i 6 = fc b i 6) := by
  obtain ⟨⟨n40, -⟩, -, -, ht, -, -⟩ := h
  obtain ⟨-, -, -, r3⟩ := ht i hi
  obtain ⟨-, hM⟩ := hM
  show (¬ gsI b i = 0 → b'.2.2.2 2 i = (if hdI b i = 1 then 2 else 1) ∧ lf b' i = hdI b i - 1 ∧ b'.2.2.2 4 i = (if hdI b i = 1 then b.1 0 else -1) ∧ b'.1 1 = 60 * b.2.2.2 0 i) ∧ (gsI b i = 0 → b'.2.2.2 2 i = b.2.2.2 2 i ∧ lf b' i = 0 ∧ b'.2.2.2 4 i = b.2.2.2 4 i)
  have hd5 : fc b i 5 = lf b i := rfl
  have hd1 : fc b i 1 = b.2.2.2 1 i := rfl
  rcases hM with ⟨h6, h6', q, hx⟩ | ⟨j, had, hj, ⟨u1, u6⟩, hang, hang', hw, q2, q4, -, -, q6, q7, -⟩
  · have hno : ¬ nI i = b.1 6 := by
      rw [h6]
      exact nI_nm (by omega)
    have hno' : ¬ nI i = b'.1 6 := by
      rw [h6']
      exact nI_nm (by omega)
    have hg : gsI b i = 0 := by
      unfold gsI
      rw [if_neg hno]
      rcases hx with ⟨hk, -⟩ | ⟨j, hj, hk, -, hne, -⟩
      · rw [← bg_n hk.symm (by decide), if_pos rfl]
      · rw [← bg_z (by omega) hk.symm hne, if_pos rfl]
    exact ⟨fun w => absurd hg w, fun _ => ⟨by rw [q], lf_ne hno', by rw [q]⟩⟩
  · by_cases d : i = j
    · subst d
      have hh : hdI b i = had := by
        unfold hdI
        rcases hw with ⟨w1, -, w3, -⟩ | ⟨w1, -, w3, -⟩
        · rw [if_pos w1.symm, hd5, lf_eq w1.symm, w3]
        · rw [if_neg (by rw [w1]; exact nI_nm (by omega)), hd1, w3]
      have hg : ¬ gsI b i = 0 := by
        unfold gsI
        rcases hw with ⟨w1, -⟩ | ⟨w1, w2, -⟩
        · rw [if_pos w1.symm]
          decide
        · have hb : bgI b = 1 := (bg_y (by omega) w2.symm hang).symm
          rw [if_neg (by rw [w1]; exact nI_nm (by omega)), hb, if_neg (by decide), if_pos w2.symm]
          decide
      have hst : b.2.2.2 4 i = -1 := by
        rcases r3 with r3 | r3
        · exact r3
        · rcases hw with ⟨-, -, -, w⟩ | ⟨-, -, -, w⟩
          · rw [w] at r3
            exact absurd r3 (by decide)
          · rw [w] at r3
            exact absurd r3 (by decide)
      refine ⟨fun _ => ?_, fun w => absurd w hg⟩
      rw [hh, q2, upd_at, q4]
      refine ⟨rfl, ?_, ?_, by rw [hang']; exact hang⟩
      · by_cases c : had = 1
        · rw [if_pos c] at q6
          rw [lf_ne (by rw [q6]; exact nI_nm (by omega)), c]
          decide
        · rw [if_neg c] at q6
          rw [lf_eq q6.symm, q7]
      · by_cases c : had = 1
        · rw [if_pos c, if_pos c, upd_at]
        · rw [if_neg c, if_neg c]
          exact hst
    · have hg : gsI b i = 0 := by
        unfold gsI
        rcases hw with ⟨w1, w2, -⟩ | ⟨w1, w2, -⟩
        · rw [if_neg (by rw [w1]; exact fun e => d (nI_inj (by omega) (by omega) e)), ← bg_n w2.symm (by decide), if_pos rfl]
        · have hb : bgI b = 1 := (bg_y (by omega) w2.symm hang).symm
          rw [if_neg (by rw [w1]; exact nI_nm (by omega)), hb, if_neg (by decide), if_neg (by rw [w2]; exact fun e => d (nI_inj (by omega) (by omega) e))]
      refine ⟨fun w => absurd hg w, fun _ => ⟨by rw [q2, upd_ne d], lf_ne ?_, ?_⟩⟩
      · rw [q6]
        split
        · exact nI_nm (by omega)
        · exact fun e => d (nI_inj (by omega) (by omega) e)
      · rw [q4]
        split
        · rw [upd_ne d]
        · rfl
/-! how many pass -/
def cn1 (b : XBr) : Nat → Int32
  | 0 => 0
  | k + 1 => cn1 b k + (if fc b k 2 = 1 then 1 else 0)
theorem cn1_0 {n : Nat} {b : XBr} (h : Iv n b) (h6 : b.1 6 = -1) : ∀ k, k ≤ n → cn1 b k = 0
  | 0, _ => rfl
  | k + 1, hk => by
    have n40 := h.1.1
    have hk1 : ¬ fc b k 2 = 1 := fun q => by
      have := (h.2.2.2.1 k (by omega)).2.2.1 q
      rw [h6] at this
      exact absurd this.symm (nI_nm (by omega))
    rw [cn1, cn1_0 h h6 k (by omega), if_neg hk1]
    rfl
theorem cn1_j {n j : Nat} {b : XBr} (h : Iv n b) (hj : j < n) (h6 : b.1 6 = nI j) (hs : fc b j 2 = 1) : ∀ k, k ≤ n → cn1 b k = (if j < k then 1 else 0)
  | 0, _ => rfl
  | k + 1, hk => by
    have n40 := h.1.1
    rw [cn1, cn1_j h hj h6 hs k (by omega)]
    by_cases d : k = j
    · subst d
      rw [if_pos hs, if_neg (Nat.lt_irrefl k), if_pos (Nat.lt_succ_self k)]
      rfl
    · have hk1 : ¬ fc b k 2 = 1 := fun q => by
        have := (h.2.2.2.1 k (by omega)).2.2.1 q
        rw [h6] at this
        exact d (nI_inj (by omega) (by omega) this).symm
      rw [if_neg hk1, Int32.add_zero]
      by_cases c : j < k
      · rw [if_pos c, if_pos (by omega)]
      · rw [if_neg c, if_neg (by omega)]
theorem cn1_f {n : Nat} {b : XBr} (h : Iv n b) : ¬ 1 < cn1 b n ∧ cn1 b n = (if b.1 6 < 0 then 0 else 1) := by
  have n40 := h.1.1
  rcases h.2.2.2.2.1 with q | ⟨j, hj, h6, hs, -⟩
  · rw [cn1_0 h q n (Nat.le_refl n), q, if_pos (by decide)]
    exact ⟨by decide, rfl⟩
  · rw [cn1_j h hj h6 hs n (Nat.le_refl n), if_pos hj, h6, if_neg (nI_lt0 (by omega))]
    exact ⟨by decide, rfl⟩
/-! the means -/
theorem lg_self (x : Int64) : lg_cmp x x = 0 := by
  unfold lg_cmp
  rw [if_neg (by rw [gt_iff_lt, Int64.lt_iff_toInt_lt]; omega), if_pos rfl]
theorem mean_self {x : UInt64} (h : vf_n64 x) : Op.cmpValue (FP.dcmp x x) .l = 0 := by
  have h1 := nn_no.mp h
  have h2 : FP.Core.val64 x ≠ .nan := by
    intro q
    rw [(FP.Core.dIsNaN_iff _).mpr q] at h1
    cases h1
  rw [show FP.dcmp x x = some .eq from FP.Core.dcmp_self h2]
  rfl
theorem mean_f {n : Nat} {b : XBr} (h : Iv n b) (h0 : 0 < n) : r_X2_mean b = FP.ddiv (FP.i2d (b.1 5)) (FP.i2d (nI n)) ∧ vf_n64 (FP.ddiv (FP.i2d (b.1 5)) (FP.i2d (nI n))) := by
  have n40 := h.1.1
  have hn : ¬ nI n = 0 := nI_ne0 h0 (by omega)
  refine ⟨?_, mean_nn _ _ hn⟩
  unfold r_X2_mean
  rw [h.1.2, if_neg hn]
/-! what count tells -/
theorem ct0 (b : XBr) : r_X2_count b 0 = b.1 0 := rfl
theorem ct1 (b : XBr) : r_X2_count b 1 = b.1 1 := rfl
theorem ct3 (b : XBr) : r_X2_count b 3 = b.1 3 := rfl
theorem ct5 {n : Nat} {b : XBr} (h : Iv n b) : r_X2_count b 5 = nI n := h.1.2
theorem ct9 (b : XBr) : r_X2_count b 9 = b.1 5 := rfl
theorem ct10 (b : XBr) : r_X2_count b 10 = b.1 6 := rfl
theorem ct11 (b : XBr) : r_X2_count b 11 = r_X0_servedNext b := rfl
theorem cx0 (b : XBr) : x_X2_count b 0 = 0 := rfl
theorem cx1 (b : XBr) : x_X2_count b 1 = 0 := rfl
theorem cx3 (b : XBr) : x_X2_count b 3 = 0 := rfl
theorem cx5 (b : XBr) : x_X2_count b 5 = 0 := rfl
theorem cx9 (b : XBr) : x_X2_count b 9 = 0 := rfl
theorem cx10 (b : XBr) : x_X2_count b 10 = 0 := rfl
theorem cx11 (b : XBr) : x_X2_count b 11 = 0 := rfl
theorem rem_nI {k d : Nat} (hd : 0 < d) (h2 : d < 1000) (hk : k < 1000) : nI k - nI k / nI d * nI d = nI (k % d) := by
  have e1 := nI_toInt (n := k) (by omega)
  have e2 := nI_toInt (n := d) (by omega)
  have e3 : (nI k / nI d).toInt = (k : Int) / d := by
    rw [dPos (nI d) d e2 (nI_nm h2) (by rw [e1]; omega), e1]
  have hq : (k : Int) / d * d ≤ k := Int.ediv_mul_le _ (by omega)
  have hq0 : 0 ≤ (k : Int) / d := Int.ediv_nonneg (by omega) (by omega)
  have hq1 : 0 ≤ (k : Int) / d * d := Int.mul_nonneg hq0 (by omega)
  have e4 : (nI k / nI d * nI d).toInt = (k : Int) / d * d := by
    rw [Int32.toInt_mul, e3, e2]
    exact i_bm (by omega) (by omega)
  have hmod := Int.emod_def (k : Int) d
  have hcomm : (k : Int) / d * d = d * ((k : Int) / d) := Int.mul_comm _ _
  have hlt : k % d < d := Nat.mod_lt _ hd
  have hcast : ((k % d : Nat) : Int) = (k : Int) % d := rfl
  apply ieq
  rw [toInt_subS (by rw [e4, e1]; omega) (by rw [e4, e1]; omega), e4, e1, nI_toInt (by omega)]
  omega
