/-! the plain ops -/
theorem le240 {x : Int} : x ≤ x + 240 := by omega
theorem isIn_cases {v lo hi : Int32} (h1 : ¬ v < lo) (h2 : v ≤ hi) : ¬ r_X4_isIn v lo hi = 0 := by
  rw [isIn_1 (i_nlt h1) h2]
  decide
theorem ag_ring {b : XBr} {o : MO} {a : MS} (h : Rel b o a) (hm : (b.1 0).toInt < 1000000) (nc : Int32) : Agree b (x_X2_ring b nc) (r_X2_ring b nc) (r_X4_ring o a nc) (s_X2_ring b nc) (s_X4_ring o a nc).1 (s_X4_ring o a nc).2 := by
  unfold x_X2_ring r_X2_ring s_X2_ring r_X4_ring s_X4_ring
  by_cases c1 : nc < 0
  · have e := isIn_0 (v := nc) (lo := (0 : Int32)) (hi := (4 : Int32)) (Or.inl c1)
    simp only [if_pos c1, if_pos e]
    exact ⟨rfl, fun q => absurd q (by decide), h.thrNo 1, le240⟩
  · by_cases c2 : nc ≤ (4 : Int32)
    · have e := isIn_cases c1 c2
      simp only [if_neg c1, if_pos c2, if_neg e]
      obtain ⟨n, h⟩ := h
      have h' := h
      obtain ⟨-, ⟨e0, e1, e2, e3, e4, e5, e6⟩, -, -, -, -, -, -, -, ⟨d1, d2, d3, d4, -, -, d5, d6⟩, -⟩ := h'
      have c0 := i_nlt c1
      rw [Int32.le_iff_toInt_le] at c0 c2
      have h4 : (4 : Int32).toInt = 4 := by decide
      have h0 : (0 : Int32).toInt = 0 := by decide
      exact ⟨rfl, fun _ => e4, ⟨n, h.set rfl rfl rfl rfl rfl rfl rfl rfl rfl rfl e1 e2 e3 rfl rfl rfl d1 d2 d3 d4 (by show 0 ≤ nc.toInt; omega) (by show nc.toInt ≤ 4; omega)⟩, le240⟩
    · have e := isIn_0 (v := nc) (lo := (0 : Int32)) (hi := (4 : Int32)) (Or.inr (i_nle c2))
      simp only [if_neg c1, if_neg c2, if_pos e]
      exact ⟨rfl, fun q => absurd q (by decide), h.thrNo 1, le240⟩
theorem ag_poise {b : XBr} {o : MO} {a : MS} (h : Rel b o a) (hm : (b.1 0).toInt < 1000000) (cp : Int32) : Agree b (x_X2_poise b cp) (r_X2_poise b cp) (r_X4_poise o a cp) (s_X2_poise b cp) (s_X4_poise o a cp).1 (s_X4_poise o a cp).2 := by
  have h9 := h
  obtain ⟨n, hn⟩ := h9
  have h' := hn
  obtain ⟨-, ⟨e0, e1, e2, e3, e4, e5, e6⟩, -, -, -, -, -, -, -, ⟨d1, d2, d3, d4, -, -, d5, d6⟩, -⟩ := h'
  unfold x_X2_poise r_X2_poise s_X2_poise r_X4_poise s_X4_poise
  by_cases c1 : cp < 0
  · have e := isIn_0 (v := cp) (lo := (0 : Int32)) (hi := (30 : Int32)) (Or.inl c1)
    simp only [if_pos c1, if_pos e]
    exact ⟨rfl, fun q => absurd q (by decide), h.thrNo 1, le240⟩
  · by_cases c2 : cp ≤ (30 : Int32)
    · have e := isIn_cases c1 c2
      have c0 := i_nlt c1
      have c2' := c2
      rw [Int32.le_iff_toInt_le] at c0 c2'
      have h4 : (30 : Int32).toInt = 30 := by decide
      have h0 : (0 : Int32).toInt = 0 := by decide
      have hs : RelN n (xs b.1 2 cp, b.2) (xs o.1 0 (0 : Int32), o.2) (xs a.1 2 cp, a.2) := hn.set rfl rfl rfl rfl rfl rfl rfl rfl rfl rfl e1 rfl e3 e4 rfl rfl d1 d2 (by show 0 ≤ cp.toInt; omega) (by show cp.toInt ≤ 30; omega) d5 d6
      rw [e1]
      by_cases c3 : a.1 1 = 0
      · simp only [if_neg c1, if_pos c2, if_neg e, if_pos c3]
        exact ⟨rfl, fun _ => e2, ⟨n, hs⟩, le240⟩
      · by_cases c4 : a.1 1 = (60 : Int32)
        · simp only [if_neg c1, if_pos c2, if_neg e, if_neg c3, if_pos c4]
          exact ⟨rfl, fun _ => e2, ⟨n, hs⟩, le240⟩
        · simp only [if_neg c1, if_pos c2, if_neg e, if_neg c3, if_neg c4]
          exact ⟨rfl, fun q => absurd q (by decide), h.thrNo 2, le240⟩
    · have e := isIn_0 (v := cp) (lo := (0 : Int32)) (hi := (30 : Int32)) (Or.inr (i_nle c2))
      simp only [if_neg c1, if_neg c2, if_pos e]
      exact ⟨rfl, fun q => absurd q (by decide), h.thrNo 1, le240⟩
theorem RelN.cold {n : Nat} {b : XBr} {o : MO} {a : MS} (h : RelN n b o a) (i : Nat) (cv : Int32) : RelN n (b.1, upd b.2.1 i cv, b.2.2) (xs o.1 0 (0 : Int32), xa o.2 3 (upd (o.2 3) i cv)) a := by
  obtain ⟨⟨n40, on, bn⟩, he, hc, har, hw, hl, ⟨cp, cb, cc, cf, cg, cs⟩, hin, hps, hbd, hz⟩ := h
  have hcn : ∀ wh kind k, m_cnt (xs o.1 0 (0 : Int32), xa o.2 3 (upd (o.2 3) i cv)) a wh kind k = m_cnt o a wh kind k := fun wh kind k => m_cnt_c k (fun j _ => ⟨Iff.rfl, rfl⟩)
  have hfn : ∀ kind r k, m_first (xs o.1 0 (0 : Int32), xa o.2 3 (upd (o.2 3) i cv)) a kind r k = m_first o a kind r k := fun kind r k => m_first_c r k (fun j _ _ => ⟨Iff.rfl, rfl⟩)
  refine ⟨⟨n40, on, bn⟩, he, fun j hj => ?_, har, hw, hl, ⟨by rw [hcn]; exact cp, by rw [hcn]; exact cb, by rw [hcn]; exact cc, by rw [hfn]; exact cf, by rw [hfn]; exact cg, cs⟩, hin, hps, hbd, hz⟩
  show upd b.2.1 i cv j = upd (o.2 3) i cv j
  unfold upd
  split
  · rfl
  · exact hc j hj
theorem ag_setCold {b : XBr} {o : MO} {a : MS} (h : Rel b o a) (hm : (b.1 0).toInt < 1000000) (k cv : Int32) : Agree b (x_X2_setCold b k cv) (r_X2_setCold b k cv) (r_X4_setCold o a k cv) (s_X2_setCold b k cv) (s_X4_setCold o a k cv) a := by
  have h9 := h
  obtain ⟨n, hn⟩ := h9
  have h' := hn
  obtain ⟨-, -, hc, -⟩ := h'
  have h8 : (8 : Int32).toInt = (7 : Int32).toInt + 1 := by decide
  unfold x_X2_setCold r_X2_setCold s_X2_setCold r_X4_setCold s_X4_setCold
  by_cases c1 : k < 0
  · have e := isIn_0 (v := k) (lo := (0 : Int32)) (hi := (7 : Int32)) (Or.inl c1)
    simp only [if_pos c1, if_pos e]
    exact ⟨rfl, fun q => absurd q (by decide), h.thrNo 1, le240⟩
  · by_cases c2 : k < (8 : Int32)
    · have e := isIn_cases c1 (i_lt_le c2 h8)
      by_cases c3 : cv < (-3 : Int32)
      · have e2 := isIn_0 (v := cv) (lo := (-3 : Int32)) (hi := (3 : Int32)) (Or.inl c3)
        simp only [if_neg c1, if_pos c2, if_neg e, if_pos c3, if_pos e2]
        exact ⟨rfl, fun q => absurd q (by decide), h.thrNo 2, le240⟩
      · by_cases c4 : cv ≤ (3 : Int32)
        · have e2 := isIn_cases c3 c4
          simp only [if_neg c1, if_pos c2, if_neg e, if_neg c3, if_pos c4, if_neg e2]
          have hk : k.toNatClampNeg < 8 := by
            have c0 := i_nlt c1
            rw [Int32.le_iff_toInt_le] at c0
            rw [Int32.lt_iff_toInt_lt] at c2
            have g8 : (8 : Int32).toInt = 8 := by decide
            have g0 : (0 : Int32).toInt = 0 := by decide
            rw [clampInt]
            omega
          exact ⟨rfl, fun _ => hc _ hk, ⟨n, hn.cold _ _⟩, le240⟩
        · have e2 := isIn_0 (v := cv) (lo := (-3 : Int32)) (hi := (3 : Int32)) (Or.inr (i_nle c4))
          simp only [if_neg c1, if_pos c2, if_neg e, if_neg c3, if_neg c4, if_pos e2]
          exact ⟨rfl, fun q => absurd q (by decide), h.thrNo 2, le240⟩
    · have e := isIn_0 (v := k) (lo := (0 : Int32)) (hi := (7 : Int32)) (Or.inr (i_nlt_lt c2 h8))
      simp only [if_neg c1, if_neg c2, if_pos e]
      exact ⟨rfl, fun q => absurd q (by decide), h.thrNo 1, le240⟩
theorem ag_crack {b : XBr} {o : MO} {a : MS} (h : Rel b o a) : r_X2_crack b = r_X4_crack o a ∧ Rel (s_X2_crack b) (s_X4_crack o a).1 (s_X4_crack o a).2 ∧ (s_X2_crack b).1 0 = b.1 0 := by
  obtain ⟨n, hn⟩ := h
  have h' := hn
  obtain ⟨-, ⟨e0, e1, e2, e3, e4, e5, e6⟩, -, -, -, -, -, -, -, ⟨d1, d2, d3, d4, -, -, d5, d6⟩, -⟩ := h'
  unfold r_X2_crack r_X4_crack s_X2_crack s_X4_crack
  rw [e3]
  exact ⟨rfl, ⟨n, hn.set rfl rfl rfl rfl rfl rfl rfl rfl rfl rfl e1 e2 rfl e4 rfl rfl d1 d2 d3 d4 d5 d6⟩, rfl⟩
theorem speed_e {b : XBr} {o : MO} {a : MS} (h2 : b.1 2 = a.1 2) (h3 : b.1 3 = a.1 3) (up : Int32) : r_X0_speedTowards b up = r_X3_speed o a up := by
  unfold r_X0_speedTowards r_X3_speed
  rw [h2, h3]
  by_cases c : a.1 3 < (5 : Int32)
  · have c' : ¬ (5 : Int32) ≤ a.1 3 := by
      rw [Int32.lt_iff_toInt_lt] at c
      rw [Int32.le_iff_toInt_le]
      omega
    rw [if_pos c, if_pos c, if_neg c', if_neg c']
  · have c' : (5 : Int32) ≤ a.1 3 := i_nlt c
    rw [if_neg c, if_neg c, if_pos c', if_pos c']
theorem ag_speed {b : XBr} {o : MO} {a : MS} (h : Rel b o a) (up : Int32) : r_X2_speed b up = r_X4_speed o a up ∧ Rel b (s_X4_speed o a up) a := by
  have h9 := h
  obtain ⟨n, -, ⟨e0, e1, e2, e3, e4, e5, e6⟩, -⟩ := h9
  exact ⟨speed_e e2 e3 up, h.thr0 0⟩
theorem Rel.num {b : XBr} {o : MO} {a : MS} (h : Rel b o a) : b.2.2.1 0 = o.1 1 ∧ b.2.2.1 1 = r_X3_are o a 2 2 ∧ b.2.2.1 2 = r_X3_are o a 0 1 ∧ b.2.2.1 3 = r_X3_are o a 0 0 ∧ b.2.2.1 4 = r_X3_first o a 1 ∧ b.2.2.1 5 = r_X3_first o a 0 ∧ b.1 5 = r_X3_sumWaited o a := by
  obtain ⟨n, ⟨n40, on, bn⟩, -, -, -, -, -, ⟨cp, cb, cc, cf, cg, cs⟩, -⟩ := h
  have e : (o.1 1).toNatClampNeg = n := by rw [on, nI_clamp (by omega)]
  unfold r_X3_are r_X3_first r_X3_sumWaited
  rw [e]
  exact ⟨by rw [bn, on], cp, cb, cc, cf, cg, cs⟩
theorem ag_mean {b : XBr} {o : MO} {a : MS} (h : Rel b o a) : r_X2_mean b = r_X4_mean o a ∧ Rel b (s_X4_mean o a) a := by
  have h1 := h.num
  have h2 := (h.thr0 0).num
  unfold r_X2_mean r_X4_mean s_X4_mean
  rw [h1.1, ← h2.2.2.2.2.2.2]
  refine ⟨rfl, ?_⟩
  split
  · exact h.thr0 0
  · exact h.thr0 0
