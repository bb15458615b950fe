/-! what the model's counts look at -/
theorem m_cnt_c {o o' : MO} {a a' : MS} {wh kind : Int32} : ∀ (k : Nat), (∀ j, j < k → (a'.2 0 j = wh ↔ a.2 0 j = wh) ∧ o'.2 0 j = o.2 0 j) → m_cnt o' a' wh kind k = m_cnt o a wh kind k
  | 0, _ => rfl
  | k + 1, h => by
    have ih := m_cnt_c (kind := kind) k (fun j hj => h j (by omega))
    obtain ⟨h1, h2⟩ := h k (by omega)
    rw [m_cnt, m_cnt, ih, h2]
    by_cases hc : a.2 0 k = wh
    · rw [if_pos hc, if_pos (h1.mpr hc)]
    · rw [if_neg hc, if_neg (fun q => hc (h1.mp q))]
theorem m_first_c {o o' : MO} {a a' : MS} {kind : Int32} : ∀ (r k : Nat), (∀ j, k ≤ j → j < k + r → (a'.2 0 j = 0 ↔ a.2 0 j = 0) ∧ o'.2 0 j = o.2 0 j) → m_first o' a' kind r k = m_first o a kind r k
  | 0, _, _ => rfl
  | r + 1, k, h => by
    have ih := m_first_c (kind := kind) r (k + 1) (fun j h1 h2 => h j (by omega) (by omega))
    obtain ⟨h1, h2⟩ := h k (by omega) (by omega)
    rw [m_first, m_first, ih, h2]
    by_cases hc : a.2 0 k = 0
    · rw [if_pos hc, if_pos (h1.mpr hc)]
    · rw [if_neg hc, if_neg (fun q => hc (h1.mp q))]
theorem m_sum_c {w w' : Nat → Int32} : ∀ (k : Nat), (∀ j, j < k → w' j = w j) → m_sum w' k = m_sum w k
  | 0, _ => rfl
  | k + 1, h => by
    rw [m_sum, m_sum, m_sum_c k (fun j hj => h j (by omega)), h k (by omega)]
theorem m_cnt_e {o o' : MO} {a a' : MS} (h1 : o'.2 = o.2) (h2 : a'.2 = a.2) (wh kind : Int32) (k : Nat) : m_cnt o' a' wh kind k = m_cnt o a wh kind k := m_cnt_c k (fun j _ => by rw [h1, h2]; exact ⟨Iff.rfl, rfl⟩)
theorem m_first_e {o o' : MO} {a a' : MS} (h1 : o'.2 = o.2) (h2 : a'.2 = a.2) (kind : Int32) (r k : Nat) : m_first o' a' kind r k = m_first o a kind r k := m_first_c r k (fun j _ _ => by rw [h1, h2]; exact ⟨Iff.rfl, rfl⟩)
/-- the same but for the bridge's own numbers -/
theorem RelN.set {n : Nat} {b b' : XBr} {o o' : MO} {a a' : MS} (h : RelN n b o a) (hb : b'.2 = b.2) (ho : o'.2 = o.2) (ho1 : o'.1 1 = o.1 1) (ha : a'.2 = a.2) (h0 : b'.1 0 = b.1 0) (h5 : b'.1 5 = b.1 5) (h7 : b'.1 7 = b.1 7) (a0 : a'.1 0 = a.1 0) (a5 : a'.1 5 = a.1 5) (a6 : a'.1 6 = a.1 6) (s1 : b'.1 1 = a'.1 1) (s2 : b'.1 2 = a'.1 2) (s3 : b'.1 3 = a'.1 3) (s4 : b'.1 4 = a'.1 4) (s6 : b'.1 6 = b.1 6) (s8 : b'.1 8 = b.1 8) (d1 : 0 ≤ (a'.1 1).toInt) (d2 : (a'.1 1).toInt ≤ 60) (d3 : 0 ≤ (a'.1 2).toInt) (d4 : (a'.1 2).toInt ≤ 30) (d5 : 0 ≤ (a'.1 4).toInt) (d6 : (a'.1 4).toInt ≤ 4) : RelN n b' o' a' := by
  obtain ⟨⟨n40, on, bn⟩, ⟨e0, e1, e2, e3, e4, e5, e6⟩, hc, har, hw, hl, ⟨cp, cb, cc, cf, cg, cs⟩, hin, hps, ⟨-, -, -, -, hbd, hm, -, -⟩, hz⟩ := h
  refine ⟨⟨n40, by rw [ho1]; exact on, by rw [hb]; exact bn⟩, ⟨by rw [h0, a0]; exact e0, s1, s2, s3, s4, by rw [s6, a5]; exact e5, by rw [s8, a6]; exact e6⟩, fun j hj => by rw [hb, ho]; exact hc j hj, fun k hk => by rw [hb, ho, ha]; exact har k hk, fun k hk => by rw [hb, ho, ha, a0]; exact hw k hk, fun k hk => by rw [ha, a5, h7]; exact hl k hk, ⟨?_, ?_, ?_, ?_, ?_, ?_⟩, fun k hk => by rw [ho, ha, a0]; exact hin k hk, ?_, ⟨d1, d2, d3, d4, by rw [a6]; exact hbd, by rw [a0]; exact hm, d5, d6⟩, fun k h1 h2 => by rw [ha]; exact hz k h1 h2⟩
  · rw [m_cnt_e ho ha, hb]; exact cp
  · rw [m_cnt_e ho ha, hb]; exact cb
  · rw [m_cnt_e ho ha, hb]; exact cc
  · rw [m_first_e ho ha, hb]; exact cf
  · rw [m_first_e ho ha, hb]; exact cg
  · rw [ha, h5]; exact cs
  · rw [a5, ha, h7]; exact hps
/-- .. but for the refusal's number -/
theorem RelN.thr {n : Nat} {b : XBr} {o o' : MO} {a : MS} (h : RelN n b o a) (ho : o'.2 = o.2) (ho1 : o'.1 1 = o.1 1) : RelN n b o' a := by
  have h' := h
  obtain ⟨-, ⟨e0, e1, e2, e3, e4, e5, e6⟩, -, -, -, -, -, -, -, ⟨d1, d2, d3, d4, -, -, d5, d6⟩, -⟩ := h'
  exact h.set rfl ho ho1 rfl rfl rfl rfl rfl rfl rfl e1 e2 e3 e4 rfl rfl d1 d2 d3 d4 d5 d6
theorem Rel.thr {b : XBr} {o o' : MO} {a : MS} (h : Rel b o a) (ho : o'.2 = o.2) (ho1 : o'.1 1 = o.1 1) : Rel b o' a := by
  obtain ⟨n, h⟩ := h
  exact ⟨n, h.thr ho ho1⟩
theorem Rel.thr0 {b : XBr} {o : MO} {a : MS} (h : Rel b o a) (v : Int32) : Rel b (xs o.1 0 v, o.2) a := h.thr rfl rfl
theorem Rel.thrNo {b : XBr} {o : MO} {a : MS} (h : Rel b o a) (v : Int32) : Rel b (s_X4_no (xs o.1 0 (0 : Int32), o.2) v) a := h.thr rfl rfl
/-- bounds said by Int32's order, on both sides -/
theorem isIn_1 {v lo hi : Int32} (h1 : lo ≤ v) (h2 : v ≤ hi) : r_X4_isIn v lo hi = 1 := by
  unfold r_X4_isIn
  rw [Int32.le_iff_toInt_le] at h1 h2
  rw [if_neg (by rw [Int32.lt_iff_toInt_lt]; omega), if_neg (by rw [Int32.lt_iff_toInt_lt]; omega)]
theorem isIn_0 {v lo hi : Int32} (h : v < lo ∨ hi < v) : r_X4_isIn v lo hi = 0 := by
  unfold r_X4_isIn
  by_cases h1 : v < lo
  · rw [if_pos h1]
  · rw [if_neg h1, if_pos (h.resolve_left h1)]
theorem i_nlt {x y : Int32} (h : ¬ x < y) : y ≤ x := by
  rw [Int32.lt_iff_toInt_lt] at h
  rw [Int32.le_iff_toInt_le]
  omega
theorem i_nle {x y : Int32} (h : ¬ x ≤ y) : y < x := by
  rw [Int32.le_iff_toInt_le] at h
  rw [Int32.lt_iff_toInt_lt]
  omega
theorem i_lt_le {x y z : Int32} (h : x < y) (hz : y.toInt = z.toInt + 1) : x ≤ z := by
  rw [Int32.lt_iff_toInt_lt] at h
  rw [Int32.le_iff_toInt_le]
  omega
theorem i_nlt_lt {x y z : Int32} (h : ¬ x < y) (hz : y.toInt = z.toInt + 1) : z < x := by
  rw [Int32.lt_iff_toInt_lt] at h
  rw [Int32.lt_iff_toInt_lt]
  omega
theorem isSpan_e (mi : Int32) : r_X2_isSpan mi = r_X4_isIn mi (1 : Int32) (240 : Int32) := rfl
/-- the two 'is there such a traveller' -/
theorem has_e {b : XBr} {o : MO} {a : MS} (h : Rel b o a) (k : Int32) : r_X1_has b.2.2 k = r_X4_isTraveller (xs o.1 0 (0 : Int32), o.2) k := by
  have hn := h.nO
  have h1 := hn.1
  have h2 := hn.2
  obtain ⟨n, ⟨n40, on, bn⟩, -⟩ := h
  have h9 : (1 : Int32).toInt = 1 := by decide
  have hs : (o.1 1 - (1 : Int32)).toInt = (o.1 1).toInt - 1 := by rw [toInt_subS (by omega) (by omega), h9]
  unfold r_X1_has
  show _ = r_X4_isIn k (0 : Int32) (o.1 1 - (1 : Int32))
  rw [bn, ← on]
  by_cases c1 : k < 0
  · rw [if_pos c1, isIn_0 (Or.inl c1)]
  · rw [if_neg c1]
    by_cases c2 : o.1 1 ≤ k
    · rw [if_pos c2, isIn_0 (Or.inr ?_)]
      rw [Int32.le_iff_toInt_le] at c2
      rw [Int32.lt_iff_toInt_lt]
      omega
    · rw [if_neg c2, isIn_1 (i_nlt c1) ?_]
      rw [Int32.le_iff_toInt_le] at c2 ⊢
      omega
