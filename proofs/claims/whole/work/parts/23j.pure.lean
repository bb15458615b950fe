/-! minutes on end -/
theorem it_e {n : Nat} {o : MO} : ∀ (k : Nat) {b : XBr} {a : MS}, RelN n b o a → (a.1 0).toInt + k < 2000000000 → RelN n (xit k b) o (mit o k a) ∧ ((mit o k a).1 0).toInt = (a.1 0).toInt + k
  | 0, b, a, h, hm => ⟨h, (Int.add_zero _).symm⟩
  | k + 1, b, a, h, hm => by
    have h' := h
    obtain ⟨-, -, -, -, -, -, -, -, -, ⟨-, -, -, -, -, m0, -⟩, -⟩ := h'
    have hs := minute_e h (by omega)
    have hq := passM_m o a
    have hp := p1_m m0 (by omega)
    obtain ⟨i1, i2⟩ := it_e k hs (by rw [hq]; omega)
    refine ⟨i1, ?_⟩
    show ((mit o k (s_X3_pass o a)).1 0).toInt = _
    rw [i2, hq, hp.2]
    omega
theorem Rel.it {b : XBr} {o : MO} {a : MS} (h : Rel b o a) (hm : (b.1 0).toInt < 1000000) {mi : Int32} (h1 : 0 ≤ mi.toInt) (h2 : mi.toInt ≤ 240) : Rel (s_X0_goOn b mi) o (s_X3_pass_ o a mi) ∧ ((s_X0_goOn b mi).1 0).toInt ≤ (b.1 0).toInt + 240 := by
  have e := h.me
  obtain ⟨n, h⟩ := h
  have hc : mi.toNatClampNeg ≤ 240 := by rw [clampInt]; omega
  obtain ⟨i1, i2⟩ := it_e mi.toNatClampNeg h (by rw [← e]; omega)
  unfold s_X0_goOn s_X3_pass_
  refine ⟨⟨n, i1⟩, ?_⟩
  rw [Rel.me ⟨n, i1⟩, i2, e]
  omega
theorem ag_pass {b : XBr} {o : MO} {a : MS} (h : Rel b o a) (hm : (b.1 0).toInt < 1000000) (mi : Int32) : Agree b (x_X2_pass b mi) (r_X2_pass b mi) (r_X4_pass o a mi) (s_X2_pass b mi) (s_X4_pass o a mi).1 (s_X4_pass o a mi).2 := by
  unfold x_X2_pass r_X2_pass s_X2_pass r_X4_pass s_X4_pass
  rw [isSpan_e]
  by_cases c : r_X4_isIn mi (1 : Int32) (240 : Int32) = 0
  · simp only [if_pos c]
    exact ⟨rfl, fun q => absurd q (by decide), h.thrNo 1, le240⟩
  · simp only [if_neg c]
    obtain ⟨b1, b2⟩ := isIn_mi c
    obtain ⟨i1, i2⟩ := (h.thr0 0).it hm b1 b2
    refine ⟨rfl, fun _ => ?_, i1, i2⟩
    have n1 := i1.num
    have n2 := (h.thr0 0).num
    unfold g1_X2_pass g1_X4_pass
    rw [n1.2.1, n2.2.1]
theorem ag_foresee {b : XBr} {o : MO} {a : MS} (h : Rel b o a) (hm : (b.1 0).toInt < 1000000) (mi wh : Int32) : Agree b (x_X2_foresee b mi wh) (r_X2_foresee b mi wh) (r_X4_foresee o a mi wh) b (s_X4_foresee o a mi wh) a := by
  unfold x_X2_foresee r_X2_foresee r_X4_foresee s_X4_foresee
  have h4 : (4 : Int32).toInt = (3 : Int32).toInt + 1 := by decide
  rw [isSpan_e]
  by_cases c : r_X4_isIn mi (1 : Int32) (240 : Int32) = 0
  · simp only [if_pos c]
    exact ⟨rfl, fun q => absurd q (by decide), h.thrNo 1, le240⟩
  · simp only [if_neg c]
    by_cases c1 : wh < 0
    · have e := isIn_0 (v := wh) (lo := (0 : Int32)) (hi := (3 : Int32)) (Or.inl c1)
      simp only [if_pos c1, if_pos e]
      exact ⟨rfl, fun q => absurd q (by decide), h.thrNo 2, le240⟩
    · by_cases c2 : wh < (4 : Int32)
      · have e := isIn_cases c1 (i_lt_le c2 h4)
        simp only [if_neg c1, if_pos c2, if_neg e]
        obtain ⟨b1, b2⟩ := isIn_mi c
        obtain ⟨i1, i2⟩ := (h.thr0 0).it hm b1 b2
        obtain ⟨-, n1, -, -, -, -, n6⟩ := i1.num
        obtain ⟨-, m1, -, -, -, -, m6⟩ := (h.thr0 0).num
        obtain ⟨n, -, ⟨e0, e1, e2, e3, e4, e5, e6⟩, -⟩ := i1
        unfold g1_X2_foresee g1_X4_foresee
        by_cases d0 : wh = 0
        · simp only [if_pos d0]
          exact ⟨rfl, fun _ => by rw [n1, m1], h.thr0 0, le240⟩
        · by_cases d1 : wh = (1 : Int32)
          · simp only [if_neg d0, if_pos d1]
            exact ⟨rfl, fun _ => by rw [n6, m6], h.thr0 0, le240⟩
          · by_cases d2 : wh = (2 : Int32)
            · simp only [if_neg d0, if_neg d1, if_pos d2]
              exact ⟨rfl, fun _ => e1, h.thr0 0, le240⟩
            · simp only [if_neg d0, if_neg d1, if_neg d2]
              exact ⟨rfl, fun _ => e3, h.thr0 0, le240⟩
      · have e := isIn_0 (v := wh) (lo := (0 : Int32)) (hi := (3 : Int32)) (Or.inr (i_nlt_lt c2 h4))
        simp only [if_neg c1, if_neg c2, if_pos e]
        exact ⟨rfl, fun q => absurd q (by decide), h.thrNo 2, le240⟩
theorem whl_e {n : Nat} {o : MO} {k : Int32} (hk : k.toNatClampNeg < n) : ∀ (r j : Nat) {b : XBr} {a : MS}, RelN n b o a → (a.1 0).toInt + r < 2000000000 → x_whl k r j b = m_when o k r j a
  | 0, _, _, _, _, _ => rfl
  | r + 1, j, b, a, h, hm => by
    have h' := h
    obtain ⟨-, -, -, har, -, -, -, -, -, ⟨-, -, -, -, -, m0, -⟩, -⟩ := h'
    have hs := minute_e h (by omega)
    have hq := passM_m o a
    have hp := p1_m m0 (by omega)
    have ih := whl_e hk r (j + 1) hs (by rw [hq]; omega)
    obtain ⟨-, -, g2, -⟩ := har _ hk
    rw [x_whl, m_when, g2, ih]
theorem ag_when {b : XBr} {o : MO} {a : MS} (h : Rel b o a) (hm : (b.1 0).toInt < 1000000) (k : Int32) : Agree b (x_X2_when b k) (r_X2_when b k) (r_X4_when o a k) b (s_X4_when o a k) a := by
  have hh := has_e h k
  unfold x_X2_when r_X2_when r_X4_when s_X4_when
  rw [← hh]
  by_cases c1 : r_X1_has b.2.2 k = 0
  · simp only [if_pos c1]
    exact ⟨rfl, fun q => absurd q (by decide), h.thrNo 1, le240⟩
  · simp only [if_neg c1]
    have hb := has_in h.nB c1
    rw [h.num.1] at hb
    have e := h.me
    refine ⟨rfl, fun _ => ?_, h.thr0 0, le240⟩
    have h9 := h.thr0 0
    obtain ⟨n, hn⟩ := h9
    have h' := hn
    obtain ⟨⟨n40, on, bn⟩, -⟩ := h'
    obtain ⟨hj, hk⟩ := k_nI (o := (xs o.1 0 (0 : Int32), o.2)) hb.1 hb.2 n40 on
    exact whl_e hj 401 0 hn (by rw [← e]; omega)
/-! the best of some tries -/
theorem sum_b {n : Nat} {b : XBr} {o : MO} {a : MS} (h : RelN n b o a) (hm : (a.1 0).toInt < 2000000) : ∀ (k : Nat), k ≤ n → 0 ≤ (m_sum (a.2 1) k).toInt ∧ (m_sum (a.2 1) k).toInt ≤ k * (a.1 0).toInt
  | 0, _ => by
    have g0 : (0 : Int32).toInt = 0 := by decide
    show 0 ≤ (0 : Int32).toInt ∧ (0 : Int32).toInt ≤ _
    rw [g0]
    exact ⟨Int.le_refl 0, by omega⟩
  | k + 1, hk => by
    obtain ⟨i1, i2⟩ := sum_b h hm k (by omega)
    obtain ⟨⟨n40, -⟩, -, -, -, -, -, -, hin, -⟩ := h
    obtain ⟨-, -, -, w1, w2⟩ := hin k (by omega)
    have hx : (k : Int) * (a.1 0).toInt ≤ 40 * 2000000 := Int.mul_le_mul (by omega) (by omega) (by omega) (by omega)
    have he : ((k + 1 : Nat) : Int) * (a.1 0).toInt = (k : Int) * (a.1 0).toInt + (a.1 0).toInt := by
      rw [Int.natCast_add, Int.add_mul]
      omega
    rw [m_sum, toInt_addS (by omega) (by omega), he]
    omega
def sOk (x : Int32) : Prop := 0 ≤ x.toInt ∧ x.toInt ≤ 1000000000
theorem sum_ok {b : XBr} {o : MO} {a : MS} (h : Rel b o a) (hm : (b.1 0).toInt < 2000000) : sOk (r_X3_sumWaited o a) := by
  have e := h.me
  obtain ⟨n, h⟩ := h
  rw [e] at hm
  obtain ⟨i1, i2⟩ := sum_b h hm n (Nat.le_refl n)
  obtain ⟨⟨n40, on, -⟩, -, -, -, -, -, -, -, -, ⟨-, -, -, -, -, m0, -⟩, -⟩ := h
  have en : (o.1 1).toNatClampNeg = n := by rw [on, nI_clamp (by omega)]
  have hx : (n : Int) * (a.1 0).toInt ≤ 40 * 2000000 := Int.mul_le_mul (by omega) (by omega) (by omega) (by omega)
  unfold r_X3_sumWaited
  rw [en]
  exact ⟨i1, by omega⟩
theorem s_cmp {s f z : Int32} (hs : sOk s) (hf : sOk f) (hz : sOk z) : (f - z ≤ s - z) ↔ ¬ s < f := by
  obtain ⟨a1, a2⟩ := hs
  obtain ⟨b1, b2⟩ := hf
  obtain ⟨c1, c2⟩ := hz
  rw [Int32.le_iff_toInt_le, Int32.lt_iff_toInt_lt, toInt_subS (by omega) (by omega), toInt_subS (by omega) (by omega)]
  omega
theorem bc_e {b : XBr} {o : MO} {a : MS} {mi z : Int32} (hz : sOk z) : ∀ (r k : Nat) (bs f F : Int32), k + r ≤ 31 → ¬ bs = -1 → f = F - z → sOk F → (∀ i, i < k + r → r_X2_waitWith b (nI i) (b.1 2) mi = r_X3_sumWaited o (m_try o a mi 1 i) - z ∧ sOk (r_X3_sumWaited o (m_try o a mi 1 i))) → x_bc b mi r k bs f = m_best o a mi 1 r k bs F
  | 0, _, _, _, _, _, _, _, _, _ => rfl
  | r + 1, k, bs, f, F, hk, hb, hf, hF, hw => by
    obtain ⟨w1, w2⟩ := hw k (by omega)
    rw [x_bc, m_best, if_neg hb, w1, hf]
    have hc := s_cmp w2 hF hz
    by_cases c : r_X3_sumWaited o (m_try o a mi 1 k) < F
    · rw [if_neg (fun q => (hc.mp q) c), if_pos c]
      exact bc_e hz r (k + 1) _ _ _ (by omega) (nI_nm (by omega)) rfl w2 (fun i hi => hw i (by omega))
    · rw [if_pos (hc.mpr c), if_neg c]
      exact bc_e hz r (k + 1) _ _ _ (by omega) hb rfl hF (fun i hi => hw i (by omega))
theorem bp_e {b : XBr} {o : MO} {a : MS} {mi z : Int32} (hz : sOk z) : ∀ (r k : Nat) (bs f F : Int32), k + r ≤ 31 → ¬ bs = -1 → f = F - z → sOk F → (∀ i, i < k + r → r_X2_waitWith b (b.1 4) (nI i) mi = r_X3_sumWaited o (m_try o a mi 0 i) - z ∧ sOk (r_X3_sumWaited o (m_try o a mi 0 i))) → x_bp b mi r k bs f = m_best o a mi 0 r k bs F
  | 0, _, _, _, _, _, _, _, _, _ => rfl
  | r + 1, k, bs, f, F, hk, hb, hf, hF, hw => by
    obtain ⟨w1, w2⟩ := hw k (by omega)
    rw [x_bp, m_best, if_neg hb, w1, hf]
    have hc := s_cmp w2 hF hz
    by_cases c : r_X3_sumWaited o (m_try o a mi 0 k) < F
    · rw [if_neg (fun q => (hc.mp q) c), if_pos c]
      exact bp_e hz r (k + 1) _ _ _ (by omega) (nI_nm (by omega)) rfl w2 (fun i hi => hw i (by omega))
    · rw [if_pos (hc.mpr c), if_neg c]
      exact bp_e hz r (k + 1) _ _ _ (by omega) hb rfl hF (fun i hi => hw i (by omega))
theorem try_c {b : XBr} {o : MO} {a : MS} (h : Rel b o a) (hm : (b.1 0).toInt < 1000000) {mi : Int32} (h1 : 0 ≤ mi.toInt) (h2 : mi.toInt ≤ 240) (i : Nat) (hi : i ≤ 4) : r_X2_waitWith b (nI i) (b.1 2) mi = r_X3_sumWaited o (m_try o a mi 1 i) - r_X3_sumWaited o a ∧ sOk (r_X3_sumWaited o (m_try o a mi 1 i)) := by
  have g6 := h.num.2.2.2.2.2.2
  obtain ⟨n, hn⟩ := h
  have h' := hn
  obtain ⟨-, ⟨e0, e1, e2, e3, e4, e5, e6⟩, -, -, -, -, -, -, -, ⟨d1, d2, d3, d4, -, -, d5, d6⟩, -⟩ := h'
  have ei := nI_toInt (n := i) (by omega)
  have hs : RelN n (xs (xs b.1 4 (nI i)) 2 (b.1 2), b.2) o (xs a.1 4 (nI i), a.2) := hn.set rfl rfl rfl rfl rfl rfl rfl rfl rfl rfl e1 e2 e3 rfl rfl rfl d1 d2 d3 d4 (by show 0 ≤ (nI i).toInt; omega) (by show (nI i).toInt ≤ 4; omega)
  obtain ⟨i1, i2⟩ := Rel.it ⟨n, hs⟩ hm h1 h2
  have k6 := i1.num.2.2.2.2.2.2
  unfold m_try
  rw [if_neg (show ¬ (1 : Int32) = 0 by decide)]
  refine ⟨?_, sum_ok i1 (Int.lt_of_le_of_lt i2 (by show (b.1 0).toInt + 240 < _; omega))⟩
  unfold r_X2_waitWith g1_X2_waitWith
  rw [k6, g6]
theorem try_p {b : XBr} {o : MO} {a : MS} (h : Rel b o a) (hm : (b.1 0).toInt < 1000000) {mi : Int32} (h1 : 0 ≤ mi.toInt) (h2 : mi.toInt ≤ 240) (i : Nat) (hi : i ≤ 30) : r_X2_waitWith b (b.1 4) (nI i) mi = r_X3_sumWaited o (m_try o a mi 0 i) - r_X3_sumWaited o a ∧ sOk (r_X3_sumWaited o (m_try o a mi 0 i)) := by
  have g6 := h.num.2.2.2.2.2.2
  obtain ⟨n, hn⟩ := h
  have h' := hn
  obtain ⟨-, ⟨e0, e1, e2, e3, e4, e5, e6⟩, -, -, -, -, -, -, -, ⟨d1, d2, d3, d4, -, -, d5, d6⟩, -⟩ := h'
  have ei := nI_toInt (n := i) (by omega)
  have hs : RelN n (xs (xs b.1 4 (b.1 4)) 2 (nI i), b.2) o (xs a.1 2 (nI i), a.2) := hn.set rfl rfl rfl rfl rfl rfl rfl rfl rfl rfl e1 rfl e3 e4 rfl rfl d1 d2 (by show 0 ≤ (nI i).toInt; omega) (by show (nI i).toInt ≤ 30; omega) d5 d6
  obtain ⟨i1, i2⟩ := Rel.it ⟨n, hs⟩ hm h1 h2
  have k6 := i1.num.2.2.2.2.2.2
  unfold m_try
  rw [if_pos (show (0 : Int32) = 0 from rfl)]
  refine ⟨?_, sum_ok i1 (Int.lt_of_le_of_lt i2 (by show (b.1 0).toInt + 240 < _; omega))⟩
  unfold r_X2_waitWith g1_X2_waitWith
  rw [k6, g6]
theorem ag_bestCode {b : XBr} {o : MO} {a : MS} (h : Rel b o a) (hm : (b.1 0).toInt < 1000000) (mi : Int32) : Agree b (x_X2_bestCode b mi) (r_X2_bestCode b mi) (r_X4_bestCode o a mi) b (s_X4_bestCode o a mi) a := by
  unfold x_X2_bestCode r_X2_bestCode r_X4_bestCode s_X4_bestCode
  rw [isSpan_e]
  by_cases c : r_X4_isIn mi (1 : Int32) (240 : Int32) = 0
  · simp only [if_pos c]
    exact ⟨rfl, fun q => absurd q (by decide), h.thrNo 1, le240⟩
  · simp only [if_neg c]
    obtain ⟨b1, b2⟩ := isIn_mi c
    refine ⟨rfl, fun _ => ?_, h.thr0 0, le240⟩
    have h0 := h.thr0 0
    have ht := try_c h0 hm b1 b2
    obtain ⟨t1, t2⟩ := ht 0 (by omega)
    rw [show (0 : Int32) = nI 0 from rfl]
    unfold r_X4_best
    rw [show (4 : Int32).toNatClampNeg = 3 + 1 by decide, m_best, if_pos rfl]
    exact bc_e (sum_ok h0 (by omega)) 3 1 (nI 0) _ _ (by omega) (by decide) t1 t2 (fun i hi => ht i (by omega))
theorem ag_bestPoise {b : XBr} {o : MO} {a : MS} (h : Rel b o a) (hm : (b.1 0).toInt < 1000000) (mi : Int32) : Agree b (x_X2_bestPoise b mi) (r_X2_bestPoise b mi) (r_X4_bestPoise o a mi) b (s_X4_bestPoise o a mi) a := by
  unfold x_X2_bestPoise r_X2_bestPoise r_X4_bestPoise s_X4_bestPoise
  rw [isSpan_e]
  by_cases c : r_X4_isIn mi (1 : Int32) (240 : Int32) = 0
  · simp only [if_pos c]
    exact ⟨rfl, fun q => absurd q (by decide), h.thrNo 1, le240⟩
  · simp only [if_neg c]
    obtain ⟨b1, b2⟩ := isIn_mi c
    refine ⟨rfl, fun _ => ?_, h.thr0 0, le240⟩
    have h0 := h.thr0 0
    have ht := try_p h0 hm b1 b2
    obtain ⟨t1, t2⟩ := ht 0 (by omega)
    rw [show (0 : Int32) = nI 0 from rfl]
    unfold r_X4_best
    rw [show (31 : Int32).toNatClampNeg = 30 + 1 by decide, m_best, if_pos rfl]
    exact bp_e (sum_ok h0 (by omega)) 30 1 (nI 0) _ _ (by omega) (by decide) t1 t2 (fun i hi => ht i (by omega))
