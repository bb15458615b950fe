/-! who waits, seen anew -/
theorem m_first_1 (o : MO) (a : MS) (kind : Int32) (r k : Nat) : m_first o a kind (r + 1) k = if a.2 0 k = 0 then (if kind = 2 then nI k else if o.2 0 k = kind then nI k else m_first o a kind r (k + 1)) else m_first o a kind r (k + 1) := rfl
theorem m_first_snoc (o : MO) (a : MS) (kind : Int32) : ∀ (r k : Nat), k + r ≤ 40 → m_first o a kind (r + 1) k = if m_first o a kind r k = -1 then m_first o a kind 1 (k + r) else m_first o a kind r k
  | 0, k, _ => by
    rw [if_pos (show m_first o a kind 0 k = -1 from rfl)]
    rfl
  | r + 1, k, h => by
    have ih := m_first_snoc o a kind r (k + 1) (by omega)
    have n1 : ¬ nI k = -1 := nI_nm (by omega)
    rw [show k + (r + 1) = k + 1 + r by omega]
    rw [m_first_1 o a kind (r + 1) k, m_first_1 o a kind r k]
    by_cases c1 : a.2 0 k = 0
    · rw [if_pos c1, if_pos c1]
      by_cases c2 : kind = 2
      · rw [if_pos c2, if_pos c2, if_neg n1]
      · rw [if_neg c2, if_neg c2]
        by_cases c3 : o.2 0 k = kind
        · rw [if_pos c3, if_pos c3, if_neg n1]
        · rw [if_neg c3, if_neg c3]
          exact ih
    · rw [if_neg c1, if_neg c1]
      exact ih
theorem sw_spec {g : Nat → Nat → Int32} {o : MO} {a : MS} : ∀ (k : Nat) (f : Nat → Int32), k ≤ 40 → (∀ j, j < k → g 2 j = a.2 0 j ∧ g 0 j = o.2 0 j ∧ (o.2 0 j = 0 ∨ o.2 0 j = 1)) → sw g k f 2 = f 2 + m_cnt o a 0 1 k ∧ sw g k f 3 = f 3 + m_cnt o a 0 0 k ∧ sw g k f 4 = (if m_first o a 1 k 0 = -1 then f 4 else m_first o a 1 k 0) ∧ sw g k f 5 = (if m_first o a 0 k 0 = -1 then f 5 else m_first o a 0 k 0)
  | 0, f, _, _ => ⟨(Int32.add_zero _).symm, (Int32.add_zero _).symm, rfl, rfl⟩
  | k + 1, f, hk, h => by
    obtain ⟨i2, i3, i4, i5⟩ := sw_spec k (sw_step g k f) (by omega) (fun j hj => h j (by omega))
    obtain ⟨h1, h2, h3⟩ := h k (by omega)
    have k02 : ¬ (0 : Int32) = 2 := by decide
    have k12 : ¬ (1 : Int32) = 2 := by decide
    have k01 : ¬ (0 : Int32) = 1 := by decide
    have k10 : ¬ (1 : Int32) = 0 := by decide
    rw [show sw g (k + 1) f = sw g k (sw_step g k f) from rfl, i2, i3, i4, i5, m_cnt, m_cnt, m_first_snoc o a 1 k 0 (by omega), m_first_snoc o a 0 k 0 (by omega), Nat.zero_add, m_first_1 o a 1 0 k, m_first_1 o a 0 0 k]
    unfold sw_step
    rw [h1, h2]
    by_cases c1 : a.2 0 k = 0
    · simp only [if_pos c1, if_neg k02, if_neg k12]
      rcases h3 with c2 | c2
      · rw [c2]
        simp only [if_neg k01, if_true]
        refine ⟨?_, ?_, ?_, ?_⟩
        · rw [xs_ne (by decide), xs_ne (by decide), Int32.add_zero]
        · rw [xs_ne (by decide), xs_eq, Int32.add_assoc, Int32.add_comm 1]
        · rw [xs_ne (by decide), xs_ne (by decide)]
          by_cases q : m_first o a 1 k 0 = -1
          · simp only [if_pos q]
            rfl
          · simp only [if_neg q]
        · rw [xs_eq]
          by_cases q : m_first o a 0 k 0 = -1
          · simp only [if_pos q]
            rw [if_neg (nI_nm (by omega))]
          · simp only [if_neg q]
      · rw [c2]
        simp only [if_neg k10, if_true]
        refine ⟨?_, ?_, ?_, ?_⟩
        · rw [xs_ne (by decide), xs_eq, Int32.add_assoc, Int32.add_comm 1]
        · rw [xs_ne (by decide), xs_ne (by decide), Int32.add_zero]
        · rw [xs_eq]
          by_cases q : m_first o a 1 k 0 = -1
          · simp only [if_pos q]
            rw [if_neg (nI_nm (by omega))]
          · simp only [if_neg q]
        · rw [xs_ne (by decide), xs_ne (by decide)]
          by_cases q : m_first o a 0 k 0 = -1
          · simp only [if_pos q]
            rfl
          · simp only [if_neg q]
    · simp only [if_neg c1]
      refine ⟨?_, ?_, ?_, ?_⟩
      · rw [Int32.add_zero]
      · rw [Int32.add_zero]
      · by_cases q : m_first o a 1 k 0 = -1
        · simp only [if_pos q]
          rfl
        · simp only [if_neg q]
      · by_cases q : m_first o a 0 k 0 = -1
        · simp only [if_pos q]
          rfl
        · simp only [if_neg q]
/-- all but who waits -/
def RelP (n : Nat) (b : XBr) (o : MO) (a : MS) : Prop :=
  (n ≤ 40 ∧ o.1 1 = nI n ∧ b.2.2.1 0 = nI n) ∧
  (b.1 0 = a.1 0 ∧ b.1 1 = a.1 1 ∧ b.1 2 = a.1 2 ∧ b.1 3 = a.1 3 ∧ b.1 4 = a.1 4 ∧ b.1 6 = a.1 5 ∧ b.1 8 = a.1 6) ∧
  (∀ j, j < 8 → b.2.1 j = o.2 3 j) ∧
  (∀ k, k < n → b.2.2.2 0 k = o.2 0 k ∧ b.2.2.2 1 k = o.2 1 k ∧ b.2.2.2 2 k = a.2 0 k ∧ b.2.2.2 3 k = o.2 2 k ∧ b.2.2.2 4 k = a.2 3 k) ∧
  (∀ k, k < n → a.2 1 k = (if a.2 0 k = 0 then a.1 0 else b.2.2.2 5 k) - o.2 2 k) ∧
  (∀ k, k < n → a.2 2 k = if nI k = a.1 5 then b.1 7 else 0) ∧
  (b.2.2.1 1 = m_cnt o a 2 2 n ∧ b.1 5 = m_sum (a.2 1) n) ∧
  (∀ k, k < n → (o.2 0 k = 0 ∨ o.2 0 k = 1) ∧ 1 ≤ (o.2 1 k).toInt ∧ (o.2 1 k).toInt ≤ 6 ∧ 0 ≤ (a.2 1 k).toInt ∧ (a.2 1 k).toInt ≤ (a.1 0).toInt) ∧
  (a.1 5 = -1 ∨ ∃ j, j < n ∧ a.1 5 = nI j ∧ a.2 0 j = 1 ∧ 1 ≤ (b.1 7).toInt ∧ (b.1 7).toInt ≤ 6) ∧
  (0 ≤ (a.1 1).toInt ∧ (a.1 1).toInt ≤ 60 ∧ 0 ≤ (a.1 2).toInt ∧ (a.1 2).toInt ≤ 30 ∧ (a.1 6 = 0 ∨ a.1 6 = 1) ∧ 0 ≤ (a.1 0).toInt ∧ 0 ≤ (a.1 4).toInt ∧ (a.1 4).toInt ≤ 4) ∧
  (∀ k, n ≤ k → k < 40 → a.2 0 k = 0 ∧ a.2 1 k = 0 ∧ a.2 2 k = 0)
theorem RelP.see {n : Nat} {v : Nat → Int32} {f : Nat → Int32} {t : XT} {o : MO} {a : MS} (h : RelP n (v, f, t) o a) : RelN n (v, f, s_X1_seeWhoWaits t) o a := by
  obtain ⟨⟨n40, on, bn⟩, he, hc, har, hw, hl, ⟨cp, cs⟩, hin, hps, hbd, hz⟩ := h
  have bn : t.1 0 = nI n := bn
  have e : (t.1 0).toNatClampNeg = n := by rw [bn, nI_clamp (by omega)]
  have hsp := sw_spec (g := t.2) (o := o) (a := a) n (xs (xs (xs (xs t.1 2 0) 3 0) 4 (-1)) 5 (-1)) n40 (fun j hj => ⟨(har j hj).2.2.1, (har j hj).1, (hin j hj).1⟩)
  have hs : s_X1_seeWhoWaits t = (sw t.2 n (xs (xs (xs (xs t.1 2 0) 3 0) 4 (-1)) 5 (-1)), t.2) := by
    unfold s_X1_seeWhoWaits
    rw [e]
  rw [hs]
  obtain ⟨s2, s3, s4, s5⟩ := hsp
  refine ⟨⟨n40, on, ?_⟩, he, hc, har, hw, hl, ⟨?_, ?_, ?_, ?_, ?_, cs⟩, hin, hps, hbd, hz⟩
  · show sw t.2 n _ 0 = nI n
    rw [sw_le t.2 0 (by decide) (by decide) (by decide) (by decide)]
    exact bn
  · show sw t.2 n _ 1 = _
    rw [sw_le t.2 1 (by decide) (by decide) (by decide) (by decide)]
    exact cp
  · show sw t.2 n _ 2 = _
    rw [s2]
    exact Int32.zero_add _
  · show sw t.2 n _ 3 = _
    rw [s3]
    exact Int32.zero_add _
  · show sw t.2 n _ 4 = _
    rw [s4]
    by_cases q : m_first o a 1 n 0 = -1
    · rw [if_pos q, q]
      rfl
    · rw [if_neg q]
  · show sw t.2 n _ 5 = _
    rw [s5]
    by_cases q : m_first o a 0 n 0 = -1
    · rw [if_pos q, q]
      rfl
    · rw [if_neg q]
/-- a wait's end -/
theorem RelN.endWait {n j : Nat} {b : XBr} {o : MO} {a : MS} (h : RelN n b o a) (hj : j < n) (hw0 : a.2 0 j = 0) {st : Int32} (h0 : ¬ st = 0) (h2 : ¬ st = 2) {v : Nat → Int32} (hv : ∀ i, v i = b.1 i) : RelN n (v, b.2.1, s_X1_endWait b.2.2 (nI j) st (b.1 0)) o (a.1, xa a.2 0 (upd (a.2 0) j st)) := by
  obtain ⟨⟨n40, on, bn⟩, he, hc, har, hw, hl, ⟨cp, cb, cc, cf, cg, cs⟩, hin, hps, hbd, hz⟩ := h
  have hv : v = b.1 := funext hv
  subst hv
  have ej : (nI j).toNatClampNeg = j := nI_clamp (by omega)
  unfold s_X1_endWait g1_X1_endWait
  rw [ej]
  refine RelP.see ⟨⟨n40, on, bn⟩, he, hc, fun k hk => ?_, fun k hk => ?_, hl, ⟨?_, cs⟩, hin, ?_, hbd, fun k h3 h4 => ?_⟩
  · obtain ⟨g0, g1, g2, g3, g4⟩ := har k hk
    refine ⟨g0, g1, ?_, g3, g4⟩
    show upd (b.2.2.2 2) j st k = upd (a.2 0) j st k
    unfold upd
    split
    · rfl
    · exact g2
  · show a.2 1 k = (if upd (a.2 0) j st k = 0 then a.1 0 else upd (b.2.2.2 5) j (b.1 0) k) - o.2 2 k
    by_cases c : k = j
    · subst c
      rw [upd_at, upd_at, if_neg h0, he.1, hw k hk, if_pos hw0]
    · rw [upd_ne c, upd_ne c]
      exact hw k hk
  · refine cp.trans (m_cnt_c n (fun i hi => ⟨?_, rfl⟩)).symm
    show upd (a.2 0) j st i = 2 ↔ _
    by_cases c : i = j
    · subst c
      rw [upd_at, hw0]
      exact ⟨fun q => absurd q h2, fun q => absurd q (by decide)⟩
    · rw [upd_ne c]
  · rcases hps with q | ⟨i, h3, h4, h5, h6⟩
    · exact Or.inl q
    · refine Or.inr ⟨i, h3, h4, ?_, h6⟩
      show upd (a.2 0) j st i = 1
      rw [upd_ne (fun q => ?_)]
      · exact h5
      · subst q
        rw [hw0] at h5
        exact absurd h5 (by decide)
  · obtain ⟨z0, z1, z2⟩ := hz k h3 h4
    refine ⟨?_, z1, z2⟩
    show upd (a.2 0) j st k = 0
    rw [upd_ne (by omega)]
    exact z0
theorem k_nI {k : Int32} {o : MO} {n : Nat} (h1 : 0 ≤ k.toInt) (h2 : k.toInt < (o.1 1).toInt) (n40 : n ≤ 40) (on : o.1 1 = nI n) : k.toNatClampNeg < n ∧ k = nI k.toNatClampNeg := by
  rw [on, nI_toInt (by omega)] at h2
  have h3 : k.toNatClampNeg < n := by rw [clampInt]; omega
  exact ⟨h3, Int32.toInt_inj.mp (by rw [nI_toInt (by omega), clampInt]; omega)⟩
theorem ag_leave {b : XBr} {o : MO} {a : MS} (h : Rel b o a) (hm : (b.1 0).toInt < 1000000) (k : Int32) : Agree b (x_X2_leave b k) (r_X2_leave b k) (r_X4_leave o a k) (s_X2_leave b k) (s_X4_leave o a k).1 (s_X4_leave o a k).2 := by
  have hh := has_e h k
  unfold x_X2_leave r_X2_leave s_X2_leave r_X4_leave s_X4_leave
  rw [← hh]
  by_cases c1 : r_X1_has b.2.2 k = 0
  · simp only [if_pos c1]
    exact ⟨rfl, fun q => absurd q (by decide), h.thrNo 1, le240⟩
  · have hb := has_in h.nB c1
    rw [h.num.1] at hb
    have h9 := h
    obtain ⟨n, hn⟩ := h9
    have h' := hn
    obtain ⟨⟨n40, on, bn⟩, he, hc, har, hw, -⟩ := h'
    obtain ⟨hj, hk⟩ := k_nI hb.1 hb.2 n40 on
    obtain ⟨g0, g1, g2, g3, g4⟩ := har _ hj
    rw [g2]
    by_cases c2 : a.2 0 k.toNatClampNeg = 0
    · simp only [if_neg c1, if_pos c2]
      have hr := ((hn.thr (o' := (xs o.1 0 (0 : Int32), o.2)) rfl rfl).endWait hj c2 (st := (3 : Int32)) (by decide) (by decide) (fun _ => rfl))
      rw [← hk] at hr
      refine ⟨rfl, fun _ => ?_, ⟨n, hr⟩, le240⟩
      obtain ⟨-, -, -, har', hw', -⟩ := hr
      have e1 := hw' _ hj
      obtain ⟨-, -, q2, q3, -⟩ := har' _ hj
      have e3 : xa a.2 0 (upd (a.2 0) k.toNatClampNeg (3 : Int32)) 0 k.toNatClampNeg = 3 := upd_at _ _ _
      show r_X1_waited (g1_X2_leave b k) k (b.1 0) = a.2 1 k.toNatClampNeg
      have e2 : (g1_X2_leave b k).2 2 k.toNatClampNeg = 3 := q2.trans e3
      unfold r_X1_waited
      rw [e2, if_neg (by decide)]
      refine Eq.trans ?_ e1.symm
      show _ = (if xa a.2 0 (upd (a.2 0) k.toNatClampNeg (3 : Int32)) 0 k.toNatClampNeg = 0 then _ else _) - _
      rw [e3, if_neg (by decide)]
      exact congrArg (fun z => (g1_X2_leave b k).2 5 k.toNatClampNeg - z) q3
    · simp only [if_neg c1, if_neg c2]
      exact ⟨rfl, fun q => absurd q (by decide), h.thrNo 2, le240⟩
