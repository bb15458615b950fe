/-! ONE MINUTE -/
theorem first_or {n : Nat} {g : Nat → Int32} {t : XT} (hn : n ≤ 40) (h : Fs n g t.1) :
    (r_X1_firstOfAll t = -1 ∨ ∃ j, j < n ∧ r_X1_firstOfAll t = nI j ∧ g j = 0) ∧ (r_X1_firstBargeElseCart t = -1 ∨ ∃ j, j < n ∧ r_X1_firstBargeElseCart t = nI j ∧ g j = 0) ∧ (r_X1_firstCartElseBarge t = -1 ∨ ∃ j, j < n ∧ r_X1_firstCartElseBarge t = nI j ∧ g j = 0) := by
  have h4 := h 4 (Or.inl rfl)
  have h5 := h 5 (Or.inr rfl)
  refine ⟨?_, ?_, ?_⟩
  · unfold r_X1_firstOfAll
    by_cases c4 : t.1 4 = -1
    · rw [if_pos c4]
      exact h5
    · rw [if_neg c4]
      by_cases c5 : t.1 5 = -1
      · rw [if_pos c5]
        exact h4
      · rw [if_neg c5]
        unfold imn
        split
        · exact h5
        · exact h4
  · unfold r_X1_firstBargeElseCart
    split
    · exact h5
    · exact h4
  · unfold r_X1_firstCartElseBarge
    split
    · exact h4
    · exact h5
theorem next_iv {n : Nat} {b : XBr} (h : Iv n b) : r_X0_servedNext b = -1 ∨ (b.1 6 = -1 ∧ ∃ j, j < n ∧ r_X0_servedNext b = nI j ∧ b.2.2.2 2 j = 0) := by
  obtain ⟨f1, f2, f3⟩ := first_or h.1.1 h.2.2.2.2.2
  unfold r_X0_servedNext
  by_cases c : b.1 6 = -1
  · rw [if_pos c]
    have key : ∀ x : Int32, (x = -1 ∨ ∃ j, j < n ∧ x = nI j ∧ b.2.2.2 2 j = 0) → (x = -1 ∨ (b.1 6 = -1 ∧ ∃ j, j < n ∧ x = nI j ∧ b.2.2.2 2 j = 0)) := fun x hx => hx.elim Or.inl (fun q => Or.inr ⟨c, q⟩)
    apply key
    split
    · exact f1
    · split
      · exact f2
      · split
        · exact f3
        · split
          · split
            · exact f2
            · exact f3
          · exact Or.inl rfl
  · rw [if_neg c]
    exact Or.inl rfl
def dueOf (b : XBr) (bg : Int32) : Int32 := if bg = 1 then imn (60 : Int32) ((b.1 1) + (r_X0_speedTowards b (1 : Int32))) else imx (0 : Int32) ((b.1 1) - (r_X0_speedTowards b (0 : Int32)))
/-- behind the serving -/
def SvA (n : Nat) (b c : XBr) : Prop :=
  (r_X0_servedNext b = -1 ∧ c = b) ∨
  (b.1 6 = -1 ∧ ∃ j, j < n ∧ r_X0_servedNext b = nI j ∧ b.2.2.2 2 j = 0 ∧ ¬ b.1 1 = 60 * b.2.2.2 0 j ∧ c = (xs b.1 1 (dueOf b (b.2.2.2 0 j)), b.2)) ∨
  (b.1 6 = -1 ∧ ∃ (j : Nat) (lt : Int32), j < n ∧ (lt = 0 ∨ lt = 1) ∧ r_X0_servedNext b = nI j ∧ b.2.2.2 2 j = 0 ∧ b.1 1 = 60 * b.2.2.2 0 j ∧ c = (xs (xs (xs b.1 6 (nI j)) 7 (b.2.2.2 1 j)) 8 lt, b.2.1, s_X1_endWait b.2.2 (nI j) (1 : Int32) (b.1 0)))
theorem serve_sv {n : Nat} {b : XBr} (h : Iv n b) : SvA n b (s_X0_serve b (r_X0_servedNext b)) := by
  rcases next_iv h with q | ⟨q, j, hj, hk, hs⟩
  · refine Or.inl ⟨q, ?_⟩
    rw [q]
    unfold s_X0_serve
    rw [if_pos (has_m1 _)]
  · refine Or.inr ?_
    obtain ⟨⟨n40, bn⟩, -, -, ht, -, -⟩ := h
    obtain ⟨hb, -⟩ := ht j hj
    rw [hk]
    unfold s_X0_serve
    rw [if_neg (has_ne n40 bn hj), cl40 (show j < 1000 by omega)]
    rcases hb with hb | hb
    · rw [hb, if_neg (show ¬ (0 : Int32) = 1 by decide)]
      by_cases c : b.1 1 = 0
      · rw [if_pos c]
        exact Or.inr ⟨q, j, 0, hj, Or.inl rfl, rfl, hs, by rw [hb]; exact c.trans (by decide), rfl⟩
      · rw [if_neg c]
        refine Or.inl ⟨q, j, hj, rfl, hs, by rw [hb]; exact fun q9 => c (q9.trans (by decide)), ?_⟩
        unfold dueOf
        rw [hb, if_neg (show ¬ (0 : Int32) = 1 by decide)]
    · rw [hb, if_pos rfl]
      by_cases c : b.1 1 = 60
      · rw [if_pos c]
        exact Or.inr ⟨q, j, 1, hj, Or.inr rfl, rfl, hs, by rw [hb]; exact c.trans (by decide), rfl⟩
      · rw [if_neg c]
        refine Or.inl ⟨q, j, hj, rfl, hs, by rw [hb]; exact fun q9 => c (q9.trans (by decide)), ?_⟩
        unfold dueOf
        rw [hb, if_pos rfl]
def fst3 (m ic : Int32) (cd : Nat → Int32) : Int32 := if m - m / 60 * 60 = 0 then imx 0 (imn 9 (ic + cd (r_J9_floorMod_7cf53 (m / 60) 8).toNatClampNeg)) else ic
/-- the minute's end -/
theorem tail_e (b : XBr) : (∀ i, i ≠ 0 → i ≠ 3 → i ≠ 5 → (s_X0_goOneMinute b).1 i = (g2_X0_goOneMinute b).1 i) ∧ (s_X0_goOneMinute b).2 = (g2_X0_goOneMinute b).2 ∧ (s_X0_goOneMinute b).1 0 = (g2_X0_goOneMinute b).1 0 + 1 ∧ (s_X0_goOneMinute b).1 3 = fst3 ((g2_X0_goOneMinute b).1 0) ((g2_X0_goOneMinute b).1 3) (g2_X0_goOneMinute b).2.1 := by
  unfold s_X0_goOneMinute g3_X0_goOneMinute
  generalize g2_X0_goOneMinute b = g
  generalize g.1 5 + (g.2.2.1 2 + (g2_X0_goOneMinute b).2.2.1 3) = w5
  generalize ((g.1 5) + (g.2.2.1 2 + g.2.2.1 3)) = w
  unfold s_X0_freeze fst3
  have e0 : (xs g.1 5 w, g.2).1 0 = g.1 0 := rfl
  have e3 : (xs g.1 5 w, g.2).1 3 = g.1 3 := rfl
  rw [e0, e3]
  by_cases c : g.1 0 - g.1 0 / 60 * 60 = 0
  · rw [if_pos c, if_pos c]
    refine ⟨fun i h0 h3 h5 => ?_, rfl, rfl, rfl⟩
    show xs (xs (xs g.1 5 w) 3 _) 0 _ i = g.1 i
    rw [xs_ne h0, xs_ne h3, xs_ne h5]
  · rw [if_neg c, if_neg c]
    refine ⟨fun i h0 h3 h5 => ?_, rfl, rfl, rfl⟩
    show xs (xs g.1 5 w) 0 _ i = g.1 i
    rw [xs_ne h0, xs_ne h5]
/-- behind the one that passes -/
theorem go_none {c : XBr} (h : c.1 6 = -1) : s_X0_goOnPassing c = c := by
  unfold s_X0_goOnPassing
  rw [h, if_pos (has_m1 _)]
theorem one_or {x : Int32} (h1 : 1 ≤ x.toInt) (h6 : x.toInt ≤ 6) : (0 < x - 1 ∧ ¬ x = 1) ∨ (¬ 0 < x - 1 ∧ x = 1) := by
  have e : (x - 1).toInt = x.toInt - 1 := by rw [toInt_subS (by rw [i1]; omega) (by rw [i1]; omega), i1]
  by_cases c : x = 1
  · refine Or.inr ⟨?_, c⟩
    rw [c]
    decide
  · refine Or.inl ⟨?_, c⟩
    rw [ilt, i0, e]
    have : x.toInt ≠ 1 := fun q => c (ieq (by rw [i1]; exact q))
    omega
theorem go_some {n j : Nat} {c : XBr} (n40 : n ≤ 40) (cn : c.2.2.1 0 = nI n) (hj : j < n) (hp : c.1 6 = nI j) (h1 : 1 ≤ (c.1 7).toInt) (h6 : (c.1 7).toInt ≤ 6) :
    (∀ i, i ≠ 6 → i ≠ 7 → (s_X0_goOnPassing c).1 i = c.1 i) ∧ (s_X0_goOnPassing c).2.1 = c.2.1 ∧ (∀ i, i ≠ 1 → (s_X0_goOnPassing c).2.2.1 i = c.2.2.1 i) ∧ (∀ i, i ≠ 2 → i ≠ 4 → (s_X0_goOnPassing c).2.2.2 i = c.2.2.2 i) ∧
    (s_X0_goOnPassing c).2.2.2 2 = (if c.1 7 = 1 then upd (c.2.2.2 2) j 2 else c.2.2.2 2) ∧ (s_X0_goOnPassing c).2.2.2 4 = (if c.1 7 = 1 then upd (c.2.2.2 4) j (c.1 0) else c.2.2.2 4) ∧
    (s_X0_goOnPassing c).1 6 = (if c.1 7 = 1 then -1 else nI j) ∧ (s_X0_goOnPassing c).1 7 = c.1 7 - 1 ∧ (s_X0_goOnPassing c).2.2.1 1 = (if c.1 7 = 1 then c.2.2.1 1 + 1 else c.2.2.1 1) := by
  unfold s_X0_goOnPassing
  rw [hp, if_neg (has_ne n40 cn hj)]
  rcases one_or h1 h6 with ⟨c1, c2⟩ | ⟨c1, c2⟩
  · rw [if_pos c1, if_neg c2, if_neg c2, if_neg c2, if_neg c2]
    exact ⟨fun i _ h7 => xs_ne h7, rfl, fun _ _ => rfl, fun _ _ _ => rfl, rfl, rfl, hp, rfl, rfl⟩
  · rw [if_neg c1, if_pos c2, if_pos c2, if_pos c2, if_pos c2]
    unfold g1_X0_goOnPassing s_X1_endPassage
    rw [hp, cl40 (show j < 1000 by omega)]
    refine ⟨fun i h6 h7 => ?_, rfl, fun i h => xs_ne h, fun i h2 h4 => ?_, rfl, rfl, rfl, rfl, rfl⟩
    · show xs (xs c.1 7 _) 6 _ i = _
      rw [xs_ne h6, xs_ne h7]
    · show xa (xa c.2.2.2 2 _) 4 _ i = _
      rw [xa_ne h4, xa_ne h2]
def Mn (n : Nat) (b b' : XBr) : Prop :=
  (b'.2.1 = b.2.1 ∧ b'.1 0 = b.1 0 + 1 ∧ b'.2.2.2 0 = b.2.2.2 0 ∧ b'.2.2.2 1 = b.2.2.2 1 ∧ b'.2.2.2 3 = b.2.2.2 3 ∧ b'.1 3 = fst3 (b.1 0) (b.1 3) b.2.1) ∧
  ((b.1 6 = -1 ∧ b'.1 6 = -1 ∧ b'.2.2 = b.2.2 ∧ ((r_X0_servedNext b = -1 ∧ b'.1 1 = b.1 1) ∨ ∃ j, j < n ∧ r_X0_servedNext b = nI j ∧ b.2.2.2 2 j = 0 ∧ ¬ b.1 1 = 60 * b.2.2.2 0 j ∧ b'.1 1 = dueOf b (b.2.2.2 0 j))) ∨
   (∃ (j : Nat) (had : Int32), j < n ∧ (1 ≤ had.toInt ∧ had.toInt ≤ 6) ∧ b.1 1 = 60 * b.2.2.2 0 j ∧ b'.1 1 = b.1 1 ∧ ((b.1 6 = nI j ∧ r_X0_servedNext b = -1 ∧ had = b.1 7 ∧ b.2.2.2 2 j = 1) ∨ (b.1 6 = -1 ∧ r_X0_servedNext b = nI j ∧ had = b.2.2.2 1 j ∧ b.2.2.2 2 j = 0)) ∧
     b'.2.2.2 2 = upd (b.2.2.2 2) j (if had = 1 then 2 else 1) ∧ b'.2.2.2 4 = (if had = 1 then upd (b.2.2.2 4) j (b.1 0) else b.2.2.2 4) ∧
     (∀ k, ¬ k = j → b'.2.2.2 5 k = b.2.2.2 5 k) ∧ b'.2.2.2 5 j = (if b.2.2.2 2 j = 0 then b.1 0 else b.2.2.2 5 j) ∧
     b'.1 6 = (if had = 1 then -1 else nI j) ∧ b'.1 7 = had - 1 ∧ b'.2.2.1 1 = (if had = 1 then b.2.2.1 1 + 1 else b.2.2.1 1)))
theorem upd_upd (f : Nat → Int32) (k : Nat) (x y : Int32) : upd (upd f k x) k y = upd f k y := by
  funext j
  by_cases c : j = k
  · subst c
    rw [upd_at, upd_at]
  · rw [upd_ne c, upd_ne c, upd_ne c]
theorem upd_self (f : Nat → Int32) (k : Nat) (x : Int32) (h : f k = x) : upd f k x = f := by
  funext j
  by_cases c : j = k
  · subst c
    rw [upd_at, h]
  · rw [upd_ne c]
/-- Fs looks at who waits alone -/
theorem Fs.sub {n : Nat} {g g' f f' : Nat → Int32} (h : Fs n g f) (hg : ∀ j, g j = 0 → g' j = 0) (hf : ∀ i, i = 4 ∨ i = 5 → f' i = f i) : Fs n g' f' := by
  intro i hi
  rw [hf i hi]
  rcases h i hi with q | ⟨j, h1, h2, h3⟩
  · exact Or.inl q
  · exact Or.inr ⟨j, h1, h2, hg j h3⟩
theorem imn_b {x y : Int32} {lo hi : Int} (h1 : lo ≤ x.toInt) (h2 : x.toInt ≤ hi) (h3 : lo ≤ y.toInt) : lo ≤ (imn x y).toInt ∧ (imn x y).toInt ≤ hi := by
  unfold imn
  by_cases c : y < x
  · rw [if_pos c]
    rw [ilt] at c
    omega
  · rw [if_neg c]
    omega
theorem imx_b {x y : Int32} {lo hi : Int} (h1 : lo ≤ x.toInt) (h2 : x.toInt ≤ hi) (h3 : y.toInt ≤ hi) : lo ≤ (imx x y).toInt ∧ (imx x y).toInt ≤ hi := by
  unfold imx
  by_cases c : x < y
  · rw [if_pos c]
    rw [ilt] at c
    omega
  · rw [if_neg c]
    omega
theorem dPos {x : Int32} (d : Int32) (n : Nat) (hd : d.toInt = n) (hd0 : ¬ d = -1) (h : 0 ≤ x.toInt) : (x / d).toInt = x.toInt / n := by
  rw [Int32.toInt_div_of_ne_right _ _ hd0, hd, Int.tdiv_eq_ediv_of_nonneg h]
/-- the speeds, both -/
theorem speeds {b : XBr} (h1 : 0 ≤ (b.1 2).toInt) (h2 : (b.1 2).toInt ≤ 30) :
    (1 ≤ (r_X0_speedTowards b 1).toInt ∧ (r_X0_speedTowards b 1).toInt ≤ 6) ∧ (1 ≤ (r_X0_speedTowards b 0).toInt ∧ (r_X0_speedTowards b 0).toInt ≤ 6) ∧ (6 < r_X0_speedTowards b 1 + r_X0_speedTowards b 0 ↔ b.1 3 < 5) := by
  have g6 : (6 : Int32).toInt = 6 := by decide
  have d6 := dPos (x := b.1 2) (6 : Int32) 6 (by decide) (by decide) h1
  have s1 : ((6 : Int32) - ((b.1 2) / (6 : Int32))).toInt = 6 - (b.1 2).toInt / 6 := by
    rw [toInt_subS (by omega) (by omega), d6, g6]
    rfl
  have s2 : ((1 : Int32) + ((b.1 2) / (6 : Int32))).toInt = 1 + (b.1 2).toInt / 6 := by
    rw [toInt_addS (by rw [i1]; omega) (by rw [i1]; omega), d6, i1]
    rfl
  have d1 := dPos (x := (6 : Int32) - ((b.1 2) / (6 : Int32))) (2 : Int32) 2 (by decide) (by decide) (by omega)
  have d2 := dPos (x := (1 : Int32) + ((b.1 2) / (6 : Int32))) (2 : Int32) 2 (by decide) (by decide) (by omega)
  unfold r_X0_speedTowards
  have k10 : ¬ (1 : Int32) = 0 := by decide
  rw [if_neg k10, if_pos rfl]
  by_cases c : b.1 3 < 5
  · rw [if_pos c, if_pos c]
    refine ⟨by omega, by omega, ?_⟩
    rw [ilt, g6, toInt_addS (by omega) (by omega), s1, s2]
    exact ⟨fun _ => c, fun _ => by omega⟩
  · rw [if_neg c, if_neg c]
    have m1 := imx_b (x := (1 : Int32)) (y := ((6 : Int32) - ((b.1 2) / (6 : Int32))) / (2 : Int32)) (lo := 1) (hi := 3) (by rw [i1]; omega) (by rw [i1]; omega) (by omega)
    have m2 := imx_b (x := (1 : Int32)) (y := ((1 : Int32) + ((b.1 2) / (6 : Int32))) / (2 : Int32)) (lo := 1) (hi := 3) (by rw [i1]; omega) (by rw [i1]; omega) (by omega)
    refine ⟨by omega, by omega, ?_⟩
    rw [ilt, g6, toInt_addS (by omega) (by omega)]
    exact ⟨fun q => absurd q (by omega), fun q => absurd q c⟩
theorem due_b {n : Nat} {b : XBr} (h : Iv n b) (bg : Int32) : 0 ≤ (dueOf b bg).toInt ∧ (dueOf b bg).toInt ≤ 60 := by
  obtain ⟨-, ⟨s0, s1, s2, s3, s4, s5, s6, s7⟩, -⟩ := h
  obtain ⟨p1, p2, -⟩ := speeds s3 s4
  unfold dueOf
  by_cases c : bg = 1
  · rw [if_pos c]
    have e : (b.1 1 + r_X0_speedTowards b 1).toInt = (b.1 1).toInt + (r_X0_speedTowards b 1).toInt := toInt_addS (by omega) (by omega)
    exact imn_b (by rw [i60]; omega) (by rw [i60]; omega) (by omega)
  · rw [if_neg c]
    have e : (b.1 1 - r_X0_speedTowards b 0).toInt = (b.1 1).toInt - (r_X0_speedTowards b 0).toInt := toInt_subS (by omega) (by omega)
    exact imx_b (by rw [i0]; omega) (by rw [i0]; omega) (by omega)
theorem min_mn {n : Nat} {b : XBr} (h : Iv n b) (hm : (b.1 0).toInt < 1000000) : Mn n b (s_X0_goOneMinute b) ∧ Iv n (s_X0_goOneMinute b) := by
  have h0 := h
  obtain ⟨⟨n40, bn⟩, ⟨s0, s1, s2, s3, s4, s5, s6, s7⟩, hc, ht, hp, hf⟩ := h
  obtain ⟨t1, t2, t3, t4⟩ := tail_e b
  have hA := serve_sv h0
  have em : (b.1 0 + 1).toInt = (b.1 0).toInt + 1 := by rw [toInt_addS (by rw [i1]; omega) (by rw [i1]; omega), i1]
  have eg : g2_X0_goOneMinute b = s_X0_goOnPassing (s_X0_serve b (r_X0_servedNext b)) := rfl
  generalize s_X0_goOneMinute b = b' at t1 t2 t3 t4 ⊢
  generalize g2_X0_goOneMinute b = g at t1 t2 t3 t4 eg
  -- scalars that no stage but the last writes
  have fin : ∀ (q0 : g.1 0 = b.1 0) (q2 : g.1 2 = b.1 2) (q3 : g.1 3 = b.1 3) (q4 : g.1 4 = b.1 4) (q8 : g.1 8 = 0 ∨ g.1 8 = 1) (qa : 0 ≤ (g.1 1).toInt ∧ (g.1 1).toInt ≤ 60) (qc : g.2.1 = b.2.1) (qn : g.2.2.1 0 = nI n)
      (qt : ∀ k, k < n → (g.2.2.2 0 k = 0 ∨ g.2.2.2 0 k = 1) ∧ (1 ≤ (g.2.2.2 1 k).toInt ∧ (g.2.2.2 1 k).toInt ≤ 6) ∧ (g.2.2.2 2 k = 1 → g.1 6 = nI k) ∧ (g.2.2.2 4 k = -1 ∨ g.2.2.2 2 k = 2))
      (qp : g.1 6 = -1 ∨ ∃ j, j < n ∧ g.1 6 = nI j ∧ g.2.2.2 2 j = 1 ∧ 1 ≤ (g.1 7).toInt ∧ (g.1 7).toInt ≤ 6 ∧ g.1 1 = 60 * g.2.2.2 0 j) (qf : Fs n (g.2.2.2 2) g.2.2.1), Iv n b' := by
    intro q0 q2 q3 q4 q8 qa qc qn qt qp qf
    have e1 := t1 1 (by decide) (by decide) (by decide)
    have e2 := t1 2 (by decide) (by decide) (by decide)
    have e4 := t1 4 (by decide) (by decide) (by decide)
    have e6 := t1 6 (by decide) (by decide) (by decide)
    have e7 := t1 7 (by decide) (by decide) (by decide)
    have e8 := t1 8 (by decide) (by decide) (by decide)
    unfold Iv
    rw [t2, t3, e1, e2, e4, e6, e7, e8, q0, q2, q4, qc, em]
    exact ⟨⟨n40, qn⟩, ⟨by omega, qa.1, qa.2, s3, s4, s5, s6, q8⟩, hc, qt, qp, qf⟩
  rcases hA with ⟨hk, hA⟩ | ⟨h6, j, hj, hk, hs, hne, hA⟩ | ⟨h6, j, lt, hj, hlt, hk, hs, hang, hA⟩
  · -- nobody is to be served
    rw [hA] at eg
    rcases hp with hp | ⟨j, hj, hp, hs, u1, u6, hang⟩
    · rw [go_none hp] at eg
      subst eg
      exact ⟨⟨⟨by rw [t2], t3, by rw [t2], by rw [t2], by rw [t2], t4⟩, Or.inl ⟨hp, by rw [t1 6 (by decide) (by decide) (by decide)]; exact hp, by rw [t2], Or.inl ⟨hk, t1 1 (by decide) (by decide) (by decide)⟩⟩⟩, fin rfl rfl rfl rfl s7 ⟨s1, s2⟩ rfl bn ht (Or.inl hp) hf⟩
    · obtain ⟨v1, v2, v3, v4, v5, v6, v7, v8, v9⟩ := go_some n40 bn hj hp u1 u6
      rw [← eg] at v1 v2 v3 v4 v5 v6 v7 v8 v9
      have a0 := v1 0 (by decide) (by decide)
      have a1 := v1 1 (by decide) (by decide)
      have a2 := v1 2 (by decide) (by decide)
      have a3 := v1 3 (by decide) (by decide)
      have a4 := v1 4 (by decide) (by decide)
      have a8 := v1 8 (by decide) (by decide)
      have w0 := v4 0 (by decide) (by decide)
      have w1 := v4 1 (by decide) (by decide)
      have w3 := v4 3 (by decide) (by decide)
      have w5 := v4 5 (by decide) (by decide)
      have e2 : g.2.2.2 2 = upd (b.2.2.2 2) j (if b.1 7 = 1 then 2 else 1) := by
        rw [v5]
        by_cases c : b.1 7 = 1
        · rw [if_pos c, if_pos c]
        · rw [if_neg c, if_neg c, upd_self _ _ _ hs]
      refine ⟨⟨⟨by rw [t2, v2], by rw [t3, a0], by rw [t2, w0], by rw [t2, w1], by rw [t2, w3], by rw [t4, a0, a3, v2]⟩, Or.inr ⟨j, b.1 7, hj, ⟨u1, u6⟩, hang, by rw [t1 1 (by decide) (by decide) (by decide), a1], Or.inl ⟨hp, hk, rfl, hs⟩, by rw [t2, e2], by rw [t2, v6], fun k hk => by rw [t2, w5], by rw [t2, w5, hs, if_neg (by decide)], by rw [t1 6 (by decide) (by decide) (by decide), v7], by rw [t1 7 (by decide) (by decide) (by decide), v8], by rw [t2, v9]⟩⟩, ?_⟩
      refine fin a0 a2 a3 a4 (by rw [a8]; exact s7) (by rw [a1]; exact ⟨s1, s2⟩) v2 (by rw [v3 0 (by decide)]; exact bn) (fun k hk9 => ?_) ?_ ?_
      · obtain ⟨r0, r1, r2, r3⟩ := ht k hk9
        rw [w0, w1, e2, v6, v7]
        refine ⟨r0, r1, ?_⟩
        by_cases d : k = j
        · subst d
          rw [upd_at]
          by_cases c : b.1 7 = 1
          · rw [if_pos c, if_pos c, if_pos c, upd_at]
            exact ⟨fun q => absurd q (by decide), Or.inr rfl⟩
          · rw [if_neg c, if_neg c, if_neg c]
            refine ⟨fun _ => rfl, Or.inl ?_⟩
            rcases r3 with r3 | r3
            · exact r3
            · rw [hs] at r3
              exact absurd r3 (by decide)
        · rw [upd_ne d]
          refine ⟨fun q => ?_, ?_⟩
          · have := r2 q
            rw [hp] at this
            exact absurd (nI_inj (by omega) (by omega) this).symm d
          · by_cases c : b.1 7 = 1
            · rw [if_pos c, upd_ne d]
              exact r3
            · rw [if_neg c]
              exact r3
      · by_cases c : b.1 7 = 1
        · rw [v7, if_pos c]
          exact Or.inl rfl
        · refine Or.inr ⟨j, hj, by rw [v7, if_neg c], by rw [e2, upd_at, if_neg c], ?_, ?_, by rw [a1, w0]; exact hang⟩
          · rcases one_or u1 u6 with ⟨c1, c2⟩ | ⟨c1, c2⟩
            · rw [v8]
              rw [ilt, i0] at c1
              omega
            · exact absurd c2 c
          · rw [v8, toInt_subS (by rw [i1]; omega) (by rw [i1]; omega), i1]
            omega
      · refine hf.sub (fun i hi => ?_) (fun i hi => v3 i (by omega))
        rw [e2, upd_ne (fun q => ?_)]
        · exact hi
        · subst q
          rw [hs] at hi
          exact absurd hi (by decide)
  · -- the bridge goes
    rw [hA, go_none (show (xs b.1 1 (dueOf b (b.2.2.2 0 j)), b.2).1 6 = -1 from h6)] at eg
    subst eg
    exact ⟨⟨⟨by rw [t2], t3, by rw [t2], by rw [t2], by rw [t2], t4⟩, Or.inl ⟨h6, by rw [t1 6 (by decide) (by decide) (by decide)]; exact h6, by rw [t2], Or.inr ⟨j, hj, hk, hs, hne, t1 1 (by decide) (by decide) (by decide)⟩⟩⟩, fin rfl rfl rfl rfl s7 (due_b h0 _) rfl bn ht (Or.inl h6) hf⟩
  · -- one begins
    obtain ⟨x1, x2, x3, x4⟩ := endWait_t n40 hj bn (1 : Int32) (b.1 0)
    generalize s_X1_endWait b.2.2 (nI j) (1 : Int32) (b.1 0) = t' at hA x1 x2 x3 x4
    obtain ⟨rb, ⟨u1, u6⟩, -, r4⟩ := ht j hj
    have y0 : t'.2 0 = b.2.2.2 0 := by rw [x1]; rfl
    have y1 : t'.2 1 = b.2.2.2 1 := by rw [x1]; rfl
    have y2 : t'.2 2 = upd (b.2.2.2 2) j 1 := by rw [x1]; rfl
    have y3 : t'.2 3 = b.2.2.2 3 := by rw [x1]; rfl
    have y4 : t'.2 4 = b.2.2.2 4 := by rw [x1]; rfl
    have y5 : t'.2 5 = upd (b.2.2.2 5) j (b.1 0) := by rw [x1]; rfl
    rw [hA] at eg
    obtain ⟨v1, v2, v3, v4, v5, v6, v7, v8, v9⟩ := go_some (c := (xs (xs (xs b.1 6 (nI j)) 7 (b.2.2.2 1 j)) 8 lt, b.2.1, t')) n40 x2 hj rfl u1 u6
    rw [← eg] at v1 v2 v3 v4 v5 v6 v7 v8 v9
    have a0 : g.1 0 = b.1 0 := v1 0 (by decide) (by decide)
    have a1 : g.1 1 = b.1 1 := v1 1 (by decide) (by decide)
    have a2 : g.1 2 = b.1 2 := v1 2 (by decide) (by decide)
    have a3 : g.1 3 = b.1 3 := v1 3 (by decide) (by decide)
    have a4 : g.1 4 = b.1 4 := v1 4 (by decide) (by decide)
    have a8 : g.1 8 = lt := v1 8 (by decide) (by decide)
    have w0 : g.2.2.2 0 = b.2.2.2 0 := (v4 0 (by decide) (by decide)).trans y0
    have w1 : g.2.2.2 1 = b.2.2.2 1 := (v4 1 (by decide) (by decide)).trans y1
    have w3 : g.2.2.2 3 = b.2.2.2 3 := (v4 3 (by decide) (by decide)).trans y3
    have w5 : g.2.2.2 5 = upd (b.2.2.2 5) j (b.1 0) := (v4 5 (by decide) (by decide)).trans y5
    have v5 : g.2.2.2 2 = (if b.2.2.2 1 j = 1 then upd (t'.2 2) j 2 else t'.2 2) := v5
    have v6 : g.2.2.2 4 = (if b.2.2.2 1 j = 1 then upd (t'.2 4) j (b.1 0) else t'.2 4) := v6
    have v7 : g.1 6 = (if b.2.2.2 1 j = 1 then -1 else nI j) := v7
    have v8 : g.1 7 = b.2.2.2 1 j - 1 := v8
    have v9 : g.2.2.1 1 = (if b.2.2.2 1 j = 1 then t'.1 1 + 1 else t'.1 1) := v9
    rw [y4] at v6
    rw [x3] at v9
    have e2 : g.2.2.2 2 = upd (b.2.2.2 2) j (if b.2.2.2 1 j = 1 then 2 else 1) := by
      rw [v5, y2]
      by_cases c : b.2.2.2 1 j = 1
      · rw [if_pos c, if_pos c, upd_upd]
      · rw [if_neg c, if_neg c]
    refine ⟨⟨⟨by rw [t2, v2], by rw [t3, a0], by rw [t2, w0], by rw [t2, w1], by rw [t2, w3], by rw [t4, a0, a3, v2]⟩, Or.inr ⟨j, b.2.2.2 1 j, hj, ⟨u1, u6⟩, hang, by rw [t1 1 (by decide) (by decide) (by decide), a1], Or.inr ⟨h6, hk, rfl, hs⟩, by rw [t2, e2], by rw [t2, v6], fun k hk => by rw [t2, w5, upd_ne hk], by rw [t2, w5, upd_at, if_pos hs], by rw [t1 6 (by decide) (by decide) (by decide), v7], by rw [t1 7 (by decide) (by decide) (by decide), v8], by rw [t2, v9]⟩⟩, ?_⟩
    refine fin a0 a2 a3 a4 (by rw [a8]; exact hlt) (by rw [a1]; exact ⟨s1, s2⟩) v2 (by rw [v3 0 (by decide)]; exact x2) (fun k hk9 => ?_) ?_ ?_
    · obtain ⟨r0, r1, r2, r3⟩ := ht k hk9
      rw [w0, w1, e2, v6, v7]
      refine ⟨r0, r1, ?_⟩
      by_cases d : k = j
      · subst d
        rw [upd_at]
        by_cases c : b.2.2.2 1 k = 1
        · rw [if_pos c, if_pos c, if_pos c, upd_at]
          exact ⟨fun q => absurd q (by decide), Or.inr rfl⟩
        · rw [if_neg c, if_neg c, if_neg c]
          refine ⟨fun _ => rfl, Or.inl ?_⟩
          rcases r3 with r3 | r3
          · exact r3
          · rw [hs] at r3
            exact absurd r3 (by decide)
      · rw [upd_ne d]
        refine ⟨fun q => ?_, ?_⟩
        · have := r2 q
          rw [h6] at this
          exact absurd this.symm (nI_nm (by omega))
        · by_cases c : b.2.2.2 1 j = 1
          · rw [if_pos c, upd_ne d]
            exact r3
          · rw [if_neg c]
            exact r3
    · by_cases c : b.2.2.2 1 j = 1
      · rw [v7, if_pos c]
        exact Or.inl rfl
      · refine Or.inr ⟨j, hj, by rw [v7, if_neg c], by rw [e2, upd_at, if_neg c], ?_, ?_, by rw [a1, w0]; exact hang⟩
        · rcases one_or u1 u6 with ⟨c1, c2⟩ | ⟨c1, c2⟩
          · rw [v8]
            rw [ilt, i0] at c1
            omega
          · exact absurd c2 c
        · rw [v8, toInt_subS (by rw [i1]; omega) (by rw [i1]; omega), i1]
          omega
    · refine x4.sub (fun i hi => ?_) (fun i hi => v3 i (by omega))
      rw [e2]
      by_cases d : i = j
      · subst d
        rw [upd_at] at hi
        exact absurd hi (by decide)
      · rw [upd_ne d] at hi ⊢
        exact hi
