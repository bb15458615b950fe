/-! THE BRIDGE'S OWN ORDER: what holds of it between two calls -/
theorem nI_nm {k : Nat} (h : k < 1000) : ¬ nI k = -1 := by
  intro q
  have h1 := congrArg Int32.toInt q
  rw [nI_toInt (by omega)] at h1
  have h2 : (-1 : Int32).toInt = -1 := by decide
  omega
theorem nI_inj {i j : Nat} (hi : i < 1000) (hj : j < 1000) (h : nI i = nI j) : i = j := by
  have h1 := congrArg Int32.toInt h
  rw [nI_toInt (by omega), nI_toInt (by omega)] at h1
  omega
theorem upd_at (f : Nat → Int32) (k : Nat) (x : Int32) : upd f k x k = x := if_pos rfl
theorem upd_ne {f : Nat → Int32} {k j : Nat} {x : Int32} (h : ¬ j = k) : upd f k x j = f j := if_neg h
theorem ilt {x y : Int32} : x < y ↔ x.toInt < y.toInt := Int32.lt_iff_toInt_lt
theorem ile {x y : Int32} : x ≤ y ↔ x.toInt ≤ y.toInt := Int32.le_iff_toInt_le
theorem ieq {x y : Int32} (h : x.toInt = y.toInt) : x = y := Int32.toInt_inj.mp h
theorem i0 : (0 : Int32).toInt = 0 := by decide
theorem i1 : (1 : Int32).toInt = 1 := by decide
theorem i60 : (60 : Int32).toInt = 60 := by decide
def Fs (n : Nat) (g : Nat → Int32) (f : Nat → Int32) : Prop := ∀ i, i = 4 ∨ i = 5 → f i = -1 ∨ ∃ j, j < n ∧ f i = nI j ∧ g j = 0
def Iv (n : Nat) (b : XBr) : Prop :=
  (n ≤ 40 ∧ b.2.2.1 0 = nI n) ∧
  (0 ≤ (b.1 0).toInt ∧ 0 ≤ (b.1 1).toInt ∧ (b.1 1).toInt ≤ 60 ∧ 0 ≤ (b.1 2).toInt ∧ (b.1 2).toInt ≤ 30 ∧ 0 ≤ (b.1 4).toInt ∧ (b.1 4).toInt ≤ 4 ∧ (b.1 8 = 0 ∨ b.1 8 = 1)) ∧
  (∀ j, j < 8 → -3 ≤ (b.2.1 j).toInt ∧ (b.2.1 j).toInt ≤ 3) ∧
  (∀ k, k < n → (b.2.2.2 0 k = 0 ∨ b.2.2.2 0 k = 1) ∧ (1 ≤ (b.2.2.2 1 k).toInt ∧ (b.2.2.2 1 k).toInt ≤ 6) ∧ (b.2.2.2 2 k = 1 → b.1 6 = nI k) ∧ (b.2.2.2 4 k = -1 ∨ b.2.2.2 2 k = 2)) ∧
  (b.1 6 = -1 ∨ ∃ j, j < n ∧ b.1 6 = nI j ∧ b.2.2.2 2 j = 1 ∧ 1 ≤ (b.1 7).toInt ∧ (b.1 7).toInt ≤ 6 ∧ b.1 1 = 60 * b.2.2.2 0 j) ∧
  Fs n (b.2.2.2 2) b.2.2.1
theorem nOk_n {n : Nat} (h : n ≤ 40) : nOk (nI n) := by
  unfold nOk
  rw [nI_toInt (by omega)]
  omega
theorem Iv.nB {n : Nat} {b : XBr} (h : Iv n b) : nOk (b.2.2.1 0) := by
  rw [h.1.2]
  exact nOk_n h.1.1
theorem Iv.m0 {n : Nat} {b : XBr} (h : Iv n b) : 0 ≤ (b.1 0).toInt := h.2.1.1
theorem Iv.z {n : Nat} {b : XBr} (h : Iv n b) : b.1 8 = 0 ∨ b.1 8 = 1 := h.2.1.2.2.2.2.2.2.2
theorem iv_B0 : Iv 0 B0 := by
  refine ⟨⟨by decide, by decide⟩, ⟨by decide, by decide, by decide, by decide, by decide, by decide, by decide, Or.inl rfl⟩, fun j _ => ⟨by show -3 ≤ (0 : Int32).toInt; decide, by show (0 : Int32).toInt ≤ 3; decide⟩, fun k h => absurd h (Nat.not_lt_zero k), Or.inl rfl, fun i hi => Or.inl ?_⟩
  rcases hi with rfl | rfl
  · rfl
  · rfl
/-! who waits, seen anew -/
theorem sw_fs {g : Nat → Nat → Int32} {n : Nat} (hn : n ≤ 40) : ∀ (k : Nat) (f : Nat → Int32), k ≤ n → Fs n (g 2) f → Fs n (g 2) (sw g k f)
  | 0, f, _, h => h
  | k + 1, f, hk, h => by
    refine sw_fs hn k (sw_step g k f) (by omega) ?_
    unfold sw_step
    by_cases c : g 2 k = 0
    · rw [if_pos c]
      by_cases d : g 0 k = 1
      · rw [if_pos d]
        intro i hi
        rcases hi with rfl | rfl
        · exact Or.inr ⟨k, by omega, rfl, c⟩
        · exact h 5 (Or.inr rfl)
      · rw [if_neg d]
        intro i hi
        rcases hi with rfl | rfl
        · exact h 4 (Or.inl rfl)
        · exact Or.inr ⟨k, by omega, rfl, c⟩
    · rw [if_neg c]
      exact h
theorem see_iv {n : Nat} (hn : n ≤ 40) {t : XT} (ht : t.1 0 = nI n) : (s_X1_seeWhoWaits t).2 = t.2 ∧ (s_X1_seeWhoWaits t).1 0 = nI n ∧ (s_X1_seeWhoWaits t).1 1 = t.1 1 ∧ Fs n (t.2 2) (s_X1_seeWhoWaits t).1 := by
  have e : (t.1 0).toNatClampNeg = n := by rw [ht, nI_clamp (by omega)]
  unfold s_X1_seeWhoWaits
  rw [e]
  refine ⟨rfl, ?_, ?_, ?_⟩
  · show sw t.2 n _ 0 = _
    rw [sw_le t.2 0 (by decide) (by decide) (by decide) (by decide)]
    exact ht
  · show sw t.2 n _ 1 = _
    rw [sw_le t.2 1 (by decide) (by decide) (by decide) (by decide)]
    rfl
  · refine sw_fs hn n _ (Nat.le_refl n) (fun i hi => Or.inl ?_)
    rcases hi with rfl | rfl
    · rfl
    · rfl
theorem has_n {n : Nat} (hn : n ≤ 40) {t : XT} (ht : t.1 0 = nI n) {j : Nat} (hj : j < n) : r_X1_has t (nI j) = 1 := by
  unfold r_X1_has
  have h1 := nI_toInt (n := j) (by omega)
  have h2 := nI_toInt (n := n) (by omega)
  rw [if_neg (by rw [ilt, i0]; omega), ht, if_neg (by rw [ile]; omega)]
theorem has_m1 (t : XT) : r_X1_has t (-1) = 0 := by
  unfold r_X1_has
  rw [if_pos (by decide)]
theorem has_ne {n : Nat} (hn : n ≤ 40) {t : XT} (ht : t.1 0 = nI n) {j : Nat} (hj : j < n) : ¬ r_X1_has t (nI j) = 0 := by
  rw [has_n hn ht hj]
  decide
theorem cl40 {j : Nat} (h : j < 1000) : (nI j).toNatClampNeg = j := nI_clamp (by omega)
theorem p1I {n : Nat} (h : n < 1000) : nI n + 1 = nI (n + 1) := (nI_succ n).symm
/-! come -/
theorem iv_come {n : Nat} {b : XBr} (h : Iv n b) (hn : n < 40) {bg mn : Int32} (h1 : 1 ≤ mn.toInt) (h6 : mn.toInt ≤ 6) :
    x_X2_come b bg mn = 0 ∧ r_X2_come b bg mn = nI n ∧ Iv (n + 1) (s_X2_come b bg mn) ∧ (s_X2_come b bg mn).1 = b.1 ∧ (s_X2_come b bg mn).2.1 = b.2.1 := by
  obtain ⟨⟨n40, bn⟩, hs, hc, ht, hp, hf⟩ := h
  have k1 : ¬ mn < 1 := by rw [ilt, i1]; omega
  have k6 : mn ≤ 6 := by
    rw [ile]
    have : (6 : Int32).toInt = 6 := by decide
    omega
  have k40 : b.2.2.1 0 < 40 := by
    rw [bn, ilt, nI_toInt (by omega)]
    have : (40 : Int32).toInt = 40 := by decide
    omega
  have e : (b.2.2.1 0).toNatClampNeg = n := by rw [bn, nI_clamp (by omega)]
  refine ⟨?_, ?_, ?_⟩
  · unfold x_X2_come
    rw [if_neg k1, if_pos k6, if_pos k40]
  · unfold r_X2_come r_X1_add
    rw [if_neg k1, if_pos k6, if_pos k40, bn]
    split <;> rfl
  have key : ∀ bv : Int32, (bv = 0 ∨ bv = 1) → Iv (n + 1) (b.1, b.2.1, s_X1_seeWhoWaits (xs b.2.2.1 0 ((b.2.2.1 0) + (1 : Int32)), xa (xa (xa (xa (xa b.2.2.2 0 (upd (b.2.2.2 0) (b.2.2.1 0).toNatClampNeg bv)) 1 (upd (b.2.2.2 1) (b.2.2.1 0).toNatClampNeg mn)) 2 (upd (b.2.2.2 2) (b.2.2.1 0).toNatClampNeg (0 : Int32))) 3 (upd (b.2.2.2 3) (b.2.2.1 0).toNatClampNeg (b.1 0))) 4 (upd (b.2.2.2 4) (b.2.2.1 0).toNatClampNeg (-1 : Int32)))) := by
    intro bv hbv
    rw [e]
    obtain ⟨q1, q2, q3, q4⟩ := see_iv (n := n + 1) (by omega) (t := (xs b.2.2.1 0 ((b.2.2.1 0) + (1 : Int32)), xa (xa (xa (xa (xa b.2.2.2 0 (upd (b.2.2.2 0) n bv)) 1 (upd (b.2.2.2 1) n mn)) 2 (upd (b.2.2.2 2) n (0 : Int32))) 3 (upd (b.2.2.2 3) n (b.1 0))) 4 (upd (b.2.2.2 4) n (-1 : Int32)))) (by
      show b.2.2.1 0 + 1 = _
      rw [bn]
      exact p1I (by omega))
    generalize s_X1_seeWhoWaits (xs b.2.2.1 0 ((b.2.2.1 0) + (1 : Int32)), xa (xa (xa (xa (xa b.2.2.2 0 (upd (b.2.2.2 0) n bv)) 1 (upd (b.2.2.2 1) n mn)) 2 (upd (b.2.2.2 2) n (0 : Int32))) 3 (upd (b.2.2.2 3) n (b.1 0))) 4 (upd (b.2.2.2 4) n (-1 : Int32))) = t' at q1 q2 q3 q4 ⊢
    refine ⟨⟨by omega, q2⟩, hs, hc, fun k hk => ?_, ?_, ?_⟩
    · show (t'.2 0 k = 0 ∨ t'.2 0 k = 1) ∧ (1 ≤ (t'.2 1 k).toInt ∧ (t'.2 1 k).toInt ≤ 6) ∧ (t'.2 2 k = 1 → b.1 6 = nI k) ∧ (t'.2 4 k = -1 ∨ t'.2 2 k = 2)
      rw [q1]
      show (upd (b.2.2.2 0) n bv k = 0 ∨ upd (b.2.2.2 0) n bv k = 1) ∧ (1 ≤ (upd (b.2.2.2 1) n mn k).toInt ∧ (upd (b.2.2.2 1) n mn k).toInt ≤ 6) ∧ (upd (b.2.2.2 2) n 0 k = 1 → b.1 6 = nI k) ∧ (upd (b.2.2.2 4) n (-1) k = -1 ∨ upd (b.2.2.2 2) n 0 k = 2)
      by_cases c : k = n
      · subst c
        rw [upd_at, upd_at, upd_at, upd_at]
        exact ⟨hbv, ⟨h1, h6⟩, fun q => absurd q (by decide), Or.inl rfl⟩
      · rw [upd_ne c, upd_ne c, upd_ne c, upd_ne c]
        exact ht k (by omega)
    · rcases hp with q | ⟨j, p1, p2, p3, p4, p5, p6⟩
      · exact Or.inl q
      · refine Or.inr ⟨j, by omega, p2, ?_, p4, p5, ?_⟩
        · show t'.2 2 j = 1
          rw [q1]
          show upd (b.2.2.2 2) n 0 j = 1
          rw [upd_ne (by omega)]
          exact p3
        · show b.1 1 = 60 * t'.2 0 j
          rw [q1]
          show b.1 1 = 60 * upd (b.2.2.2 0) n bv j
          rw [upd_ne (by omega)]
          exact p6
    · show Fs (n + 1) (t'.2 2) t'.1
      rw [q1]
      exact q4
  unfold s_X2_come
  rw [if_neg k1, if_pos k6, if_pos k40]
  refine ⟨?_, rfl, rfl⟩
  unfold g1_X2_come s_X1_add
  by_cases c : bg = 0
  · rw [if_pos c]
    exact key 0 (Or.inl rfl)
  · rw [if_neg c]
    exact key 1 (Or.inr rfl)
/-! a wait's end -/
theorem endWait_t {n j : Nat} (hn : n ≤ 40) (hj : j < n) {t : XT} (ht : t.1 0 = nI n) (st mi : Int32) :
    (s_X1_endWait t (nI j) st mi).2 = xa (xa t.2 2 (upd (t.2 2) j st)) 5 (upd (t.2 5) j mi) ∧ (s_X1_endWait t (nI j) st mi).1 0 = nI n ∧ (s_X1_endWait t (nI j) st mi).1 1 = t.1 1 ∧ Fs n (upd (t.2 2) j st) (s_X1_endWait t (nI j) st mi).1 := by
  unfold s_X1_endWait g1_X1_endWait
  rw [cl40 (show j < 1000 by omega)]
  exact see_iv hn (t := (t.1, xa (xa t.2 2 (upd (t.2 2) j st)) 5 (upd (t.2 5) j mi))) ht
/-- what a traveller tells -/
def wt (b : XBr) (i : Nat) : Int32 := (if b.2.2.2 2 i = 0 then b.1 0 else b.2.2.2 5 i) - b.2.2.2 3 i
def lf (b : XBr) (i : Nat) : Int32 := if nI i = b.1 6 then b.1 7 else 0
def fc (b : XBr) (i w : Nat) : Int32 := if w = 0 then b.2.2.2 0 i else if w = 1 then b.2.2.2 1 i else if w = 2 then b.2.2.2 2 i else if w = 3 then b.2.2.2 3 i else if w = 4 then wt b i else if w = 5 then lf b i else b.2.2.2 4 i
theorem nI_eq_iff {i j : Nat} (hi : i < 1000) (hj : j < 1000) : nI i = nI j ↔ i = j := ⟨nI_inj hi hj, fun h => by rw [h]⟩
theorem waited_e {t : XT} {i : Nat} (hi : i < 1000) (mi : Int32) : r_X1_waited t (nI i) mi = (if t.2 2 i = 0 then mi else t.2 5 i) - t.2 3 i := by
  unfold r_X1_waited
  rw [cl40 hi]
  by_cases c : t.2 2 i = 0
  · rw [if_pos c, if_pos c]
  · rw [if_neg c, if_neg c]
theorem fc_e {b : XBr} {i w : Nat} (hi : i < 40) (hw : w < 7) : r_X0_factOf b (nI i) (nI w) = fc b i w := by
  unfold r_X0_factOf fc
  rw [cl40 (show i < 1000 by omega)]
  rw [waited_e (by omega)]
  rcases (show w = 0 ∨ w = 1 ∨ w = 2 ∨ w = 3 ∨ w = 4 ∨ w = 5 ∨ w = 6 by omega) with rfl | rfl | rfl | rfl | rfl | rfl | rfl
  · rfl
  · rfl
  · rfl
  · rfl
  · rfl
  · rfl
  · rfl
theorem tr_x {n : Nat} {b : XBr} (h : Iv n b) {i w : Nat} (hi : i < n) (hw : w < 7) : x_X2_traveller b (nI i) (nI w) = 0 := by
  have n40 := h.1.1
  have e := nI_toInt (n := w) (by omega)
  have e7 : (7 : Int32).toInt = 7 := by decide
  unfold x_X2_traveller
  rw [if_neg (has_ne n40 h.1.2 hi), if_neg (by rw [ilt, i0]; omega), if_pos (by rw [ilt]; omega)]
theorem tr_r {n : Nat} {b : XBr} (h : Iv n b) {i w : Nat} (hi : i < n) (hw : w < 7) : r_X2_traveller b (nI i) (nI w) = fc b i w := by
  have n40 := h.1.1
  have e := nI_toInt (n := w) (by omega)
  have e7 : (7 : Int32).toInt = 7 := by decide
  unfold r_X2_traveller
  rw [if_neg (has_ne n40 h.1.2 hi), if_neg (by rw [ilt, i0]; omega), if_pos (by rw [ilt]; omega)]
  exact fc_e (by omega) hw
/-! leave -/
theorem iv_leave {n : Nat} {b : XBr} (h : Iv n b) {j : Nat} (hj : j < n) :
    ¬ x_X2_leave b (nI j) = 1 ∧ Iv n (s_X2_leave b (nI j)) ∧ (s_X2_leave b (nI j)).1 = b.1 ∧ (s_X2_leave b (nI j)).2.1 = b.2.1 ∧
    r_L_leave b (nI j) = (if fc b j 2 = 0 then fc b j 4 else -1) ∧ (fc b j 2 = 0 → fc (s_X2_leave b (nI j)) j 2 = 3) := by
  obtain ⟨⟨n40, bn⟩, hs, hc, ht, hp, hf⟩ := h
  have hh := has_ne n40 bn hj
  have ej := cl40 (show j < 1000 by omega)
  have g2 : fc b j 2 = b.2.2.2 2 j := rfl
  have g4 : fc b j 4 = wt b j := rfl
  unfold r_L_leave x_X2_leave s_X2_leave r_X2_leave
  rw [if_neg hh, if_neg hh, if_neg hh, ej, g2, g4]
  by_cases c : b.2.2.2 2 j = 0
  · rw [if_pos c, if_pos c, if_pos c, if_pos c, if_pos rfl]
    obtain ⟨q1, q2, q3, q4⟩ := endWait_t n40 hj bn (3 : Int32) (b.1 0)
    unfold g1_X2_leave
    generalize s_X1_endWait b.2.2 (nI j) (3 : Int32) (b.1 0) = t' at q1 q2 q3 q4 ⊢
    have a2 : ∀ k, t'.2 2 k = upd (b.2.2.2 2) j 3 k := fun k => by rw [q1]; rfl
    have a5 : ∀ k, t'.2 5 k = upd (b.2.2.2 5) j (b.1 0) k := fun k => by rw [q1]; rfl
    have a0 : ∀ k, t'.2 0 k = b.2.2.2 0 k := fun k => by rw [q1]; rfl
    have a1 : ∀ k, t'.2 1 k = b.2.2.2 1 k := fun k => by rw [q1]; rfl
    have a3 : ∀ k, t'.2 3 k = b.2.2.2 3 k := fun k => by rw [q1]; rfl
    have a4 : ∀ k, t'.2 4 k = b.2.2.2 4 k := fun k => by rw [q1]; rfl
    refine ⟨by decide, ⟨⟨n40, q2⟩, hs, hc, fun k hk => ?_, ?_, ?_⟩, rfl, rfl, ?_, fun _ => ?_⟩
    · show (t'.2 0 k = 0 ∨ t'.2 0 k = 1) ∧ (1 ≤ (t'.2 1 k).toInt ∧ (t'.2 1 k).toInt ≤ 6) ∧ (t'.2 2 k = 1 → b.1 6 = nI k) ∧ (t'.2 4 k = -1 ∨ t'.2 2 k = 2)
      rw [a0, a1, a2, a4]
      obtain ⟨r0, r1, r2, r3⟩ := ht k hk
      by_cases d : k = j
      · subst d
        rw [upd_at]
        refine ⟨r0, r1, fun q => absurd q (by decide), Or.inl ?_⟩
        rcases r3 with r3 | r3
        · exact r3
        · rw [c] at r3
          exact absurd r3 (by decide)
      · rw [upd_ne d]
        exact ⟨r0, r1, r2, r3⟩
    · rcases hp with q | ⟨i, p1, p2, p3, p4, p5, p6⟩
      · exact Or.inl q
      · refine Or.inr ⟨i, p1, p2, ?_, p4, p5, ?_⟩
        · show t'.2 2 i = 1
          rw [a2, upd_ne (fun q => ?_)]
          · exact p3
          · subst q
            rw [c] at p3
            exact absurd p3 (by decide)
        · show b.1 1 = 60 * t'.2 0 i
          rw [a0]
          exact p6
    · intro i hi
      have := q4 i hi
      rcases this with q | ⟨k, k1, k2, k3⟩
      · exact Or.inl q
      · exact Or.inr ⟨k, k1, k2, (a2 k).trans k3⟩
    · rw [waited_e (by omega)]
      unfold wt
      rw [a2, upd_at, a5, upd_at, a3, if_neg (by decide), if_pos c]
    · show t'.2 2 j = 3
      rw [a2, upd_at]
  · rw [if_neg c, if_neg c, if_neg c, if_neg c, if_neg (by decide)]
    exact ⟨by decide, ⟨⟨n40, bn⟩, hs, hc, ht, hp, hf⟩, rfl, rfl, rfl, fun q => absurd q c⟩
/-! ring, poise, setCold, crack -/
theorem iv_ring {n : Nat} {b : XBr} (h : Iv n b) {c : Nat} (hc4 : c < 5) :
    x_X2_ring b (nI c) = 0 ∧ r_X2_ring b (nI c) = b.1 4 ∧ s_X2_ring b (nI c) = (xs b.1 4 (nI c), b.2) ∧ Iv n (s_X2_ring b (nI c)) ∧ (s_X2_ring b (nI c)).1 0 = b.1 0 ∧ (s_X2_ring b (nI c)).2.1 = b.2.1 := by
  obtain ⟨hn, ⟨s0, s1, s2, s3, s4, s5, s6, s7⟩, hc, ht, hp, hf⟩ := h
  have e := nI_toInt (n := c) (by omega)
  have e4 : (4 : Int32).toInt = 4 := by decide
  have k1 : ¬ nI c < 0 := by rw [ilt, i0]; omega
  have k2 : nI c ≤ 4 := by rw [ile]; omega
  have hS : s_X2_ring b (nI c) = (xs b.1 4 (nI c), b.2) := by
    unfold s_X2_ring
    rw [if_neg k1, if_pos k2]
  refine ⟨by unfold x_X2_ring; rw [if_neg k1, if_pos k2], by unfold r_X2_ring; rw [if_neg k1, if_pos k2], hS, ?_, ?_, ?_⟩
  · rw [hS]
    refine ⟨hn, ⟨s0, s1, s2, s3, s4, ?_, ?_, s7⟩, hc, ht, hp, hf⟩
    · show 0 ≤ (nI c).toInt
      omega
    · show (nI c).toInt ≤ 4
      omega
  · rw [hS]
    rfl
  · rw [hS]
theorem iv_poise {n : Nat} {b : XBr} (h : Iv n b) {c : Nat} (hc4 : c < 31) :
    ¬ x_X2_poise b (nI c) = 1 ∧ r_L_poise b (nI c) = (if b.1 1 = 0 then b.1 2 else if b.1 1 = 60 then b.1 2 else -1) ∧ Iv n (s_X2_poise b (nI c)) ∧ (s_X2_poise b (nI c)).1 0 = b.1 0 ∧ (s_X2_poise b (nI c)).2.1 = b.2.1 ∧ (b.1 1 = 0 → x_X2_poise b (nI c) = 0) := by
  have h0 := h
  obtain ⟨hn, ⟨s0, s1, s2, s3, s4, s5, s6, s7⟩, hc, ht, hp, hf⟩ := h
  have e := nI_toInt (n := c) (by omega)
  have e4 : (30 : Int32).toInt = 30 := by decide
  have k1 : ¬ nI c < 0 := by rw [ilt, i0]; omega
  have k2 : nI c ≤ 30 := by rw [ile]; omega
  have hi : Iv n (xs b.1 2 (nI c), b.2) := by
    refine ⟨hn, ⟨s0, s1, s2, ?_, ?_, s5, s6, s7⟩, hc, ht, hp, hf⟩
    · show 0 ≤ (nI c).toInt
      omega
    · show (nI c).toInt ≤ 30
      omega
  unfold r_L_poise x_X2_poise r_X2_poise s_X2_poise
  rw [if_neg k1, if_neg k1, if_neg k1, if_pos k2, if_pos k2, if_pos k2]
  by_cases c1 : b.1 1 = 0
  · rw [if_pos c1, if_pos c1, if_pos c1, if_pos c1, if_pos rfl]
    exact ⟨by decide, rfl, hi, rfl, rfl, fun _ => rfl⟩
  · rw [if_neg c1, if_neg c1, if_neg c1, if_neg c1]
    by_cases c2 : b.1 1 = 60
    · rw [if_pos c2, if_pos c2, if_pos c2, if_pos c2, if_pos rfl]
      exact ⟨by decide, rfl, hi, rfl, rfl, fun _ => rfl⟩
    · rw [if_neg c2, if_neg c2, if_neg c2, if_neg c2, if_neg (by decide)]
      exact ⟨by decide, rfl, h0, rfl, rfl, fun q => absurd q c1⟩
theorem iv_setCold {n : Nat} {b : XBr} (h : Iv n b) {k : Nat} (hk : k < 8) {cv : Int32} (h1 : -3 ≤ cv.toInt) (h2 : cv.toInt ≤ 3) :
    x_X2_setCold b (nI k) cv = 0 ∧ r_X2_setCold b (nI k) cv = b.2.1 k ∧ s_X2_setCold b (nI k) cv = (b.1, upd b.2.1 k cv, b.2.2) ∧ Iv n (b.1, upd b.2.1 k cv, b.2.2) := by
  obtain ⟨hn, hs, hc, ht, hp, hf⟩ := h
  have e := nI_toInt (n := k) (by omega)
  have e8 : (8 : Int32).toInt = 8 := by decide
  have e3 : (3 : Int32).toInt = 3 := by decide
  have em3 : (-3 : Int32).toInt = -3 := by decide
  have k1 : ¬ nI k < 0 := by rw [ilt, i0]; omega
  have k2 : nI k < 8 := by rw [ilt]; omega
  have k3 : ¬ cv < -3 := by rw [ilt]; omega
  have k4 : cv ≤ 3 := by rw [ile]; omega
  refine ⟨by unfold x_X2_setCold; rw [if_neg k1, if_pos k2, if_neg k3, if_pos k4], ?_, ?_, hn, hs, fun j hj => ?_, ht, hp, hf⟩
  · unfold r_X2_setCold
    rw [if_neg k1, if_pos k2, if_neg k3, if_pos k4, cl40 (by omega)]
  · unfold s_X2_setCold
    rw [if_neg k1, if_pos k2, if_neg k3, if_pos k4, cl40 (by omega)]
  · show -3 ≤ (upd b.2.1 k cv j).toInt ∧ (upd b.2.1 k cv j).toInt ≤ 3
    by_cases c : j = k
    · subst c
      rw [upd_at]
      exact ⟨h1, h2⟩
    · rw [upd_ne c]
      exact hc j hj
theorem upd_back (f : Nat → Int32) (k : Nat) (x : Int32) : upd (upd f k x) k (f k) = f := by
  funext j
  by_cases c : j = k
  · subst c
    rw [upd_at]
  · rw [upd_ne c, upd_ne c]
theorem iv_crack {n : Nat} {b : XBr} (h : Iv n b) : Iv n (s_X2_crack b) ∧ (s_X2_crack b).1 0 = b.1 0 ∧ (s_X2_crack b).2.1 = b.2.1 := by
  obtain ⟨hn, hs, hc, ht, hp, hf⟩ := h
  exact ⟨⟨hn, hs, hc, ht, hp, hf⟩, rfl, rfl⟩
